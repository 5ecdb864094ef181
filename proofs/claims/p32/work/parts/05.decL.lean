theorem dL_cell_0 : decode cL_cell 0 = .ok (.iload_n 1, 1) := by decide +kernel
theorem dL_cell_1 : decode cL_cell 1 = .ok (.aload_n 0, 1) := by decide +kernel
theorem dL_cell_2 : decode cL_cell 2 = .ok (.arraylength, 1) := by decide +kernel
theorem dL_cell_3 : decode cL_cell 3 = .ok (.if_icmp .ge 9, 3) := by decide +kernel
theorem dL_cell_6 : decode cL_cell 6 = .ok (.aload_n 0, 1) := by decide +kernel
theorem dL_cell_7 : decode cL_cell 7 = .ok (.iload_n 1, 1) := by decide +kernel
theorem dL_cell_8 : decode cL_cell 8 = .ok (.iaload, 1) := by decide +kernel
theorem dL_cell_9 : decode cL_cell 9 = .ok (.goto 11, 3) := by decide +kernel
theorem dL_cell_12 : decode cL_cell 12 = .ok (.ldc 7, 2) := by decide +kernel
theorem dL_cell_14 : decode cL_cell 14 = .ok (.iload_n 1, 1) := by decide +kernel
theorem dL_cell_15 : decode cL_cell 15 = .ok (.sipush 1619, 3) := by decide +kernel
theorem dL_cell_18 : decode cL_cell 18 = .ok (.iadd, 1) := by decide +kernel
theorem dL_cell_19 : decode cL_cell 19 = .ok (.imul, 1) := by decide +kernel
theorem dL_cell_20 : decode cL_cell 20 = .ok (.ireturn, 1) := by decide +kernel
theorem dL_up_0 : decode cL_up 0 = .ok (.iload_n 0, 1) := by decide +kernel
theorem dL_up_1 : decode cL_up 1 = .ok (.ldc 8, 2) := by decide +kernel
theorem dL_up_3 : decode cL_up 3 = .ok (.iand, 1) := by decide +kernel
theorem dL_up_4 : decode cL_up 4 = .ok (.iload_n 1, 1) := by decide +kernel
theorem dL_up_5 : decode cL_up 5 = .ok (.irem, 1) := by decide +kernel
theorem dL_up_6 : decode cL_up 6 = .ok (.ireturn, 1) := by decide +kernel
theorem dL_law_0 : decode cL_law 0 = .ok (.new 9, 3) := by decide +kernel
theorem dL_law_3 : decode cL_law 3 = .ok (.dup, 1) := by decide +kernel
theorem dL_law_4 : decode cL_law 4 = .ok (.invokespecial 11, 3) := by decide +kernel
theorem dL_law_7 : decode cL_law 7 = .ok (.astore_n 1, 1) := by decide +kernel
theorem dL_law_8 : decode cL_law 8 = .ok (.iconst 0, 1) := by decide +kernel
theorem dL_law_9 : decode cL_law 9 = .ok (.istore_n 2, 1) := by decide +kernel
theorem dL_law_10 : decode cL_law 10 = .ok (.aload_n 1, 1) := by decide +kernel
theorem dL_law_11 : decode cL_law 11 = .ok (.aload_n 0, 1) := by decide +kernel
theorem dL_law_12 : decode cL_law 12 = .ok (.iload_n 2, 1) := by decide +kernel
theorem dL_law_13 : decode cL_law 13 = .ok (.iinc 2 1, 3) := by decide +kernel
theorem dL_law_16 : decode cL_law 16 = .ok (.invokestatic 12, 3) := by decide +kernel
theorem dL_law_19 : decode cL_law 19 = .ok (.invokestatic 18, 3) := by decide +kernel
theorem dL_law_22 : decode cL_law 22 = .ok (.ifCond .ne 5, 3) := by decide +kernel
theorem dL_law_25 : decode cL_law 25 = .ok (.iconst 0, 1) := by decide +kernel
theorem dL_law_26 : decode cL_law 26 = .ok (.ireturn, 1) := by decide +kernel
theorem dL_law_27 : decode cL_law 27 = .ok (.aload_n 1, 1) := by decide +kernel
theorem dL_law_28 : decode cL_law 28 = .ok (.aload_n 0, 1) := by decide +kernel
theorem dL_law_29 : decode cL_law 29 = .ok (.iload_n 2, 1) := by decide +kernel
theorem dL_law_30 : decode cL_law 30 = .ok (.iinc 2 1, 3) := by decide +kernel
theorem dL_law_33 : decode cL_law 33 = .ok (.invokestatic 12, 3) := by decide +kernel
theorem dL_law_36 : decode cL_law 36 = .ok (.ldc 22, 2) := by decide +kernel
theorem dL_law_38 : decode cL_law 38 = .ok (.invokestatic 23, 3) := by decide +kernel
theorem dL_law_41 : decode cL_law 41 = .ok (.invokevirtual 27, 3) := by decide +kernel
theorem dL_law_44 : decode cL_law 44 = .ok (.iconst 1, 1) := by decide +kernel
theorem dL_law_45 : decode cL_law 45 = .ok (.if_icmp .eq 5, 3) := by decide +kernel
theorem dL_law_48 : decode cL_law 48 = .ok (.iconst 0, 1) := by decide +kernel
theorem dL_law_49 : decode cL_law 49 = .ok (.ireturn, 1) := by decide +kernel
theorem dL_law_50 : decode cL_law 50 = .ok (.iconst 0, 1) := by decide +kernel
theorem dL_law_51 : decode cL_law 51 = .ok (.istore_n 3, 1) := by decide +kernel
theorem dL_law_52 : decode cL_law 52 = .ok (.iload_n 3, 1) := by decide +kernel
theorem dL_law_53 : decode cL_law 53 = .ok (.iconst 4, 1) := by decide +kernel
theorem dL_law_54 : decode cL_law 54 = .ok (.if_icmp .ge 26, 3) := by decide +kernel
theorem dL_law_57 : decode cL_law 57 = .ok (.aload_n 1, 1) := by decide +kernel
theorem dL_law_58 : decode cL_law 58 = .ok (.aload_n 0, 1) := by decide +kernel
theorem dL_law_59 : decode cL_law 59 = .ok (.iload_n 2, 1) := by decide +kernel
theorem dL_law_60 : decode cL_law 60 = .ok (.iinc 2 1, 3) := by decide +kernel
theorem dL_law_63 : decode cL_law 63 = .ok (.invokestatic 12, 3) := by decide +kernel
theorem dL_law_66 : decode cL_law 66 = .ok (.invokestatic 31, 3) := by decide +kernel
theorem dL_law_69 : decode cL_law 69 = .ok (.ifCond .ne 5, 3) := by decide +kernel
theorem dL_law_72 : decode cL_law 72 = .ok (.iconst 0, 1) := by decide +kernel
theorem dL_law_73 : decode cL_law 73 = .ok (.ireturn, 1) := by decide +kernel
theorem dL_law_74 : decode cL_law 74 = .ok (.iinc 3 1, 3) := by decide +kernel
theorem dL_law_77 : decode cL_law 77 = .ok (.goto (-25), 3) := by decide +kernel
theorem dL_law_80 : decode cL_law 80 = .ok (.iconst 2, 1) := by decide +kernel
theorem dL_law_81 : decode cL_law 81 = .ok (.aload_n 0, 1) := by decide +kernel
theorem dL_law_82 : decode cL_law 82 = .ok (.iload_n 2, 1) := by decide +kernel
theorem dL_law_83 : decode cL_law 83 = .ok (.iinc 2 1, 3) := by decide +kernel
theorem dL_law_86 : decode cL_law 86 = .ok (.invokestatic 12, 3) := by decide +kernel
theorem dL_law_89 : decode cL_law 89 = .ok (.bipush 6, 2) := by decide +kernel
theorem dL_law_91 : decode cL_law 91 = .ok (.invokestatic 23, 3) := by decide +kernel
theorem dL_law_94 : decode cL_law 94 = .ok (.iadd, 1) := by decide +kernel
theorem dL_law_95 : decode cL_law 95 = .ok (.istore_n 3, 1) := by decide +kernel
theorem dL_law_96 : decode cL_law 96 = .ok (.iconst 0, 1) := by decide +kernel
theorem dL_law_97 : decode cL_law 97 = .ok (.istore 4, 2) := by decide +kernel
theorem dL_law_99 : decode cL_law 99 = .ok (.iload 4, 2) := by decide +kernel
theorem dL_law_101 : decode cL_law 101 = .ok (.iload_n 3, 1) := by decide +kernel
theorem dL_law_102 : decode cL_law 102 = .ok (.if_icmp .ge 34, 3) := by decide +kernel
theorem dL_law_105 : decode cL_law 105 = .ok (.aload_n 1, 1) := by decide +kernel
theorem dL_law_106 : decode cL_law 106 = .ok (.aload_n 0, 1) := by decide +kernel
theorem dL_law_107 : decode cL_law 107 = .ok (.iload_n 2, 1) := by decide +kernel
theorem dL_law_108 : decode cL_law 108 = .ok (.invokestatic 12, 3) := by decide +kernel
theorem dL_law_111 : decode cL_law 111 = .ok (.iload 4, 2) := by decide +kernel
theorem dL_law_113 : decode cL_law 113 = .ok (.ishr, 1) := by decide +kernel
theorem dL_law_114 : decode cL_law 114 = .ok (.sipush 5000, 3) := by decide +kernel
theorem dL_law_117 : decode cL_law 117 = .ok (.invokestatic 23, 3) := by decide +kernel
theorem dL_law_120 : decode cL_law 120 = .ok (.invokevirtual 34, 3) := by decide +kernel
theorem dL_law_123 : decode cL_law 123 = .ok (.iload 4, 2) := by decide +kernel
theorem dL_law_125 : decode cL_law 125 = .ok (.if_icmp .eq 5, 3) := by decide +kernel
theorem dL_law_128 : decode cL_law 128 = .ok (.iconst 0, 1) := by decide +kernel
theorem dL_law_129 : decode cL_law 129 = .ok (.ireturn, 1) := by decide +kernel
theorem dL_law_130 : decode cL_law 130 = .ok (.iinc 4 1, 3) := by decide +kernel
theorem dL_law_133 : decode cL_law 133 = .ok (.goto (-34), 3) := by decide +kernel
theorem dL_law_136 : decode cL_law 136 = .ok (.iconst 2, 1) := by decide +kernel
theorem dL_law_137 : decode cL_law 137 = .ok (.aload_n 0, 1) := by decide +kernel
theorem dL_law_138 : decode cL_law 138 = .ok (.iload_n 2, 1) := by decide +kernel
theorem dL_law_139 : decode cL_law 139 = .ok (.iinc 2 1, 3) := by decide +kernel
theorem dL_law_142 : decode cL_law 142 = .ok (.invokestatic 12, 3) := by decide +kernel
theorem dL_law_145 : decode cL_law 145 = .ok (.bipush 7, 2) := by decide +kernel
theorem dL_law_147 : decode cL_law 147 = .ok (.ishr, 1) := by decide +kernel
theorem dL_law_148 : decode cL_law 148 = .ok (.bipush 6, 2) := by decide +kernel
theorem dL_law_150 : decode cL_law 150 = .ok (.invokestatic 23, 3) := by decide +kernel
theorem dL_law_153 : decode cL_law 153 = .ok (.iadd, 1) := by decide +kernel
theorem dL_law_154 : decode cL_law 154 = .ok (.istore 4, 2) := by decide +kernel
theorem dL_law_156 : decode cL_law 156 = .ok (.iconst 0, 1) := by decide +kernel
theorem dL_law_157 : decode cL_law 157 = .ok (.istore 5, 2) := by decide +kernel
theorem dL_law_159 : decode cL_law 159 = .ok (.iload 5, 2) := by decide +kernel
theorem dL_law_161 : decode cL_law 161 = .ok (.iload 4, 2) := by decide +kernel
theorem dL_law_163 : decode cL_law 163 = .ok (.if_icmp .ge 49, 3) := by decide +kernel
theorem dL_law_166 : decode cL_law 166 = .ok (.aload_n 1, 1) := by decide +kernel
theorem dL_law_167 : decode cL_law 167 = .ok (.aload_n 0, 1) := by decide +kernel
theorem dL_law_168 : decode cL_law 168 = .ok (.iload_n 2, 1) := by decide +kernel
theorem dL_law_169 : decode cL_law 169 = .ok (.invokestatic 12, 3) := by decide +kernel
theorem dL_law_172 : decode cL_law 172 = .ok (.iload 5, 2) := by decide +kernel
theorem dL_law_174 : decode cL_law 174 = .ok (.ishr, 1) := by decide +kernel
theorem dL_law_175 : decode cL_law 175 = .ok (.iconst 4, 1) := by decide +kernel
theorem dL_law_176 : decode cL_law 176 = .ok (.invokestatic 23, 3) := by decide +kernel
theorem dL_law_179 : decode cL_law 179 = .ok (.iconst 1, 1) := by decide +kernel
theorem dL_law_180 : decode cL_law 180 = .ok (.aload_n 0, 1) := by decide +kernel
theorem dL_law_181 : decode cL_law 181 = .ok (.iload_n 2, 1) := by decide +kernel
theorem dL_law_182 : decode cL_law 182 = .ok (.invokestatic 12, 3) := by decide +kernel
theorem dL_law_185 : decode cL_law 185 = .ok (.iconst 2, 1) := by decide +kernel
theorem dL_law_186 : decode cL_law 186 = .ok (.iload 5, 2) := by decide +kernel
theorem dL_law_188 : decode cL_law 188 = .ok (.imul, 1) := by decide +kernel
theorem dL_law_189 : decode cL_law 189 = .ok (.ishr, 1) := by decide +kernel
theorem dL_law_190 : decode cL_law 190 = .ok (.bipush 6, 2) := by decide +kernel
theorem dL_law_192 : decode cL_law 192 = .ok (.invokestatic 23, 3) := by decide +kernel
theorem dL_law_195 : decode cL_law 195 = .ok (.iadd, 1) := by decide +kernel
theorem dL_law_196 : decode cL_law 196 = .ok (.invokevirtual 37, 3) := by decide +kernel
theorem dL_law_199 : decode cL_law 199 = .ok (.iload 5, 2) := by decide +kernel
theorem dL_law_201 : decode cL_law 201 = .ok (.if_icmp .eq 5, 3) := by decide +kernel
theorem dL_law_204 : decode cL_law 204 = .ok (.iconst 0, 1) := by decide +kernel
theorem dL_law_205 : decode cL_law 205 = .ok (.ireturn, 1) := by decide +kernel
theorem dL_law_206 : decode cL_law 206 = .ok (.iinc 5 1, 3) := by decide +kernel
theorem dL_law_209 : decode cL_law 209 = .ok (.goto (-50), 3) := by decide +kernel
theorem dL_law_212 : decode cL_law 212 = .ok (.iinc 2 1, 3) := by decide +kernel
theorem dL_law_215 : decode cL_law 215 = .ok (.iconst 0, 1) := by decide +kernel
theorem dL_law_216 : decode cL_law 216 = .ok (.istore 5, 2) := by decide +kernel
theorem dL_law_218 : decode cL_law 218 = .ok (.iload 5, 2) := by decide +kernel
theorem dL_law_220 : decode cL_law 220 = .ok (.bipush 42, 2) := by decide +kernel
theorem dL_law_222 : decode cL_law 222 = .ok (.if_icmp .ge 110, 3) := by decide +kernel
theorem dL_law_225 : decode cL_law 225 = .ok (.aload_n 0, 1) := by decide +kernel
theorem dL_law_226 : decode cL_law 226 = .ok (.iload_n 2, 1) := by decide +kernel
theorem dL_law_227 : decode cL_law 227 = .ok (.iinc 2 1, 3) := by decide +kernel
theorem dL_law_230 : decode cL_law 230 = .ok (.invokestatic 12, 3) := by decide +kernel
theorem dL_law_233 : decode cL_law 233 = .ok (.istore 6, 2) := by decide +kernel
theorem dL_law_235 : decode cL_law 235 = .ok (.aload_n 1, 1) := by decide +kernel
theorem dL_law_236 : decode cL_law 236 = .ok (.iload 5, 2) := by decide +kernel
theorem dL_law_238 : decode cL_law 238 = .ok (.iconst 5, 1) := by decide +kernel
theorem dL_law_239 : decode cL_law 239 = .ok (.if_icmp .ge 7, 3) := by decide +kernel
theorem dL_law_242 : decode cL_law 242 = .ok (.iconst 0, 1) := by decide +kernel
theorem dL_law_243 : decode cL_law 243 = .ok (.goto 5, 3) := by decide +kernel
theorem dL_law_246 : decode cL_law 246 = .ok (.iload 6, 2) := by decide +kernel
theorem dL_law_248 : decode cL_law 248 = .ok (.iload 5, 2) := by decide +kernel
theorem dL_law_250 : decode cL_law 250 = .ok (.iconst 5, 1) := by decide +kernel
theorem dL_law_251 : decode cL_law 251 = .ok (.if_icmp .ge 8, 3) := by decide +kernel
theorem dL_law_254 : decode cL_law 254 = .ok (.iload 5, 2) := by decide +kernel
theorem dL_law_256 : decode cL_law 256 = .ok (.goto 8, 3) := by decide +kernel
theorem dL_law_259 : decode cL_law 259 = .ok (.aload_n 0, 1) := by decide +kernel
theorem dL_law_260 : decode cL_law 260 = .ok (.iload_n 2, 1) := by decide +kernel
theorem dL_law_261 : decode cL_law 261 = .ok (.invokestatic 12, 3) := by decide +kernel
theorem dL_law_264 : decode cL_law 264 = .ok (.aload_n 0, 1) := by decide +kernel
theorem dL_law_265 : decode cL_law 265 = .ok (.iload_n 2, 1) := by decide +kernel
theorem dL_law_266 : decode cL_law 266 = .ok (.iinc 2 1, 3) := by decide +kernel
theorem dL_law_269 : decode cL_law 269 = .ok (.iconst 1, 1) := by decide +kernel
theorem dL_law_270 : decode cL_law 270 = .ok (.iadd, 1) := by decide +kernel
theorem dL_law_271 : decode cL_law 271 = .ok (.invokestatic 12, 3) := by decide +kernel
theorem dL_law_274 : decode cL_law 274 = .ok (.invokestatic 40, 3) := by decide +kernel
theorem dL_law_277 : decode cL_law 277 = .ok (.ifCond .ne 5, 3) := by decide +kernel
theorem dL_law_280 : decode cL_law 280 = .ok (.iconst 0, 1) := by decide +kernel
theorem dL_law_281 : decode cL_law 281 = .ok (.ireturn, 1) := by decide +kernel
theorem dL_law_282 : decode cL_law 282 = .ok (.iload 5, 2) := by decide +kernel
theorem dL_law_284 : decode cL_law 284 = .ok (.iconst 4, 1) := by decide +kernel
theorem dL_law_285 : decode cL_law 285 = .ok (.irem, 1) := by decide +kernel
theorem dL_law_286 : decode cL_law 286 = .ok (.iconst 3, 1) := by decide +kernel
theorem dL_law_287 : decode cL_law 287 = .ok (.if_icmp .ne 12, 3) := by decide +kernel
theorem dL_law_290 : decode cL_law 290 = .ok (.aload_n 1, 1) := by decide +kernel
theorem dL_law_291 : decode cL_law 291 = .ok (.invokestatic 44, 3) := by decide +kernel
theorem dL_law_294 : decode cL_law 294 = .ok (.ifCond .ne 5, 3) := by decide +kernel
theorem dL_law_297 : decode cL_law 297 = .ok (.iconst 0, 1) := by decide +kernel
theorem dL_law_298 : decode cL_law 298 = .ok (.ireturn, 1) := by decide +kernel
theorem dL_law_299 : decode cL_law 299 = .ok (.iload 5, 2) := by decide +kernel
theorem dL_law_301 : decode cL_law 301 = .ok (.bipush 9, 2) := by decide +kernel
theorem dL_law_303 : decode cL_law 303 = .ok (.irem, 1) := by decide +kernel
theorem dL_law_304 : decode cL_law 304 = .ok (.bipush 8, 2) := by decide +kernel
theorem dL_law_306 : decode cL_law 306 = .ok (.if_icmp .ne 20, 3) := by decide +kernel
theorem dL_law_309 : decode cL_law 309 = .ok (.aload_n 1, 1) := by decide +kernel
theorem dL_law_310 : decode cL_law 310 = .ok (.aload_n 0, 1) := by decide +kernel
theorem dL_law_311 : decode cL_law 311 = .ok (.iload_n 2, 1) := by decide +kernel
theorem dL_law_312 : decode cL_law 312 = .ok (.iinc 2 1, 3) := by decide +kernel
theorem dL_law_315 : decode cL_law 315 = .ok (.invokestatic 12, 3) := by decide +kernel
theorem dL_law_318 : decode cL_law 318 = .ok (.invokestatic 48, 3) := by decide +kernel
theorem dL_law_321 : decode cL_law 321 = .ok (.ifCond .ne 5, 3) := by decide +kernel
theorem dL_law_324 : decode cL_law 324 = .ok (.iconst 0, 1) := by decide +kernel
theorem dL_law_325 : decode cL_law 325 = .ok (.ireturn, 1) := by decide +kernel
theorem dL_law_326 : decode cL_law 326 = .ok (.iinc 5 1, 3) := by decide +kernel
theorem dL_law_329 : decode cL_law 329 = .ok (.goto (-111), 3) := by decide +kernel
theorem dL_law_332 : decode cL_law 332 = .ok (.aload_n 1, 1) := by decide +kernel
theorem dL_law_333 : decode cL_law 333 = .ok (.aload_n 0, 1) := by decide +kernel
theorem dL_law_334 : decode cL_law 334 = .ok (.iload_n 2, 1) := by decide +kernel
theorem dL_law_335 : decode cL_law 335 = .ok (.iinc 2 1, 3) := by decide +kernel
theorem dL_law_338 : decode cL_law 338 = .ok (.invokestatic 12, 3) := by decide +kernel
theorem dL_law_341 : decode cL_law 341 = .ok (.invokestatic 51, 3) := by decide +kernel
theorem dL_law_344 : decode cL_law 344 = .ok (.ifCond .eq 14, 3) := by decide +kernel
theorem dL_law_347 : decode cL_law 347 = .ok (.aload_n 1, 1) := by decide +kernel
theorem dL_law_348 : decode cL_law 348 = .ok (.invokestatic 44, 3) := by decide +kernel
theorem dL_law_351 : decode cL_law 351 = .ok (.ifCond .eq 7, 3) := by decide +kernel
theorem dL_law_354 : decode cL_law 354 = .ok (.iconst 1, 1) := by decide +kernel
theorem dL_law_355 : decode cL_law 355 = .ok (.goto 4, 3) := by decide +kernel
theorem dL_law_358 : decode cL_law 358 = .ok (.iconst 0, 1) := by decide +kernel
theorem dL_law_359 : decode cL_law 359 = .ok (.ireturn, 1) := by decide +kernel
theorem dL_least_0 : decode cL_least 0 = .ok (.iload_n 0, 1) := by decide +kernel
theorem dL_least_1 : decode cL_least 1 = .ok (.iconst 3, 1) := by decide +kernel
theorem dL_least_2 : decode cL_least 2 = .ok (.if_icmp .ne 7, 3) := by decide +kernel
theorem dL_least_5 : decode cL_least 5 = .ok (.iconst 3, 1) := by decide +kernel
theorem dL_least_6 : decode cL_least 6 = .ok (.goto 37, 3) := by decide +kernel
theorem dL_least_9 : decode cL_least 9 = .ok (.iload_n 0, 1) := by decide +kernel
theorem dL_least_10 : decode cL_least 10 = .ok (.bipush 8, 2) := by decide +kernel
theorem dL_least_12 : decode cL_least 12 = .ok (.if_icmp .ne 8, 3) := by decide +kernel
theorem dL_least_15 : decode cL_least 15 = .ok (.bipush 6, 2) := by decide +kernel
theorem dL_least_17 : decode cL_least 17 = .ok (.goto 26, 3) := by decide +kernel
theorem dL_least_20 : decode cL_least 20 = .ok (.iload_n 0, 1) := by decide +kernel
theorem dL_least_21 : decode cL_least 21 = .ok (.bipush 6, 2) := by decide +kernel
theorem dL_least_23 : decode cL_least 23 = .ok (.if_icmp .eq 15, 3) := by decide +kernel
theorem dL_least_26 : decode cL_least 26 = .ok (.iload_n 0, 1) := by decide +kernel
theorem dL_least_27 : decode cL_least 27 = .ok (.bipush 7, 2) := by decide +kernel
theorem dL_least_29 : decode cL_least 29 = .ok (.if_icmp .eq 9, 3) := by decide +kernel
theorem dL_least_32 : decode cL_least 32 = .ok (.iload_n 0, 1) := by decide +kernel
theorem dL_least_33 : decode cL_least 33 = .ok (.bipush 9, 2) := by decide +kernel
theorem dL_least_35 : decode cL_least 35 = .ok (.if_icmp .ne 7, 3) := by decide +kernel
theorem dL_least_38 : decode cL_least 38 = .ok (.iconst 0, 1) := by decide +kernel
theorem dL_least_39 : decode cL_least 39 = .ok (.goto 4, 3) := by decide +kernel
theorem dL_least_42 : decode cL_least 42 = .ok (.iconst 1, 1) := by decide +kernel
theorem dL_least_43 : decode cL_least 43 = .ok (.ireturn, 1) := by decide +kernel
theorem dL_most_0 : decode cL_most 0 = .ok (.iload_n 0, 1) := by decide +kernel
theorem dL_most_1 : decode cL_most 1 = .ok (.ifCond .ne 8, 3) := by decide +kernel
theorem dL_most_4 : decode cL_most 4 = .ok (.bipush 20, 2) := by decide +kernel
theorem dL_most_6 : decode cL_most 6 = .ok (.goto 86, 3) := by decide +kernel
theorem dL_most_9 : decode cL_most 9 = .ok (.iload_n 0, 1) := by decide +kernel
theorem dL_most_10 : decode cL_most 10 = .ok (.iconst 1, 1) := by decide +kernel
theorem dL_most_11 : decode cL_most 11 = .ok (.if_icmp .eq 8, 3) := by decide +kernel
theorem dL_most_14 : decode cL_most 14 = .ok (.iload_n 0, 1) := by decide +kernel
theorem dL_most_15 : decode cL_most 15 = .ok (.iconst 5, 1) := by decide +kernel
theorem dL_most_16 : decode cL_most 16 = .ok (.if_icmp .ne 9, 3) := by decide +kernel
theorem dL_most_19 : decode cL_most 19 = .ok (.sipush 200, 3) := by decide +kernel
theorem dL_most_22 : decode cL_most 22 = .ok (.goto 70, 3) := by decide +kernel
theorem dL_most_25 : decode cL_most 25 = .ok (.iload_n 0, 1) := by decide +kernel
theorem dL_most_26 : decode cL_most 26 = .ok (.iconst 2, 1) := by decide +kernel
theorem dL_most_27 : decode cL_most 27 = .ok (.if_icmp .ne 8, 3) := by decide +kernel
theorem dL_most_30 : decode cL_most 30 = .ok (.bipush 8, 2) := by decide +kernel
theorem dL_most_32 : decode cL_most 32 = .ok (.goto 60, 3) := by decide +kernel
theorem dL_most_35 : decode cL_most 35 = .ok (.iload_n 0, 1) := by decide +kernel
theorem dL_most_36 : decode cL_most 36 = .ok (.iconst 3, 1) := by decide +kernel
theorem dL_most_37 : decode cL_most 37 = .ok (.if_icmp .ne 8, 3) := by decide +kernel
theorem dL_most_40 : decode cL_most 40 = .ok (.bipush 30, 2) := by decide +kernel
theorem dL_most_42 : decode cL_most 42 = .ok (.goto 50, 3) := by decide +kernel
theorem dL_most_45 : decode cL_most 45 = .ok (.iload_n 0, 1) := by decide +kernel
theorem dL_most_46 : decode cL_most 46 = .ok (.iconst 4, 1) := by decide +kernel
theorem dL_most_47 : decode cL_most 47 = .ok (.if_icmp .ne 8, 3) := by decide +kernel
theorem dL_most_50 : decode cL_most 50 = .ok (.bipush 60, 2) := by decide +kernel
theorem dL_most_52 : decode cL_most 52 = .ok (.goto 40, 3) := by decide +kernel
theorem dL_most_55 : decode cL_most 55 = .ok (.iload_n 0, 1) := by decide +kernel
theorem dL_most_56 : decode cL_most 56 = .ok (.bipush 6, 2) := by decide +kernel
theorem dL_most_58 : decode cL_most 58 = .ok (.if_icmp .ne 9, 3) := by decide +kernel
theorem dL_most_61 : decode cL_most 61 = .ok (.sipush 10000, 3) := by decide +kernel
theorem dL_most_64 : decode cL_most 64 = .ok (.goto 28, 3) := by decide +kernel
theorem dL_most_67 : decode cL_most 67 = .ok (.iload_n 0, 1) := by decide +kernel
theorem dL_most_68 : decode cL_most 68 = .ok (.bipush 7, 2) := by decide +kernel
theorem dL_most_70 : decode cL_most 70 = .ok (.if_icmp .ne 8, 3) := by decide +kernel
theorem dL_most_73 : decode cL_most 73 = .ok (.bipush 9, 2) := by decide +kernel
theorem dL_most_75 : decode cL_most 75 = .ok (.goto 17, 3) := by decide +kernel
theorem dL_most_78 : decode cL_most 78 = .ok (.iload_n 0, 1) := by decide +kernel
theorem dL_most_79 : decode cL_most 79 = .ok (.bipush 8, 2) := by decide +kernel
theorem dL_most_81 : decode cL_most 81 = .ok (.if_icmp .ne 8, 3) := by decide +kernel
theorem dL_most_84 : decode cL_most 84 = .ok (.bipush 14, 2) := by decide +kernel
theorem dL_most_86 : decode cL_most 86 = .ok (.goto 6, 3) := by decide +kernel
theorem dL_most_89 : decode cL_most 89 = .ok (.sipush 5000, 3) := by decide +kernel
theorem dL_most_92 : decode cL_most 92 = .ok (.ireturn, 1) := by decide +kernel
theorem dL_sets_0 : decode cL_sets 0 = .ok (.iload_n 1, 1) := by decide +kernel
theorem dL_sets_1 : decode cL_sets 1 = .ok (.bipush 10, 2) := by decide +kernel
theorem dL_sets_3 : decode cL_sets 3 = .ok (.invokestatic 23, 3) := by decide +kernel
theorem dL_sets_6 : decode cL_sets 6 = .ok (.istore_n 2, 1) := by decide +kernel
theorem dL_sets_7 : decode cL_sets 7 = .ok (.iload_n 2, 1) := by decide +kernel
theorem dL_sets_8 : decode cL_sets 8 = .ok (.invokestatic 54, 3) := by decide +kernel
theorem dL_sets_11 : decode cL_sets 11 = .ok (.iload_n 1, 1) := by decide +kernel
theorem dL_sets_12 : decode cL_sets 12 = .ok (.iconst 4, 1) := by decide +kernel
theorem dL_sets_13 : decode cL_sets 13 = .ok (.ishr, 1) := by decide +kernel
theorem dL_sets_14 : decode cL_sets 14 = .ok (.iload_n 2, 1) := by decide +kernel
theorem dL_sets_15 : decode cL_sets 15 = .ok (.iconst 1, 1) := by decide +kernel
theorem dL_sets_16 : decode cL_sets 16 = .ok (.if_icmp .eq 8, 3) := by decide +kernel
theorem dL_sets_19 : decode cL_sets 19 = .ok (.iload_n 2, 1) := by decide +kernel
theorem dL_sets_20 : decode cL_sets 20 = .ok (.iconst 5, 1) := by decide +kernel
theorem dL_sets_21 : decode cL_sets 21 = .ok (.if_icmp .ne 8, 3) := by decide +kernel
theorem dL_sets_24 : decode cL_sets 24 = .ok (.bipush 12, 2) := by decide +kernel
theorem dL_sets_26 : decode cL_sets 26 = .ok (.goto 14, 3) := by decide +kernel
theorem dL_sets_29 : decode cL_sets 29 = .ok (.iload_n 2, 1) := by decide +kernel
theorem dL_sets_30 : decode cL_sets 30 = .ok (.invokestatic 57, 3) := by decide +kernel
theorem dL_sets_33 : decode cL_sets 33 = .ok (.iload_n 2, 1) := by decide +kernel
theorem dL_sets_34 : decode cL_sets 34 = .ok (.invokestatic 54, 3) := by decide +kernel
theorem dL_sets_37 : decode cL_sets 37 = .ok (.isub, 1) := by decide +kernel
theorem dL_sets_38 : decode cL_sets 38 = .ok (.iconst 1, 1) := by decide +kernel
theorem dL_sets_39 : decode cL_sets 39 = .ok (.iadd, 1) := by decide +kernel
theorem dL_sets_40 : decode cL_sets 40 = .ok (.invokestatic 23, 3) := by decide +kernel
theorem dL_sets_43 : decode cL_sets 43 = .ok (.iadd, 1) := by decide +kernel
theorem dL_sets_44 : decode cL_sets 44 = .ok (.istore_n 3, 1) := by decide +kernel
theorem dL_sets_45 : decode cL_sets 45 = .ok (.aload_n 0, 1) := by decide +kernel
theorem dL_sets_46 : decode cL_sets 46 = .ok (.bipush 8, 2) := by decide +kernel
theorem dL_sets_48 : decode cL_sets 48 = .ok (.iload_n 2, 1) := by decide +kernel
theorem dL_sets_49 : decode cL_sets 49 = .ok (.iadd, 1) := by decide +kernel
theorem dL_sets_50 : decode cL_sets 50 = .ok (.invokevirtual 60, 3) := by decide +kernel
theorem dL_sets_53 : decode cL_sets 53 = .ok (.istore 4, 2) := by decide +kernel
theorem dL_sets_55 : decode cL_sets 55 = .ok (.aload_n 0, 1) := by decide +kernel
theorem dL_sets_56 : decode cL_sets 56 = .ok (.iload_n 2, 1) := by decide +kernel
theorem dL_sets_57 : decode cL_sets 57 = .ok (.iload_n 2, 1) := by decide +kernel
theorem dL_sets_58 : decode cL_sets 58 = .ok (.invokestatic 54, 3) := by decide +kernel
theorem dL_sets_61 : decode cL_sets 61 = .ok (.iconst 1, 1) := by decide +kernel
theorem dL_sets_62 : decode cL_sets 62 = .ok (.isub, 1) := by decide +kernel
theorem dL_sets_63 : decode cL_sets 63 = .ok (.invokevirtual 63, 3) := by decide +kernel
theorem dL_sets_66 : decode cL_sets 66 = .ok (.bipush (-2), 2) := by decide +kernel
theorem dL_sets_68 : decode cL_sets 68 = .ok (.if_icmp .ne 46, 3) := by decide +kernel
theorem dL_sets_71 : decode cL_sets 71 = .ok (.aload_n 0, 1) := by decide +kernel
theorem dL_sets_72 : decode cL_sets 72 = .ok (.iload_n 2, 1) := by decide +kernel
theorem dL_sets_73 : decode cL_sets 73 = .ok (.iload_n 2, 1) := by decide +kernel
theorem dL_sets_74 : decode cL_sets 74 = .ok (.invokestatic 57, 3) := by decide +kernel
theorem dL_sets_77 : decode cL_sets 77 = .ok (.iconst 1, 1) := by decide +kernel
theorem dL_sets_78 : decode cL_sets 78 = .ok (.iadd, 1) := by decide +kernel
theorem dL_sets_79 : decode cL_sets 79 = .ok (.invokevirtual 63, 3) := by decide +kernel
theorem dL_sets_82 : decode cL_sets 82 = .ok (.bipush (-2), 2) := by decide +kernel
theorem dL_sets_84 : decode cL_sets 84 = .ok (.if_icmp .ne 30, 3) := by decide +kernel
theorem dL_sets_87 : decode cL_sets 87 = .ok (.aload_n 0, 1) := by decide +kernel
theorem dL_sets_88 : decode cL_sets 88 = .ok (.iload_n 2, 1) := by decide +kernel
theorem dL_sets_89 : decode cL_sets 89 = .ok (.iload_n 3, 1) := by decide +kernel
theorem dL_sets_90 : decode cL_sets 90 = .ok (.invokevirtual 63, 3) := by decide +kernel
theorem dL_sets_93 : decode cL_sets 93 = .ok (.iload 4, 2) := by decide +kernel
theorem dL_sets_95 : decode cL_sets 95 = .ok (.if_icmp .ne 19, 3) := by decide +kernel
theorem dL_sets_98 : decode cL_sets 98 = .ok (.aload_n 0, 1) := by decide +kernel
theorem dL_sets_99 : decode cL_sets 99 = .ok (.bipush 8, 2) := by decide +kernel
theorem dL_sets_101 : decode cL_sets 101 = .ok (.iload_n 2, 1) := by decide +kernel
theorem dL_sets_102 : decode cL_sets 102 = .ok (.iadd, 1) := by decide +kernel
theorem dL_sets_103 : decode cL_sets 103 = .ok (.invokevirtual 60, 3) := by decide +kernel
theorem dL_sets_106 : decode cL_sets 106 = .ok (.iload_n 3, 1) := by decide +kernel
theorem dL_sets_107 : decode cL_sets 107 = .ok (.if_icmp .ne 7, 3) := by decide +kernel
theorem dL_sets_110 : decode cL_sets 110 = .ok (.iconst 1, 1) := by decide +kernel
theorem dL_sets_111 : decode cL_sets 111 = .ok (.goto 4, 3) := by decide +kernel
theorem dL_sets_114 : decode cL_sets 114 = .ok (.iconst 0, 1) := by decide +kernel
theorem dL_sets_115 : decode cL_sets 115 = .ok (.ireturn, 1) := by decide +kernel
theorem dL_act_0 : decode cL_act 0 = .ok (.iload_n 2, 1) := by decide +kernel
theorem dL_act_1 : decode cL_act 1 = .ok (.aload_n 0, 1) := by decide +kernel
theorem dL_act_2 : decode cL_act 2 = .ok (.iconst 1, 1) := by decide +kernel
theorem dL_act_3 : decode cL_act 3 = .ok (.invokevirtual 60, 3) := by decide +kernel
theorem dL_act_6 : decode cL_act 6 = .ok (.invokestatic 23, 3) := by decide +kernel
theorem dL_act_9 : decode cL_act 9 = .ok (.istore 4, 2) := by decide +kernel
theorem dL_act_11 : decode cL_act 11 = .ok (.iload_n 1, 1) := by decide +kernel
theorem dL_act_12 : decode cL_act 12 = .ok (.bipush 14, 2) := by decide +kernel
theorem dL_act_14 : decode cL_act 14 = .ok (.invokestatic 23, 3) := by decide +kernel
theorem dL_act_17 : decode cL_act 17 = .ok (.tableswitch 985 0 12 #[67, 67, 67, 353, 503, 581, 581, 687, 768, 847, 914, 914, 914], 67) := by decide +kernel
theorem dL_act_84 : decode cL_act 84 = .ok (.aload_n 0, 1) := by decide +kernel
theorem dL_act_85 : decode cL_act 85 = .ok (.iconst 2, 1) := by decide +kernel
theorem dL_act_86 : decode cL_act 86 = .ok (.invokevirtual 60, 3) := by decide +kernel
theorem dL_act_89 : decode cL_act 89 = .ok (.istore 5, 2) := by decide +kernel
theorem dL_act_91 : decode cL_act 91 = .ok (.iload_n 3, 1) := by decide +kernel
theorem dL_act_92 : decode cL_act 92 = .ok (.iload 5, 2) := by decide +kernel
theorem dL_act_94 : decode cL_act 94 = .ok (.invokestatic 23, 3) := by decide +kernel
theorem dL_act_97 : decode cL_act 97 = .ok (.istore 6, 2) := by decide +kernel
theorem dL_act_99 : decode cL_act 99 = .ok (.iload_n 3, 1) := by decide +kernel
theorem dL_act_100 : decode cL_act 100 = .ok (.iconst 4, 1) := by decide +kernel
theorem dL_act_101 : decode cL_act 101 = .ok (.ishr, 1) := by decide +kernel
theorem dL_act_102 : decode cL_act 102 = .ok (.iconst 4, 1) := by decide +kernel
theorem dL_act_103 : decode cL_act 103 = .ok (.invokestatic 23, 3) := by decide +kernel
theorem dL_act_106 : decode cL_act 106 = .ok (.ifCond .ne 8, 3) := by decide +kernel
theorem dL_act_109 : decode cL_act 109 = .ok (.bipush (-6), 2) := by decide +kernel
theorem dL_act_111 : decode cL_act 111 = .ok (.goto 12, 3) := by decide +kernel
theorem dL_act_114 : decode cL_act 114 = .ok (.iload_n 3, 1) := by decide +kernel
theorem dL_act_115 : decode cL_act 115 = .ok (.bipush 7, 2) := by decide +kernel
theorem dL_act_117 : decode cL_act 117 = .ok (.ishr, 1) := by decide +kernel
theorem dL_act_118 : decode cL_act 118 = .ok (.iload 5, 2) := by decide +kernel
theorem dL_act_120 : decode cL_act 120 = .ok (.invokestatic 23, 3) := by decide +kernel
theorem dL_act_123 : decode cL_act 123 = .ok (.istore 7, 2) := by decide +kernel
theorem dL_act_125 : decode cL_act 125 = .ok (.iload_n 3, 1) := by decide +kernel
theorem dL_act_126 : decode cL_act 126 = .ok (.bipush 10, 2) := by decide +kernel
theorem dL_act_128 : decode cL_act 128 = .ok (.ishr, 1) := by decide +kernel
theorem dL_act_129 : decode cL_act 129 = .ok (.iconst 3, 1) := by decide +kernel
theorem dL_act_130 : decode cL_act 130 = .ok (.invokestatic 23, 3) := by decide +kernel
theorem dL_act_133 : decode cL_act 133 = .ok (.ifCond .ne 8, 3) := by decide +kernel
theorem dL_act_136 : decode cL_act 136 = .ok (.bipush (-6), 2) := by decide +kernel
theorem dL_act_138 : decode cL_act 138 = .ok (.goto 12, 3) := by decide +kernel
theorem dL_act_141 : decode cL_act 141 = .ok (.iload_n 3, 1) := by decide +kernel
theorem dL_act_142 : decode cL_act 142 = .ok (.bipush 13, 2) := by decide +kernel
theorem dL_act_144 : decode cL_act 144 = .ok (.ishr, 1) := by decide +kernel
theorem dL_act_145 : decode cL_act 145 = .ok (.iload 5, 2) := by decide +kernel
theorem dL_act_147 : decode cL_act 147 = .ok (.invokestatic 23, 3) := by decide +kernel
theorem dL_act_150 : decode cL_act 150 = .ok (.istore 8, 2) := by decide +kernel
theorem dL_act_152 : decode cL_act 152 = .ok (.iload 7, 2) := by decide +kernel
theorem dL_act_154 : decode cL_act 154 = .ok (.ifCond .lt 33, 3) := by decide +kernel
theorem dL_act_157 : decode cL_act 157 = .ok (.iload 6, 2) := by decide +kernel
theorem dL_act_159 : decode cL_act 159 = .ok (.iload 7, 2) := by decide +kernel
theorem dL_act_161 : decode cL_act 161 = .ok (.if_icmp .eq 22, 3) := by decide +kernel
theorem dL_act_164 : decode cL_act 164 = .ok (.iload 8, 2) := by decide +kernel
theorem dL_act_166 : decode cL_act 166 = .ok (.ifCond .lt 21, 3) := by decide +kernel
theorem dL_act_169 : decode cL_act 169 = .ok (.iload 6, 2) := by decide +kernel
theorem dL_act_171 : decode cL_act 171 = .ok (.iload 8, 2) := by decide +kernel
theorem dL_act_173 : decode cL_act 173 = .ok (.if_icmp .eq 10, 3) := by decide +kernel
theorem dL_act_176 : decode cL_act 176 = .ok (.iload 7, 2) := by decide +kernel
theorem dL_act_178 : decode cL_act 178 = .ok (.iload 8, 2) := by decide +kernel
theorem dL_act_180 : decode cL_act 180 = .ok (.if_icmp .ne 7, 3) := by decide +kernel
theorem dL_act_183 : decode cL_act 183 = .ok (.iconst 1, 1) := by decide +kernel
theorem dL_act_184 : decode cL_act 184 = .ok (.goto 4, 3) := by decide +kernel
theorem dL_act_187 : decode cL_act 187 = .ok (.iconst 0, 1) := by decide +kernel
theorem dL_act_188 : decode cL_act 188 = .ok (.istore 9, 2) := by decide +kernel
theorem dL_act_190 : decode cL_act 190 = .ok (.iload 7, 2) := by decide +kernel
theorem dL_act_192 : decode cL_act 192 = .ok (.ifCond .ge 7, 3) := by decide +kernel
theorem dL_act_195 : decode cL_act 195 = .ok (.iconst 1, 1) := by decide +kernel
theorem dL_act_196 : decode cL_act 196 = .ok (.goto 13, 3) := by decide +kernel
theorem dL_act_199 : decode cL_act 199 = .ok (.iload 8, 2) := by decide +kernel
theorem dL_act_201 : decode cL_act 201 = .ok (.ifCond .ge 7, 3) := by decide +kernel
theorem dL_act_204 : decode cL_act 204 = .ok (.iconst 2, 1) := by decide +kernel
theorem dL_act_205 : decode cL_act 205 = .ok (.goto 4, 3) := by decide +kernel
theorem dL_act_208 : decode cL_act 208 = .ok (.iconst 3, 1) := by decide +kernel
theorem dL_act_209 : decode cL_act 209 = .ok (.istore 10, 2) := by decide +kernel
theorem dL_act_211 : decode cL_act 211 = .ok (.aload_n 0, 1) := by decide +kernel
theorem dL_act_212 : decode cL_act 212 = .ok (.iload 4, 2) := by decide +kernel
theorem dL_act_214 : decode cL_act 214 = .ok (.iconst 2, 1) := by decide +kernel
theorem dL_act_215 : decode cL_act 215 = .ok (.invokevirtual 66, 3) := by decide +kernel
theorem dL_act_218 : decode cL_act 218 = .ok (.istore 11, 2) := by decide +kernel
theorem dL_act_220 : decode cL_act 220 = .ok (.iload 9, 2) := by decide +kernel
theorem dL_act_222 : decode cL_act 222 = .ok (.ifCond .eq 38, 3) := by decide +kernel
theorem dL_act_225 : decode cL_act 225 = .ok (.aload_n 0, 1) := by decide +kernel
theorem dL_act_226 : decode cL_act 226 = .ok (.iload 4, 2) := by decide +kernel
theorem dL_act_228 : decode cL_act 228 = .ok (.iload 6, 2) := by decide +kernel
theorem dL_act_230 : decode cL_act 230 = .ok (.iload 7, 2) := by decide +kernel
theorem dL_act_232 : decode cL_act 232 = .ok (.iload 8, 2) := by decide +kernel
theorem dL_act_234 : decode cL_act 234 = .ok (.invokevirtual 69, 3) := by decide +kernel
theorem dL_act_237 : decode cL_act 237 = .ok (.bipush (-2), 2) := by decide +kernel
theorem dL_act_239 : decode cL_act 239 = .ok (.if_icmp .ne 19, 3) := by decide +kernel
theorem dL_act_242 : decode cL_act 242 = .ok (.aload_n 0, 1) := by decide +kernel
theorem dL_act_243 : decode cL_act 243 = .ok (.iload 4, 2) := by decide +kernel
theorem dL_act_245 : decode cL_act 245 = .ok (.iconst 2, 1) := by decide +kernel
theorem dL_act_246 : decode cL_act 246 = .ok (.invokevirtual 66, 3) := by decide +kernel
theorem dL_act_249 : decode cL_act 249 = .ok (.iload 11, 2) := by decide +kernel
theorem dL_act_251 : decode cL_act 251 = .ok (.if_icmp .ne 7, 3) := by decide +kernel
theorem dL_act_254 : decode cL_act 254 = .ok (.iconst 1, 1) := by decide +kernel
theorem dL_act_255 : decode cL_act 255 = .ok (.goto 4, 3) := by decide +kernel
theorem dL_act_258 : decode cL_act 258 = .ok (.iconst 0, 1) := by decide +kernel
theorem dL_act_259 : decode cL_act 259 = .ok (.ireturn, 1) := by decide +kernel
theorem dL_act_260 : decode cL_act 260 = .ok (.aload_n 0, 1) := by decide +kernel
theorem dL_act_261 : decode cL_act 261 = .ok (.iload 4, 2) := by decide +kernel
theorem dL_act_263 : decode cL_act 263 = .ok (.iload 6, 2) := by decide +kernel
theorem dL_act_265 : decode cL_act 265 = .ok (.iload 7, 2) := by decide +kernel
theorem dL_act_267 : decode cL_act 267 = .ok (.iload 8, 2) := by decide +kernel
theorem dL_act_269 : decode cL_act 269 = .ok (.invokevirtual 69, 3) := by decide +kernel
theorem dL_act_272 : decode cL_act 272 = .ok (.iload 10, 2) := by decide +kernel
theorem dL_act_274 : decode cL_act 274 = .ok (.if_icmp .ne 94, 3) := by decide +kernel
theorem dL_act_277 : decode cL_act 277 = .ok (.aload_n 0, 1) := by decide +kernel
theorem dL_act_278 : decode cL_act 278 = .ok (.iload 4, 2) := by decide +kernel
theorem dL_act_280 : decode cL_act 280 = .ok (.iconst 2, 1) := by decide +kernel
theorem dL_act_281 : decode cL_act 281 = .ok (.invokevirtual 66, 3) := by decide +kernel
theorem dL_act_284 : decode cL_act 284 = .ok (.iload 10, 2) := by decide +kernel
theorem dL_act_286 : decode cL_act 286 = .ok (.if_icmp .ne 82, 3) := by decide +kernel
theorem dL_act_289 : decode cL_act 289 = .ok (.aload_n 0, 1) := by decide +kernel
theorem dL_act_290 : decode cL_act 290 = .ok (.iload 4, 2) := by decide +kernel
theorem dL_act_292 : decode cL_act 292 = .ok (.iconst 3, 1) := by decide +kernel
theorem dL_act_293 : decode cL_act 293 = .ok (.invokevirtual 66, 3) := by decide +kernel
theorem dL_act_296 : decode cL_act 296 = .ok (.iload 6, 2) := by decide +kernel
theorem dL_act_298 : decode cL_act 298 = .ok (.if_icmp .ne 70, 3) := by decide +kernel
theorem dL_act_301 : decode cL_act 301 = .ok (.aload_n 0, 1) := by decide +kernel
theorem dL_act_302 : decode cL_act 302 = .ok (.iload 4, 2) := by decide +kernel
theorem dL_act_304 : decode cL_act 304 = .ok (.iconst 4, 1) := by decide +kernel
theorem dL_act_305 : decode cL_act 305 = .ok (.invokevirtual 66, 3) := by decide +kernel
theorem dL_act_308 : decode cL_act 308 = .ok (.iload 10, 2) := by decide +kernel
theorem dL_act_310 : decode cL_act 310 = .ok (.iconst 1, 1) := by decide +kernel
theorem dL_act_311 : decode cL_act 311 = .ok (.if_icmp .le 8, 3) := by decide +kernel
theorem dL_act_314 : decode cL_act 314 = .ok (.iload 7, 2) := by decide +kernel
theorem dL_act_316 : decode cL_act 316 = .ok (.goto 5, 3) := by decide +kernel
theorem dL_act_319 : decode cL_act 319 = .ok (.bipush (-6), 2) := by decide +kernel
theorem dL_act_321 : decode cL_act 321 = .ok (.if_icmp .ne 47, 3) := by decide +kernel
theorem dL_act_324 : decode cL_act 324 = .ok (.aload_n 0, 1) := by decide +kernel
theorem dL_act_325 : decode cL_act 325 = .ok (.iload 4, 2) := by decide +kernel
theorem dL_act_327 : decode cL_act 327 = .ok (.iconst 5, 1) := by decide +kernel
theorem dL_act_328 : decode cL_act 328 = .ok (.invokevirtual 66, 3) := by decide +kernel
theorem dL_act_331 : decode cL_act 331 = .ok (.iload 10, 2) := by decide +kernel
theorem dL_act_333 : decode cL_act 333 = .ok (.iconst 2, 1) := by decide +kernel
theorem dL_act_334 : decode cL_act 334 = .ok (.if_icmp .le 8, 3) := by decide +kernel
theorem dL_act_337 : decode cL_act 337 = .ok (.iload 8, 2) := by decide +kernel
theorem dL_act_339 : decode cL_act 339 = .ok (.goto 5, 3) := by decide +kernel
theorem dL_act_342 : decode cL_act 342 = .ok (.bipush (-6), 2) := by decide +kernel
theorem dL_act_344 : decode cL_act 344 = .ok (.if_icmp .ne 24, 3) := by decide +kernel
theorem dL_act_347 : decode cL_act 347 = .ok (.aload_n 0, 1) := by decide +kernel
theorem dL_act_348 : decode cL_act 348 = .ok (.iload 4, 2) := by decide +kernel
theorem dL_act_350 : decode cL_act 350 = .ok (.iload 5, 2) := by decide +kernel
theorem dL_act_352 : decode cL_act 352 = .ok (.bipush (-6), 2) := by decide +kernel
theorem dL_act_354 : decode cL_act 354 = .ok (.bipush (-6), 2) := by decide +kernel
theorem dL_act_356 : decode cL_act 356 = .ok (.invokevirtual 69, 3) := by decide +kernel
theorem dL_act_359 : decode cL_act 359 = .ok (.bipush (-2), 2) := by decide +kernel
theorem dL_act_361 : decode cL_act 361 = .ok (.if_icmp .ne 7, 3) := by decide +kernel
theorem dL_act_364 : decode cL_act 364 = .ok (.iconst 1, 1) := by decide +kernel
theorem dL_act_365 : decode cL_act 365 = .ok (.goto 4, 3) := by decide +kernel
theorem dL_act_368 : decode cL_act 368 = .ok (.iconst 0, 1) := by decide +kernel
theorem dL_act_369 : decode cL_act 369 = .ok (.ireturn, 1) := by decide +kernel
theorem dL_act_370 : decode cL_act 370 = .ok (.iconst 1, 1) := by decide +kernel
theorem dL_act_371 : decode cL_act 371 = .ok (.iload_n 3, 1) := by decide +kernel
theorem dL_act_372 : decode cL_act 372 = .ok (.bipush 9, 2) := by decide +kernel
theorem dL_act_374 : decode cL_act 374 = .ok (.invokestatic 23, 3) := by decide +kernel
theorem dL_act_377 : decode cL_act 377 = .ok (.iadd, 1) := by decide +kernel
theorem dL_act_378 : decode cL_act 378 = .ok (.istore 5, 2) := by decide +kernel
theorem dL_act_380 : decode cL_act 380 = .ok (.aload_n 0, 1) := by decide +kernel
theorem dL_act_381 : decode cL_act 381 = .ok (.iload 4, 2) := by decide +kernel
theorem dL_act_383 : decode cL_act 383 = .ok (.bipush 9, 2) := by decide +kernel
theorem dL_act_385 : decode cL_act 385 = .ok (.invokevirtual 66, 3) := by decide +kernel
theorem dL_act_388 : decode cL_act 388 = .ok (.istore 6, 2) := by decide +kernel
theorem dL_act_390 : decode cL_act 390 = .ok (.aload_n 0, 1) := by decide +kernel
theorem dL_act_391 : decode cL_act 391 = .ok (.iload 4, 2) := by decide +kernel
theorem dL_act_393 : decode cL_act 393 = .ok (.iconst 3, 1) := by decide +kernel
theorem dL_act_394 : decode cL_act 394 = .ok (.invokevirtual 73, 3) := by decide +kernel
theorem dL_act_397 : decode cL_act 397 = .ok (.lstore 7, 2) := by decide +kernel
theorem dL_act_399 : decode cL_act 399 = .ok (.iload 6, 2) := by decide +kernel
theorem dL_act_401 : decode cL_act 401 = .ok (.iload 5, 2) := by decide +kernel
theorem dL_act_403 : decode cL_act 403 = .ok (.iadd, 1) := by decide +kernel
theorem dL_act_404 : decode cL_act 404 = .ok (.aload_n 0, 1) := by decide +kernel
theorem dL_act_405 : decode cL_act 405 = .ok (.bipush 11, 2) := by decide +kernel
theorem dL_act_407 : decode cL_act 407 = .ok (.invokevirtual 60, 3) := by decide +kernel
theorem dL_act_410 : decode cL_act 410 = .ok (.if_icmp .lt 7, 3) := by decide +kernel
theorem dL_act_413 : decode cL_act 413 = .ok (.iconst 0, 1) := by decide +kernel
theorem dL_act_414 : decode cL_act 414 = .ok (.goto 8, 3) := by decide +kernel
theorem dL_act_417 : decode cL_act 417 = .ok (.iload 6, 2) := by decide +kernel
theorem dL_act_419 : decode cL_act 419 = .ok (.iload 5, 2) := by decide +kernel
theorem dL_act_421 : decode cL_act 421 = .ok (.iadd, 1) := by decide +kernel
theorem dL_act_422 : decode cL_act 422 = .ok (.istore 9, 2) := by decide +kernel
theorem dL_act_424 : decode cL_act 424 = .ok (.aload_n 0, 1) := by decide +kernel
theorem dL_act_425 : decode cL_act 425 = .ok (.iload 4, 2) := by decide +kernel
theorem dL_act_427 : decode cL_act 427 = .ok (.iload 5, 2) := by decide +kernel
theorem dL_act_429 : decode cL_act 429 = .ok (.invokevirtual 77, 3) := by decide +kernel
theorem dL_act_432 : decode cL_act 432 = .ok (.iload 9, 2) := by decide +kernel
theorem dL_act_434 : decode cL_act 434 = .ok (.if_icmp .ne 84, 3) := by decide +kernel
theorem dL_act_437 : decode cL_act 437 = .ok (.aload_n 0, 1) := by decide +kernel
theorem dL_act_438 : decode cL_act 438 = .ok (.iload 4, 2) := by decide +kernel
theorem dL_act_440 : decode cL_act 440 = .ok (.bipush 9, 2) := by decide +kernel
theorem dL_act_442 : decode cL_act 442 = .ok (.invokevirtual 66, 3) := by decide +kernel
theorem dL_act_445 : decode cL_act 445 = .ok (.iload 9, 2) := by decide +kernel
theorem dL_act_447 : decode cL_act 447 = .ok (.if_icmp .ne 71, 3) := by decide +kernel
theorem dL_act_450 : decode cL_act 450 = .ok (.aload_n 0, 1) := by decide +kernel
theorem dL_act_451 : decode cL_act 451 = .ok (.iload 4, 2) := by decide +kernel
theorem dL_act_453 : decode cL_act 453 = .ok (.iconst 3, 1) := by decide +kernel
theorem dL_act_454 : decode cL_act 454 = .ok (.invokevirtual 73, 3) := by decide +kernel
theorem dL_act_457 : decode cL_act 457 = .ok (.lload 7, 2) := by decide +kernel
theorem dL_act_459 : decode cL_act 459 = .ok (.iload 5, 2) := by decide +kernel
theorem dL_act_461 : decode cL_act 461 = .ok (.aload_n 0, 1) := by decide +kernel
theorem dL_act_462 : decode cL_act 462 = .ok (.bipush 14, 2) := by decide +kernel
theorem dL_act_464 : decode cL_act 464 = .ok (.invokevirtual 60, 3) := by decide +kernel
theorem dL_act_467 : decode cL_act 467 = .ok (.imul, 1) := by decide +kernel
theorem dL_act_468 : decode cL_act 468 = .ok (.i2l, 1) := by decide +kernel
theorem dL_act_469 : decode cL_act 469 = .ok (.ladd, 1) := by decide +kernel
theorem dL_act_470 : decode cL_act 470 = .ok (.lcmp, 1) := by decide +kernel
theorem dL_act_471 : decode cL_act 471 = .ok (.ifCond .ne 47, 3) := by decide +kernel
theorem dL_act_474 : decode cL_act 474 = .ok (.iload 9, 2) := by decide +kernel
theorem dL_act_476 : decode cL_act 476 = .ok (.ifCond .gt 26, 3) := by decide +kernel
theorem dL_act_479 : decode cL_act 479 = .ok (.aload_n 0, 1) := by decide +kernel
theorem dL_act_480 : decode cL_act 480 = .ok (.iload 4, 2) := by decide +kernel
theorem dL_act_482 : decode cL_act 482 = .ok (.bipush 10, 2) := by decide +kernel
theorem dL_act_484 : decode cL_act 484 = .ok (.invokevirtual 66, 3) := by decide +kernel
theorem dL_act_487 : decode cL_act 487 = .ok (.aload_n 0, 1) := by decide +kernel
theorem dL_act_488 : decode cL_act 488 = .ok (.iconst 0, 1) := by decide +kernel
theorem dL_act_489 : decode cL_act 489 = .ok (.invokevirtual 60, 3) := by decide +kernel
theorem dL_act_492 : decode cL_act 492 = .ok (.aload_n 0, 1) := by decide +kernel
theorem dL_act_493 : decode cL_act 493 = .ok (.bipush 12, 2) := by decide +kernel
theorem dL_act_495 : decode cL_act 495 = .ok (.invokevirtual 60, 3) := by decide +kernel
theorem dL_act_498 : decode cL_act 498 = .ok (.iadd, 1) := by decide +kernel
theorem dL_act_499 : decode cL_act 499 = .ok (.if_icmp .ne 19, 3) := by decide +kernel
theorem dL_act_502 : decode cL_act 502 = .ok (.aload_n 0, 1) := by decide +kernel
theorem dL_act_503 : decode cL_act 503 = .ok (.iload 4, 2) := by decide +kernel
theorem dL_act_505 : decode cL_act 505 = .ok (.iconst 0, 1) := by decide +kernel
theorem dL_act_506 : decode cL_act 506 = .ok (.invokevirtual 77, 3) := by decide +kernel
theorem dL_act_509 : decode cL_act 509 = .ok (.bipush (-2), 2) := by decide +kernel
theorem dL_act_511 : decode cL_act 511 = .ok (.if_icmp .ne 7, 3) := by decide +kernel
theorem dL_act_514 : decode cL_act 514 = .ok (.iconst 1, 1) := by decide +kernel
theorem dL_act_515 : decode cL_act 515 = .ok (.goto 4, 3) := by decide +kernel
theorem dL_act_518 : decode cL_act 518 = .ok (.iconst 0, 1) := by decide +kernel
theorem dL_act_519 : decode cL_act 519 = .ok (.ireturn, 1) := by decide +kernel
theorem dL_act_520 : decode cL_act 520 = .ok (.aload_n 0, 1) := by decide +kernel
theorem dL_act_521 : decode cL_act 521 = .ok (.iconst 4, 1) := by decide +kernel
theorem dL_act_522 : decode cL_act 522 = .ok (.invokevirtual 60, 3) := by decide +kernel
theorem dL_act_525 : decode cL_act 525 = .ok (.istore 5, 2) := by decide +kernel
theorem dL_act_527 : decode cL_act 527 = .ok (.aload_n 0, 1) := by decide +kernel
theorem dL_act_528 : decode cL_act 528 = .ok (.iload 4, 2) := by decide +kernel
theorem dL_act_530 : decode cL_act 530 = .ok (.bipush 8, 2) := by decide +kernel
theorem dL_act_532 : decode cL_act 532 = .ok (.invokevirtual 66, 3) := by decide +kernel
theorem dL_act_535 : decode cL_act 535 = .ok (.iconst 1, 1) := by decide +kernel
theorem dL_act_536 : decode cL_act 536 = .ok (.if_icmp .ne 20, 3) := by decide +kernel
theorem dL_act_539 : decode cL_act 539 = .ok (.aload_n 0, 1) := by decide +kernel
theorem dL_act_540 : decode cL_act 540 = .ok (.iload 4, 2) := by decide +kernel
theorem dL_act_542 : decode cL_act 542 = .ok (.invokevirtual 80, 3) := by decide +kernel
theorem dL_act_545 : decode cL_act 545 = .ok (.bipush (-5), 2) := by decide +kernel
theorem dL_act_547 : decode cL_act 547 = .ok (.if_icmp .ne 7, 3) := by decide +kernel
theorem dL_act_550 : decode cL_act 550 = .ok (.iconst 1, 1) := by decide +kernel
theorem dL_act_551 : decode cL_act 551 = .ok (.goto 4, 3) := by decide +kernel
theorem dL_act_554 : decode cL_act 554 = .ok (.iconst 0, 1) := by decide +kernel
theorem dL_act_555 : decode cL_act 555 = .ok (.ireturn, 1) := by decide +kernel
theorem dL_act_556 : decode cL_act 556 = .ok (.aload_n 0, 1) := by decide +kernel
theorem dL_act_557 : decode cL_act 557 = .ok (.iload 4, 2) := by decide +kernel
theorem dL_act_559 : decode cL_act 559 = .ok (.invokevirtual 80, 3) := by decide +kernel
theorem dL_act_562 : decode cL_act 562 = .ok (.iload 5, 2) := by decide +kernel
theorem dL_act_564 : decode cL_act 564 = .ok (.iconst 1, 1) := by decide +kernel
theorem dL_act_565 : decode cL_act 565 = .ok (.iadd, 1) := by decide +kernel
theorem dL_act_566 : decode cL_act 566 = .ok (.if_icmp .ne 30, 3) := by decide +kernel
theorem dL_act_569 : decode cL_act 569 = .ok (.aload_n 0, 1) := by decide +kernel
theorem dL_act_570 : decode cL_act 570 = .ok (.iload 4, 2) := by decide +kernel
theorem dL_act_572 : decode cL_act 572 = .ok (.bipush 8, 2) := by decide +kernel
theorem dL_act_574 : decode cL_act 574 = .ok (.invokevirtual 66, 3) := by decide +kernel
theorem dL_act_577 : decode cL_act 577 = .ok (.iconst 1, 1) := by decide +kernel
theorem dL_act_578 : decode cL_act 578 = .ok (.if_icmp .ne 18, 3) := by decide +kernel
theorem dL_act_581 : decode cL_act 581 = .ok (.aload_n 0, 1) := by decide +kernel
theorem dL_act_582 : decode cL_act 582 = .ok (.iload 4, 2) := by decide +kernel
theorem dL_act_584 : decode cL_act 584 = .ok (.invokevirtual 80, 3) := by decide +kernel
theorem dL_act_587 : decode cL_act 587 = .ok (.bipush (-5), 2) := by decide +kernel
theorem dL_act_589 : decode cL_act 589 = .ok (.if_icmp .ne 7, 3) := by decide +kernel
theorem dL_act_592 : decode cL_act 592 = .ok (.iconst 1, 1) := by decide +kernel
theorem dL_act_593 : decode cL_act 593 = .ok (.goto 4, 3) := by decide +kernel
theorem dL_act_596 : decode cL_act 596 = .ok (.iconst 0, 1) := by decide +kernel
theorem dL_act_597 : decode cL_act 597 = .ok (.ireturn, 1) := by decide +kernel
theorem dL_act_598 : decode cL_act 598 = .ok (.iload_n 3, 1) := by decide +kernel
theorem dL_act_599 : decode cL_act 599 = .ok (.aload_n 0, 1) := by decide +kernel
theorem dL_act_600 : decode cL_act 600 = .ok (.iconst 1, 1) := by decide +kernel
theorem dL_act_601 : decode cL_act 601 = .ok (.invokevirtual 60, 3) := by decide +kernel
theorem dL_act_604 : decode cL_act 604 = .ok (.invokestatic 23, 3) := by decide +kernel
theorem dL_act_607 : decode cL_act 607 = .ok (.istore 5, 2) := by decide +kernel
theorem dL_act_609 : decode cL_act 609 = .ok (.aload_n 0, 1) := by decide +kernel
theorem dL_act_610 : decode cL_act 610 = .ok (.iconst 5, 1) := by decide +kernel
theorem dL_act_611 : decode cL_act 611 = .ok (.invokevirtual 60, 3) := by decide +kernel
theorem dL_act_614 : decode cL_act 614 = .ok (.istore 6, 2) := by decide +kernel
theorem dL_act_616 : decode cL_act 616 = .ok (.iload 4, 2) := by decide +kernel
theorem dL_act_618 : decode cL_act 618 = .ok (.iload 5, 2) := by decide +kernel
theorem dL_act_620 : decode cL_act 620 = .ok (.if_icmp .ne 23, 3) := by decide +kernel
theorem dL_act_623 : decode cL_act 623 = .ok (.aload_n 0, 1) := by decide +kernel
theorem dL_act_624 : decode cL_act 624 = .ok (.iload 4, 2) := by decide +kernel
theorem dL_act_626 : decode cL_act 626 = .ok (.iload 5, 2) := by decide +kernel
theorem dL_act_628 : decode cL_act 628 = .ok (.invokevirtual 83, 3) := by decide +kernel
theorem dL_act_631 : decode cL_act 631 = .ok (.iconst (-1), 1) := by decide +kernel
theorem dL_act_632 : decode cL_act 632 = .ok (.if_icmp .ne 7, 3) := by decide +kernel
theorem dL_act_635 : decode cL_act 635 = .ok (.iconst 1, 1) := by decide +kernel
theorem dL_act_636 : decode cL_act 636 = .ok (.goto 67, 3) := by decide +kernel
theorem dL_act_639 : decode cL_act 639 = .ok (.iconst 0, 1) := by decide +kernel
theorem dL_act_640 : decode cL_act 640 = .ok (.goto 63, 3) := by decide +kernel
theorem dL_act_643 : decode cL_act 643 = .ok (.iload 6, 2) := by decide +kernel
theorem dL_act_645 : decode cL_act 645 = .ok (.bipush 8, 2) := by decide +kernel
theorem dL_act_647 : decode cL_act 647 = .ok (.if_icmp .ne 24, 3) := by decide +kernel
theorem dL_act_650 : decode cL_act 650 = .ok (.aload_n 0, 1) := by decide +kernel
theorem dL_act_651 : decode cL_act 651 = .ok (.iload 4, 2) := by decide +kernel
theorem dL_act_653 : decode cL_act 653 = .ok (.iload 5, 2) := by decide +kernel
theorem dL_act_655 : decode cL_act 655 = .ok (.invokevirtual 83, 3) := by decide +kernel
theorem dL_act_658 : decode cL_act 658 = .ok (.bipush (-4), 2) := by decide +kernel
theorem dL_act_660 : decode cL_act 660 = .ok (.if_icmp .ne 7, 3) := by decide +kernel
theorem dL_act_663 : decode cL_act 663 = .ok (.iconst 1, 1) := by decide +kernel
theorem dL_act_664 : decode cL_act 664 = .ok (.goto 39, 3) := by decide +kernel
theorem dL_act_667 : decode cL_act 667 = .ok (.iconst 0, 1) := by decide +kernel
theorem dL_act_668 : decode cL_act 668 = .ok (.goto 35, 3) := by decide +kernel
theorem dL_act_671 : decode cL_act 671 = .ok (.aload_n 0, 1) := by decide +kernel
theorem dL_act_672 : decode cL_act 672 = .ok (.iload 4, 2) := by decide +kernel
theorem dL_act_674 : decode cL_act 674 = .ok (.iload 5, 2) := by decide +kernel
theorem dL_act_676 : decode cL_act 676 = .ok (.invokevirtual 83, 3) := by decide +kernel
theorem dL_act_679 : decode cL_act 679 = .ok (.iload 6, 2) := by decide +kernel
theorem dL_act_681 : decode cL_act 681 = .ok (.iconst 1, 1) := by decide +kernel
theorem dL_act_682 : decode cL_act 682 = .ok (.iadd, 1) := by decide +kernel
theorem dL_act_683 : decode cL_act 683 = .ok (.if_icmp .ne 19, 3) := by decide +kernel
theorem dL_act_686 : decode cL_act 686 = .ok (.aload_n 0, 1) := by decide +kernel
theorem dL_act_687 : decode cL_act 687 = .ok (.iconst 5, 1) := by decide +kernel
theorem dL_act_688 : decode cL_act 688 = .ok (.invokevirtual 60, 3) := by decide +kernel
theorem dL_act_691 : decode cL_act 691 = .ok (.iload 6, 2) := by decide +kernel
theorem dL_act_693 : decode cL_act 693 = .ok (.iconst 1, 1) := by decide +kernel
theorem dL_act_694 : decode cL_act 694 = .ok (.iadd, 1) := by decide +kernel
theorem dL_act_695 : decode cL_act 695 = .ok (.if_icmp .ne 7, 3) := by decide +kernel
theorem dL_act_698 : decode cL_act 698 = .ok (.iconst 1, 1) := by decide +kernel
theorem dL_act_699 : decode cL_act 699 = .ok (.goto 4, 3) := by decide +kernel
theorem dL_act_702 : decode cL_act 702 = .ok (.iconst 0, 1) := by decide +kernel
theorem dL_act_703 : decode cL_act 703 = .ok (.ireturn, 1) := by decide +kernel
theorem dL_act_704 : decode cL_act 704 = .ok (.iconst 1, 1) := by decide +kernel
theorem dL_act_705 : decode cL_act 705 = .ok (.iload_n 3, 1) := by decide +kernel
theorem dL_act_706 : decode cL_act 706 = .ok (.ldc 86, 2) := by decide +kernel
theorem dL_act_708 : decode cL_act 708 = .ok (.invokestatic 23, 3) := by decide +kernel
theorem dL_act_711 : decode cL_act 711 = .ok (.iadd, 1) := by decide +kernel
theorem dL_act_712 : decode cL_act 712 = .ok (.istore 5, 2) := by decide +kernel
theorem dL_act_714 : decode cL_act 714 = .ok (.aload_n 0, 1) := by decide +kernel
theorem dL_act_715 : decode cL_act 715 = .ok (.iload 4, 2) := by decide +kernel
theorem dL_act_717 : decode cL_act 717 = .ok (.iconst 0, 1) := by decide +kernel
theorem dL_act_718 : decode cL_act 718 = .ok (.invokevirtual 73, 3) := by decide +kernel
theorem dL_act_721 : decode cL_act 721 = .ok (.lstore 6, 2) := by decide +kernel
theorem dL_act_723 : decode cL_act 723 = .ok (.aload_n 0, 1) := by decide +kernel
theorem dL_act_724 : decode cL_act 724 = .ok (.iload 4, 2) := by decide +kernel
theorem dL_act_726 : decode cL_act 726 = .ok (.iload 5, 2) := by decide +kernel
theorem dL_act_728 : decode cL_act 728 = .ok (.invokevirtual 87, 3) := by decide +kernel
theorem dL_act_731 : decode cL_act 731 = .ok (.lload 6, 2) := by decide +kernel
theorem dL_act_733 : decode cL_act 733 = .ok (.iload 5, 2) := by decide +kernel
theorem dL_act_735 : decode cL_act 735 = .ok (.i2l, 1) := by decide +kernel
theorem dL_act_736 : decode cL_act 736 = .ok (.ladd, 1) := by decide +kernel
theorem dL_act_737 : decode cL_act 737 = .ok (.lconst 0, 1) := by decide +kernel
theorem dL_act_738 : decode cL_act 738 = .ok (.lcmp, 1) := by decide +kernel
theorem dL_act_739 : decode cL_act 739 = .ok (.ifCond .lt 7, 3) := by decide +kernel
theorem dL_act_742 : decode cL_act 742 = .ok (.iconst 1, 1) := by decide +kernel
theorem dL_act_743 : decode cL_act 743 = .ok (.goto 4, 3) := by decide +kernel
theorem dL_act_746 : decode cL_act 746 = .ok (.iconst 0, 1) := by decide +kernel
theorem dL_act_747 : decode cL_act 747 = .ok (.if_icmp .ne 36, 3) := by decide +kernel
theorem dL_act_750 : decode cL_act 750 = .ok (.aload_n 0, 1) := by decide +kernel
theorem dL_act_751 : decode cL_act 751 = .ok (.iload 4, 2) := by decide +kernel
theorem dL_act_753 : decode cL_act 753 = .ok (.iconst 0, 1) := by decide +kernel
theorem dL_act_754 : decode cL_act 754 = .ok (.invokevirtual 73, 3) := by decide +kernel
theorem dL_act_757 : decode cL_act 757 = .ok (.lload 6, 2) := by decide +kernel
theorem dL_act_759 : decode cL_act 759 = .ok (.iload 5, 2) := by decide +kernel
theorem dL_act_761 : decode cL_act 761 = .ok (.i2l, 1) := by decide +kernel
theorem dL_act_762 : decode cL_act 762 = .ok (.ladd, 1) := by decide +kernel
theorem dL_act_763 : decode cL_act 763 = .ok (.lcmp, 1) := by decide +kernel
theorem dL_act_764 : decode cL_act 764 = .ok (.ifCond .ne 19, 3) := by decide +kernel
theorem dL_act_767 : decode cL_act 767 = .ok (.aload_n 0, 1) := by decide +kernel
theorem dL_act_768 : decode cL_act 768 = .ok (.iload 4, 2) := by decide +kernel
theorem dL_act_770 : decode cL_act 770 = .ok (.iconst 0, 1) := by decide +kernel
theorem dL_act_771 : decode cL_act 771 = .ok (.invokevirtual 87, 3) := by decide +kernel
theorem dL_act_774 : decode cL_act 774 = .ok (.bipush (-2), 2) := by decide +kernel
theorem dL_act_776 : decode cL_act 776 = .ok (.if_icmp .ne 7, 3) := by decide +kernel
theorem dL_act_779 : decode cL_act 779 = .ok (.iconst 1, 1) := by decide +kernel
theorem dL_act_780 : decode cL_act 780 = .ok (.goto 4, 3) := by decide +kernel
theorem dL_act_783 : decode cL_act 783 = .ok (.iconst 0, 1) := by decide +kernel
theorem dL_act_784 : decode cL_act 784 = .ok (.ireturn, 1) := by decide +kernel
theorem dL_act_785 : decode cL_act 785 = .ok (.iload_n 3, 1) := by decide +kernel
theorem dL_act_786 : decode cL_act 786 = .ok (.aload_n 0, 1) := by decide +kernel
theorem dL_act_787 : decode cL_act 787 = .ok (.iconst 2, 1) := by decide +kernel
theorem dL_act_788 : decode cL_act 788 = .ok (.invokevirtual 60, 3) := by decide +kernel
theorem dL_act_791 : decode cL_act 791 = .ok (.invokestatic 23, 3) := by decide +kernel
theorem dL_act_794 : decode cL_act 794 = .ok (.istore 5, 2) := by decide +kernel
theorem dL_act_796 : decode cL_act 796 = .ok (.aload_n 0, 1) := by decide +kernel
theorem dL_act_797 : decode cL_act 797 = .ok (.iload 5, 2) := by decide +kernel
theorem dL_act_799 : decode cL_act 799 = .ok (.iconst 0, 1) := by decide +kernel
theorem dL_act_800 : decode cL_act 800 = .ok (.invokevirtual 90, 3) := by decide +kernel
theorem dL_act_803 : decode cL_act 803 = .ok (.istore 6, 2) := by decide +kernel
theorem dL_act_805 : decode cL_act 805 = .ok (.aload_n 0, 1) := by decide +kernel
theorem dL_act_806 : decode cL_act 806 = .ok (.iload 5, 2) := by decide +kernel
theorem dL_act_808 : decode cL_act 808 = .ok (.iload_n 3, 1) := by decide +kernel
theorem dL_act_809 : decode cL_act 809 = .ok (.iconst 4, 1) := by decide +kernel
theorem dL_act_810 : decode cL_act 810 = .ok (.ishr, 1) := by decide +kernel
theorem dL_act_811 : decode cL_act 811 = .ok (.sipush 20001, 3) := by decide +kernel
theorem dL_act_814 : decode cL_act 814 = .ok (.invokestatic 23, 3) := by decide +kernel
theorem dL_act_817 : decode cL_act 817 = .ok (.invokevirtual 93, 3) := by decide +kernel
theorem dL_act_820 : decode cL_act 820 = .ok (.iload 6, 2) := by decide +kernel
theorem dL_act_822 : decode cL_act 822 = .ok (.if_icmp .ne 40, 3) := by decide +kernel
theorem dL_act_825 : decode cL_act 825 = .ok (.aload_n 0, 1) := by decide +kernel
theorem dL_act_826 : decode cL_act 826 = .ok (.iload 5, 2) := by decide +kernel
theorem dL_act_828 : decode cL_act 828 = .ok (.iconst 0, 1) := by decide +kernel
theorem dL_act_829 : decode cL_act 829 = .ok (.invokevirtual 90, 3) := by decide +kernel
theorem dL_act_832 : decode cL_act 832 = .ok (.iload_n 3, 1) := by decide +kernel
theorem dL_act_833 : decode cL_act 833 = .ok (.iconst 4, 1) := by decide +kernel
theorem dL_act_834 : decode cL_act 834 = .ok (.ishr, 1) := by decide +kernel
theorem dL_act_835 : decode cL_act 835 = .ok (.sipush 20001, 3) := by decide +kernel
theorem dL_act_838 : decode cL_act 838 = .ok (.invokestatic 23, 3) := by decide +kernel
theorem dL_act_841 : decode cL_act 841 = .ok (.if_icmp .ne 21, 3) := by decide +kernel
theorem dL_act_844 : decode cL_act 844 = .ok (.aload_n 0, 1) := by decide +kernel
theorem dL_act_845 : decode cL_act 845 = .ok (.iload 5, 2) := by decide +kernel
theorem dL_act_847 : decode cL_act 847 = .ok (.sipush 20001, 3) := by decide +kernel
theorem dL_act_850 : decode cL_act 850 = .ok (.invokevirtual 93, 3) := by decide +kernel
theorem dL_act_853 : decode cL_act 853 = .ok (.bipush (-2), 2) := by decide +kernel
theorem dL_act_855 : decode cL_act 855 = .ok (.if_icmp .ne 7, 3) := by decide +kernel
theorem dL_act_858 : decode cL_act 858 = .ok (.iconst 1, 1) := by decide +kernel
theorem dL_act_859 : decode cL_act 859 = .ok (.goto 4, 3) := by decide +kernel
theorem dL_act_862 : decode cL_act 862 = .ok (.iconst 0, 1) := by decide +kernel
theorem dL_act_863 : decode cL_act 863 = .ok (.ireturn, 1) := by decide +kernel
theorem dL_act_864 : decode cL_act 864 = .ok (.aload_n 0, 1) := by decide +kernel
theorem dL_act_865 : decode cL_act 865 = .ok (.iconst 3, 1) := by decide +kernel
theorem dL_act_866 : decode cL_act 866 = .ok (.invokevirtual 60, 3) := by decide +kernel
theorem dL_act_869 : decode cL_act 869 = .ok (.istore 5, 2) := by decide +kernel
theorem dL_act_871 : decode cL_act 871 = .ok (.iload_n 2, 1) := by decide +kernel
theorem dL_act_872 : decode cL_act 872 = .ok (.iconst 2, 1) := by decide +kernel
theorem dL_act_873 : decode cL_act 873 = .ok (.invokestatic 23, 3) := by decide +kernel
theorem dL_act_876 : decode cL_act 876 = .ok (.ifCond .ne 9, 3) := by decide +kernel
theorem dL_act_879 : decode cL_act 879 = .ok (.aload_n 0, 1) := by decide +kernel
theorem dL_act_880 : decode cL_act 880 = .ok (.iload_n 3, 1) := by decide +kernel
theorem dL_act_881 : decode cL_act 881 = .ok (.invokestatic 31, 3) := by decide +kernel
theorem dL_act_884 : decode cL_act 884 = .ok (.ireturn, 1) := by decide +kernel
theorem dL_act_885 : decode cL_act 885 = .ok (.aload_n 0, 1) := by decide +kernel
theorem dL_act_886 : decode cL_act 886 = .ok (.iload_n 3, 1) := by decide +kernel
theorem dL_act_887 : decode cL_act 887 = .ok (.ldc 22, 2) := by decide +kernel
theorem dL_act_889 : decode cL_act 889 = .ok (.invokestatic 23, 3) := by decide +kernel
theorem dL_act_892 : decode cL_act 892 = .ok (.invokevirtual 27, 3) := by decide +kernel
theorem dL_act_895 : decode cL_act 895 = .ok (.iload 5, 2) := by decide +kernel
theorem dL_act_897 : decode cL_act 897 = .ok (.if_icmp .ne 32, 3) := by decide +kernel
theorem dL_act_900 : decode cL_act 900 = .ok (.aload_n 0, 1) := by decide +kernel
theorem dL_act_901 : decode cL_act 901 = .ok (.iconst 3, 1) := by decide +kernel
theorem dL_act_902 : decode cL_act 902 = .ok (.invokevirtual 60, 3) := by decide +kernel
theorem dL_act_905 : decode cL_act 905 = .ok (.iload_n 3, 1) := by decide +kernel
theorem dL_act_906 : decode cL_act 906 = .ok (.ldc 22, 2) := by decide +kernel
theorem dL_act_908 : decode cL_act 908 = .ok (.invokestatic 23, 3) := by decide +kernel
theorem dL_act_911 : decode cL_act 911 = .ok (.if_icmp .ne 18, 3) := by decide +kernel
theorem dL_act_914 : decode cL_act 914 = .ok (.aload_n 0, 1) := by decide +kernel
theorem dL_act_915 : decode cL_act 915 = .ok (.ldc 22, 2) := by decide +kernel
theorem dL_act_917 : decode cL_act 917 = .ok (.invokevirtual 27, 3) := by decide +kernel
theorem dL_act_920 : decode cL_act 920 = .ok (.bipush (-2), 2) := by decide +kernel
theorem dL_act_922 : decode cL_act 922 = .ok (.if_icmp .ne 7, 3) := by decide +kernel
theorem dL_act_925 : decode cL_act 925 = .ok (.iconst 1, 1) := by decide +kernel
theorem dL_act_926 : decode cL_act 926 = .ok (.goto 4, 3) := by decide +kernel
theorem dL_act_929 : decode cL_act 929 = .ok (.iconst 0, 1) := by decide +kernel
theorem dL_act_930 : decode cL_act 930 = .ok (.ireturn, 1) := by decide +kernel
theorem dL_act_931 : decode cL_act 931 = .ok (.iconst 1, 1) := by decide +kernel
theorem dL_act_932 : decode cL_act 932 = .ok (.iload_n 2, 1) := by decide +kernel
theorem dL_act_933 : decode cL_act 933 = .ok (.iload_n 3, 1) := by decide +kernel
theorem dL_act_934 : decode cL_act 934 = .ok (.bipush 6, 2) := by decide +kernel
theorem dL_act_936 : decode cL_act 936 = .ok (.invokestatic 23, 3) := by decide +kernel
theorem dL_act_939 : decode cL_act 939 = .ok (.ifCond .ne 8, 3) := by decide +kernel
theorem dL_act_942 : decode cL_act 942 = .ok (.bipush 30, 2) := by decide +kernel
theorem dL_act_944 : decode cL_act 944 = .ok (.goto 4, 3) := by decide +kernel
theorem dL_act_947 : decode cL_act 947 = .ok (.iconst 4, 1) := by decide +kernel
theorem dL_act_948 : decode cL_act 948 = .ok (.invokestatic 23, 3) := by decide +kernel
theorem dL_act_951 : decode cL_act 951 = .ok (.iadd, 1) := by decide +kernel
theorem dL_act_952 : decode cL_act 952 = .ok (.istore 5, 2) := by decide +kernel
theorem dL_act_954 : decode cL_act 954 = .ok (.aload_n 0, 1) := by decide +kernel
theorem dL_act_955 : decode cL_act 955 = .ok (.iconst 0, 1) := by decide +kernel
theorem dL_act_956 : decode cL_act 956 = .ok (.invokevirtual 60, 3) := by decide +kernel
theorem dL_act_959 : decode cL_act 959 = .ok (.istore 6, 2) := by decide +kernel
theorem dL_act_961 : decode cL_act 961 = .ok (.aload_n 0, 1) := by decide +kernel
theorem dL_act_962 : decode cL_act 962 = .ok (.iload 5, 2) := by decide +kernel
theorem dL_act_964 : decode cL_act 964 = .ok (.invokevirtual 96, 3) := by decide +kernel
theorem dL_act_967 : decode cL_act 967 = .ok (.iload 6, 2) := by decide +kernel
theorem dL_act_969 : decode cL_act 969 = .ok (.iload 5, 2) := by decide +kernel
theorem dL_act_971 : decode cL_act 971 = .ok (.iadd, 1) := by decide +kernel
theorem dL_act_972 : decode cL_act 972 = .ok (.if_icmp .ne 28, 3) := by decide +kernel
theorem dL_act_975 : decode cL_act 975 = .ok (.aload_n 0, 1) := by decide +kernel
theorem dL_act_976 : decode cL_act 976 = .ok (.iconst 0, 1) := by decide +kernel
theorem dL_act_977 : decode cL_act 977 = .ok (.invokevirtual 60, 3) := by decide +kernel
theorem dL_act_980 : decode cL_act 980 = .ok (.iload 6, 2) := by decide +kernel
theorem dL_act_982 : decode cL_act 982 = .ok (.iload 5, 2) := by decide +kernel
theorem dL_act_984 : decode cL_act 984 = .ok (.iadd, 1) := by decide +kernel
theorem dL_act_985 : decode cL_act 985 = .ok (.if_icmp .ne 15, 3) := by decide +kernel
theorem dL_act_988 : decode cL_act 988 = .ok (.aload_n 0, 1) := by decide +kernel
theorem dL_act_989 : decode cL_act 989 = .ok (.iconst 5, 1) := by decide +kernel
theorem dL_act_990 : decode cL_act 990 = .ok (.invokevirtual 60, 3) := by decide +kernel
theorem dL_act_993 : decode cL_act 993 = .ok (.ifCond .ne 7, 3) := by decide +kernel
theorem dL_act_996 : decode cL_act 996 = .ok (.iconst 1, 1) := by decide +kernel
theorem dL_act_997 : decode cL_act 997 = .ok (.goto 4, 3) := by decide +kernel
theorem dL_act_1000 : decode cL_act 1000 = .ok (.iconst 0, 1) := by decide +kernel
theorem dL_act_1001 : decode cL_act 1001 = .ok (.ireturn, 1) := by decide +kernel
theorem dL_act_1002 : decode cL_act 1002 = .ok (.aload_n 0, 1) := by decide +kernel
theorem dL_act_1003 : decode cL_act 1003 = .ok (.iload_n 2, 1) := by decide +kernel
theorem dL_act_1004 : decode cL_act 1004 = .ok (.iload_n 3, 1) := by decide +kernel
theorem dL_act_1005 : decode cL_act 1005 = .ok (.invokestatic 99, 3) := by decide +kernel
theorem dL_act_1008 : decode cL_act 1008 = .ok (.ireturn, 1) := by decide +kernel
theorem dL_number_0 : decode cL_number 0 = .ok (.iload_n 1, 1) := by decide +kernel
theorem dL_number_1 : decode cL_number 1 = .ok (.bipush 9, 2) := by decide +kernel
theorem dL_number_3 : decode cL_number 3 = .ok (.if_icmp .le 16, 3) := by decide +kernel
theorem dL_number_6 : decode cL_number 6 = .ok (.aload_n 0, 1) := by decide +kernel
theorem dL_number_7 : decode cL_number 7 = .ok (.bipush 48, 2) := by decide +kernel
theorem dL_number_9 : decode cL_number 9 = .ok (.iload_n 1, 1) := by decide +kernel
theorem dL_number_10 : decode cL_number 10 = .ok (.bipush 10, 2) := by decide +kernel
theorem dL_number_12 : decode cL_number 12 = .ok (.idiv, 1) := by decide +kernel
theorem dL_number_13 : decode cL_number 13 = .ok (.iadd, 1) := by decide +kernel
theorem dL_number_14 : decode cL_number 14 = .ok (.i2l, 1) := by decide +kernel
theorem dL_number_15 : decode cL_number 15 = .ok (.invokevirtual 103, 3) := by decide +kernel
theorem dL_number_18 : decode cL_number 18 = .ok (.pop, 1) := by decide +kernel
theorem dL_number_19 : decode cL_number 19 = .ok (.aload_n 0, 1) := by decide +kernel
theorem dL_number_20 : decode cL_number 20 = .ok (.bipush 48, 2) := by decide +kernel
theorem dL_number_22 : decode cL_number 22 = .ok (.iload_n 1, 1) := by decide +kernel
theorem dL_number_23 : decode cL_number 23 = .ok (.bipush 10, 2) := by decide +kernel
theorem dL_number_25 : decode cL_number 25 = .ok (.irem, 1) := by decide +kernel
theorem dL_number_26 : decode cL_number 26 = .ok (.iadd, 1) := by decide +kernel
theorem dL_number_27 : decode cL_number 27 = .ok (.i2l, 1) := by decide +kernel
theorem dL_number_28 : decode cL_number 28 = .ok (.invokevirtual 103, 3) := by decide +kernel
theorem dL_number_31 : decode cL_number 31 = .ok (.pop, 1) := by decide +kernel
theorem dL_number_32 : decode cL_number 32 = .ok (.return_, 1) := by decide +kernel
theorem dL_text_0 : decode cL_text 0 = .ok (.iconst 1, 1) := by decide +kernel
theorem dL_text_1 : decode cL_text 1 = .ok (.iload_n 1, 1) := by decide +kernel
theorem dL_text_2 : decode cL_text 2 = .ok (.iconst 5, 1) := by decide +kernel
theorem dL_text_3 : decode cL_text 3 = .ok (.invokestatic 23, 3) := by decide +kernel
theorem dL_text_6 : decode cL_text 6 = .ok (.iadd, 1) := by decide +kernel
theorem dL_text_7 : decode cL_text 7 = .ok (.istore_n 3, 1) := by decide +kernel
theorem dL_text_8 : decode cL_text 8 = .ok (.bipush 40, 2) := by decide +kernel
theorem dL_text_10 : decode cL_text 10 = .ok (.newarray .int, 2) := by decide +kernel
theorem dL_text_12 : decode cL_text 12 = .ok (.astore 4, 2) := by decide +kernel
theorem dL_text_14 : decode cL_text 14 = .ok (.aload_n 0, 1) := by decide +kernel
theorem dL_text_15 : decode cL_text 15 = .ok (.invokevirtual 107, 3) := by decide +kernel
theorem dL_text_18 : decode cL_text 18 = .ok (.pop, 1) := by decide +kernel
theorem dL_text_19 : decode cL_text 19 = .ok (.aload_n 0, 1) := by decide +kernel
theorem dL_text_20 : decode cL_text 20 = .ok (.invokevirtual 111, 3) := by decide +kernel
theorem dL_text_23 : decode cL_text 23 = .ok (.ifCond .ne 12, 3) := by decide +kernel
theorem dL_text_26 : decode cL_text 26 = .ok (.aload_n 0, 1) := by decide +kernel
theorem dL_text_27 : decode cL_text 27 = .ok (.invokevirtual 114, 3) := by decide +kernel
theorem dL_text_30 : decode cL_text 30 = .ok (.bipush (-3), 2) := by decide +kernel
theorem dL_text_32 : decode cL_text 32 = .ok (.if_icmp .eq 5, 3) := by decide +kernel
theorem dL_text_35 : decode cL_text 35 = .ok (.iconst 0, 1) := by decide +kernel
theorem dL_text_36 : decode cL_text 36 = .ok (.ireturn, 1) := by decide +kernel
theorem dL_text_37 : decode cL_text 37 = .ok (.iconst 0, 1) := by decide +kernel
theorem dL_text_38 : decode cL_text 38 = .ok (.istore 5, 2) := by decide +kernel
theorem dL_text_40 : decode cL_text 40 = .ok (.iload 5, 2) := by decide +kernel
theorem dL_text_42 : decode cL_text 42 = .ok (.iload_n 3, 1) := by decide +kernel
theorem dL_text_43 : decode cL_text 43 = .ok (.if_icmp .ge 482, 3) := by decide +kernel
theorem dL_text_46 : decode cL_text 46 = .ok (.iload_n 1, 1) := by decide +kernel
theorem dL_text_47 : decode cL_text 47 = .ok (.iconst 3, 1) := by decide +kernel
theorem dL_text_48 : decode cL_text 48 = .ok (.ishr, 1) := by decide +kernel
theorem dL_text_49 : decode cL_text 49 = .ok (.bipush 37, 2) := by decide +kernel
theorem dL_text_51 : decode cL_text 51 = .ok (.iload 5, 2) := by decide +kernel
theorem dL_text_53 : decode cL_text 53 = .ok (.imul, 1) := by decide +kernel
theorem dL_text_54 : decode cL_text 54 = .ok (.iadd, 1) := by decide +kernel
theorem dL_text_55 : decode cL_text 55 = .ok (.istore 6, 2) := by decide +kernel
theorem dL_text_57 : decode cL_text 57 = .ok (.iload_n 2, 1) := by decide +kernel
theorem dL_text_58 : decode cL_text 58 = .ok (.iload 5, 2) := by decide +kernel
theorem dL_text_60 : decode cL_text 60 = .ok (.ishr, 1) := by decide +kernel
theorem dL_text_61 : decode cL_text 61 = .ok (.bipush 11, 2) := by decide +kernel
theorem dL_text_63 : decode cL_text 63 = .ok (.iload 5, 2) := by decide +kernel
theorem dL_text_65 : decode cL_text 65 = .ok (.imul, 1) := by decide +kernel
theorem dL_text_66 : decode cL_text 66 = .ok (.iadd, 1) := by decide +kernel
theorem dL_text_67 : decode cL_text 67 = .ok (.istore 7, 2) := by decide +kernel
theorem dL_text_69 : decode cL_text 69 = .ok (.bipush 8, 2) := by decide +kernel
theorem dL_text_71 : decode cL_text 71 = .ok (.iload 5, 2) := by decide +kernel
theorem dL_text_73 : decode cL_text 73 = .ok (.imul, 1) := by decide +kernel
theorem dL_text_74 : decode cL_text 74 = .ok (.istore 8, 2) := by decide +kernel
theorem dL_text_76 : decode cL_text 76 = .ok (.aload 4, 2) := by decide +kernel
theorem dL_text_78 : decode cL_text 78 = .ok (.iload 8, 2) := by decide +kernel
theorem dL_text_80 : decode cL_text 80 = .ok (.iload 6, 2) := by decide +kernel
theorem dL_text_82 : decode cL_text 82 = .ok (.iconst 5, 1) := by decide +kernel
theorem dL_text_83 : decode cL_text 83 = .ok (.invokestatic 23, 3) := by decide +kernel
theorem dL_text_86 : decode cL_text 86 = .ok (.iastore, 1) := by decide +kernel
theorem dL_text_87 : decode cL_text 87 = .ok (.aload 4, 2) := by decide +kernel
theorem dL_text_89 : decode cL_text 89 = .ok (.iload 8, 2) := by decide +kernel
theorem dL_text_91 : decode cL_text 91 = .ok (.iconst 1, 1) := by decide +kernel
theorem dL_text_92 : decode cL_text 92 = .ok (.iadd, 1) := by decide +kernel
theorem dL_text_93 : decode cL_text 93 = .ok (.iload 6, 2) := by decide +kernel
theorem dL_text_95 : decode cL_text 95 = .ok (.iconst 3, 1) := by decide +kernel
theorem dL_text_96 : decode cL_text 96 = .ok (.ishr, 1) := by decide +kernel
theorem dL_text_97 : decode cL_text 97 = .ok (.bipush 9, 2) := by decide +kernel
theorem dL_text_99 : decode cL_text 99 = .ok (.invokestatic 23, 3) := by decide +kernel
theorem dL_text_102 : decode cL_text 102 = .ok (.iastore, 1) := by decide +kernel
theorem dL_text_103 : decode cL_text 103 = .ok (.aload 4, 2) := by decide +kernel
theorem dL_text_105 : decode cL_text 105 = .ok (.iload 8, 2) := by decide +kernel
theorem dL_text_107 : decode cL_text 107 = .ok (.iconst 2, 1) := by decide +kernel
theorem dL_text_108 : decode cL_text 108 = .ok (.iadd, 1) := by decide +kernel
theorem dL_text_109 : decode cL_text 109 = .ok (.iload 7, 2) := by decide +kernel
theorem dL_text_111 : decode cL_text 111 = .ok (.aload 4, 2) := by decide +kernel
theorem dL_text_113 : decode cL_text 113 = .ok (.iload 8, 2) := by decide +kernel
theorem dL_text_115 : decode cL_text 115 = .ok (.iaload, 1) := by decide +kernel
theorem dL_text_116 : decode cL_text 116 = .ok (.iconst 1, 1) := by decide +kernel
theorem dL_text_117 : decode cL_text 117 = .ok (.if_icmp .ne 8, 3) := by decide +kernel
theorem dL_text_120 : decode cL_text 120 = .ok (.bipush 9, 2) := by decide +kernel
theorem dL_text_122 : decode cL_text 122 = .ok (.goto 5, 3) := by decide +kernel
theorem dL_text_125 : decode cL_text 125 = .ok (.bipush 10, 2) := by decide +kernel
theorem dL_text_127 : decode cL_text 127 = .ok (.invokestatic 23, 3) := by decide +kernel
theorem dL_text_130 : decode cL_text 130 = .ok (.iastore, 1) := by decide +kernel
theorem dL_text_131 : decode cL_text 131 = .ok (.aload 4, 2) := by decide +kernel
theorem dL_text_133 : decode cL_text 133 = .ok (.iload 8, 2) := by decide +kernel
theorem dL_text_135 : decode cL_text 135 = .ok (.iconst 3, 1) := by decide +kernel
theorem dL_text_136 : decode cL_text 136 = .ok (.iadd, 1) := by decide +kernel
theorem dL_text_137 : decode cL_text 137 = .ok (.iload 7, 2) := by decide +kernel
theorem dL_text_139 : decode cL_text 139 = .ok (.iconst 4, 1) := by decide +kernel
theorem dL_text_140 : decode cL_text 140 = .ok (.ishr, 1) := by decide +kernel
theorem dL_text_141 : decode cL_text 141 = .ok (.bipush 10, 2) := by decide +kernel
theorem dL_text_143 : decode cL_text 143 = .ok (.invokestatic 23, 3) := by decide +kernel
theorem dL_text_146 : decode cL_text 146 = .ok (.iastore, 1) := by decide +kernel
theorem dL_text_147 : decode cL_text 147 = .ok (.aload 4, 2) := by decide +kernel
theorem dL_text_149 : decode cL_text 149 = .ok (.iload 8, 2) := by decide +kernel
theorem dL_text_151 : decode cL_text 151 = .ok (.iconst 4, 1) := by decide +kernel
theorem dL_text_152 : decode cL_text 152 = .ok (.iadd, 1) := by decide +kernel
theorem dL_text_153 : decode cL_text 153 = .ok (.iload 7, 2) := by decide +kernel
theorem dL_text_155 : decode cL_text 155 = .ok (.bipush 8, 2) := by decide +kernel
theorem dL_text_157 : decode cL_text 157 = .ok (.ishr, 1) := by decide +kernel
theorem dL_text_158 : decode cL_text 158 = .ok (.iconst 4, 1) := by decide +kernel
theorem dL_text_159 : decode cL_text 159 = .ok (.invokestatic 23, 3) := by decide +kernel
theorem dL_text_162 : decode cL_text 162 = .ok (.iastore, 1) := by decide +kernel
theorem dL_text_163 : decode cL_text 163 = .ok (.iload 5, 2) := by decide +kernel
theorem dL_text_165 : decode cL_text 165 = .ok (.ifCond .le 11, 3) := by decide +kernel
theorem dL_text_168 : decode cL_text 168 = .ok (.aload_n 0, 1) := by decide +kernel
theorem dL_text_169 : decode cL_text 169 = .ok (.ldc2_w 117, 3) := by decide +kernel
theorem dL_text_172 : decode cL_text 172 = .ok (.invokevirtual 103, 3) := by decide +kernel
theorem dL_text_175 : decode cL_text 175 = .ok (.pop, 1) := by decide +kernel
theorem dL_text_176 : decode cL_text 176 = .ok (.aload_n 0, 1) := by decide +kernel
theorem dL_text_177 : decode cL_text 177 = .ok (.invokevirtual 111, 3) := by decide +kernel
theorem dL_text_180 : decode cL_text 180 = .ok (.aload_n 0, 1) := by decide +kernel
theorem dL_text_181 : decode cL_text 181 = .ok (.bipush 6, 2) := by decide +kernel
theorem dL_text_183 : decode cL_text 183 = .ok (.invokevirtual 60, 3) := by decide +kernel
theorem dL_text_186 : decode cL_text 186 = .ok (.if_icmp .eq 5, 3) := by decide +kernel
theorem dL_text_189 : decode cL_text 189 = .ok (.iconst 0, 1) := by decide +kernel
theorem dL_text_190 : decode cL_text 190 = .ok (.ireturn, 1) := by decide +kernel
theorem dL_text_191 : decode cL_text 191 = .ok (.aload_n 0, 1) := by decide +kernel
theorem dL_text_192 : decode cL_text 192 = .ok (.aload 4, 2) := by decide +kernel
theorem dL_text_194 : decode cL_text 194 = .ok (.iload 8, 2) := by decide +kernel
theorem dL_text_196 : decode cL_text 196 = .ok (.iaload, 1) := by decide +kernel
theorem dL_text_197 : decode cL_text 197 = .ok (.ifCond .ne 9, 3) := by decide +kernel
theorem dL_text_200 : decode cL_text 200 = .ok (.ldc2_w 119, 3) := by decide +kernel
theorem dL_text_203 : decode cL_text 203 = .ok (.goto 51, 3) := by decide +kernel
theorem dL_text_206 : decode cL_text 206 = .ok (.aload 4, 2) := by decide +kernel
theorem dL_text_208 : decode cL_text 208 = .ok (.iload 8, 2) := by decide +kernel
theorem dL_text_210 : decode cL_text 210 = .ok (.iaload, 1) := by decide +kernel
theorem dL_text_211 : decode cL_text 211 = .ok (.iconst 1, 1) := by decide +kernel
theorem dL_text_212 : decode cL_text 212 = .ok (.if_icmp .ne 9, 3) := by decide +kernel
theorem dL_text_215 : decode cL_text 215 = .ok (.ldc2_w 121, 3) := by decide +kernel
theorem dL_text_218 : decode cL_text 218 = .ok (.goto 36, 3) := by decide +kernel
theorem dL_text_221 : decode cL_text 221 = .ok (.aload 4, 2) := by decide +kernel
theorem dL_text_223 : decode cL_text 223 = .ok (.iload 8, 2) := by decide +kernel
theorem dL_text_225 : decode cL_text 225 = .ok (.iaload, 1) := by decide +kernel
theorem dL_text_226 : decode cL_text 226 = .ok (.iconst 2, 1) := by decide +kernel
theorem dL_text_227 : decode cL_text 227 = .ok (.if_icmp .ne 9, 3) := by decide +kernel
theorem dL_text_230 : decode cL_text 230 = .ok (.ldc2_w 123, 3) := by decide +kernel
theorem dL_text_233 : decode cL_text 233 = .ok (.goto 21, 3) := by decide +kernel
theorem dL_text_236 : decode cL_text 236 = .ok (.aload 4, 2) := by decide +kernel
theorem dL_text_238 : decode cL_text 238 = .ok (.iload 8, 2) := by decide +kernel
theorem dL_text_240 : decode cL_text 240 = .ok (.iaload, 1) := by decide +kernel
theorem dL_text_241 : decode cL_text 241 = .ok (.iconst 3, 1) := by decide +kernel
theorem dL_text_242 : decode cL_text 242 = .ok (.if_icmp .ne 9, 3) := by decide +kernel
theorem dL_text_245 : decode cL_text 245 = .ok (.ldc2_w 125, 3) := by decide +kernel
theorem dL_text_248 : decode cL_text 248 = .ok (.goto 6, 3) := by decide +kernel
theorem dL_text_251 : decode cL_text 251 = .ok (.ldc2_w 127, 3) := by decide +kernel
theorem dL_text_254 : decode cL_text 254 = .ok (.invokevirtual 103, 3) := by decide +kernel
theorem dL_text_257 : decode cL_text 257 = .ok (.pop, 1) := by decide +kernel
theorem dL_text_258 : decode cL_text 258 = .ok (.aload_n 0, 1) := by decide +kernel
theorem dL_text_259 : decode cL_text 259 = .ok (.invokevirtual 111, 3) := by decide +kernel
theorem dL_text_262 : decode cL_text 262 = .ok (.aload_n 0, 1) := by decide +kernel
theorem dL_text_263 : decode cL_text 263 = .ok (.bipush 6, 2) := by decide +kernel
theorem dL_text_265 : decode cL_text 265 = .ok (.invokevirtual 60, 3) := by decide +kernel
theorem dL_text_268 : decode cL_text 268 = .ok (.if_icmp .eq 5, 3) := by decide +kernel
theorem dL_text_271 : decode cL_text 271 = .ok (.iconst 0, 1) := by decide +kernel
theorem dL_text_272 : decode cL_text 272 = .ok (.ireturn, 1) := by decide +kernel
theorem dL_text_273 : decode cL_text 273 = .ok (.aload 4, 2) := by decide +kernel
theorem dL_text_275 : decode cL_text 275 = .ok (.iload 8, 2) := by decide +kernel
theorem dL_text_277 : decode cL_text 277 = .ok (.iaload, 1) := by decide +kernel
theorem dL_text_278 : decode cL_text 278 = .ok (.iconst 4, 1) := by decide +kernel
theorem dL_text_279 : decode cL_text 279 = .ok (.if_icmp .ne 17, 3) := by decide +kernel
theorem dL_text_282 : decode cL_text 282 = .ok (.aload_n 0, 1) := by decide +kernel
theorem dL_text_283 : decode cL_text 283 = .ok (.aload 4, 2) := by decide +kernel
theorem dL_text_285 : decode cL_text 285 = .ok (.iload 8, 2) := by decide +kernel
theorem dL_text_287 : decode cL_text 287 = .ok (.iconst 2, 1) := by decide +kernel
theorem dL_text_288 : decode cL_text 288 = .ok (.iadd, 1) := by decide +kernel
theorem dL_text_289 : decode cL_text 289 = .ok (.iaload, 1) := by decide +kernel
theorem dL_text_290 : decode cL_text 290 = .ok (.invokestatic 129, 3) := by decide +kernel
theorem dL_text_293 : decode cL_text 293 = .ok (.goto 19, 3) := by decide +kernel
theorem dL_text_296 : decode cL_text 296 = .ok (.aload_n 0, 1) := by decide +kernel
theorem dL_text_297 : decode cL_text 297 = .ok (.bipush 65, 2) := by decide +kernel
theorem dL_text_299 : decode cL_text 299 = .ok (.aload 4, 2) := by decide +kernel
theorem dL_text_301 : decode cL_text 301 = .ok (.iload 8, 2) := by decide +kernel
theorem dL_text_303 : decode cL_text 303 = .ok (.iconst 1, 1) := by decide +kernel
theorem dL_text_304 : decode cL_text 304 = .ok (.iadd, 1) := by decide +kernel
theorem dL_text_305 : decode cL_text 305 = .ok (.iaload, 1) := by decide +kernel
theorem dL_text_306 : decode cL_text 306 = .ok (.iadd, 1) := by decide +kernel
theorem dL_text_307 : decode cL_text 307 = .ok (.i2l, 1) := by decide +kernel
theorem dL_text_308 : decode cL_text 308 = .ok (.invokevirtual 103, 3) := by decide +kernel
theorem dL_text_311 : decode cL_text 311 = .ok (.pop, 1) := by decide +kernel
theorem dL_text_312 : decode cL_text 312 = .ok (.aload 4, 2) := by decide +kernel
theorem dL_text_314 : decode cL_text 314 = .ok (.iload 8, 2) := by decide +kernel
theorem dL_text_316 : decode cL_text 316 = .ok (.iaload, 1) := by decide +kernel
theorem dL_text_317 : decode cL_text 317 = .ok (.ifCond .ne 108, 3) := by decide +kernel
theorem dL_text_320 : decode cL_text 320 = .ok (.aload_n 0, 1) := by decide +kernel
theorem dL_text_321 : decode cL_text 321 = .ok (.invokevirtual 111, 3) := by decide +kernel
theorem dL_text_324 : decode cL_text 324 = .ok (.bipush (-6), 2) := by decide +kernel
theorem dL_text_326 : decode cL_text 326 = .ok (.if_icmp .eq 5, 3) := by decide +kernel
theorem dL_text_329 : decode cL_text 329 = .ok (.iconst 0, 1) := by decide +kernel
theorem dL_text_330 : decode cL_text 330 = .ok (.ireturn, 1) := by decide +kernel
theorem dL_text_331 : decode cL_text 331 = .ok (.aload 4, 2) := by decide +kernel
theorem dL_text_333 : decode cL_text 333 = .ok (.iload 8, 2) := by decide +kernel
theorem dL_text_335 : decode cL_text 335 = .ok (.iconst 4, 1) := by decide +kernel
theorem dL_text_336 : decode cL_text 336 = .ok (.iadd, 1) := by decide +kernel
theorem dL_text_337 : decode cL_text 337 = .ok (.iaload, 1) := by decide +kernel
theorem dL_text_338 : decode cL_text 338 = .ok (.ifCond .le 19, 3) := by decide +kernel
theorem dL_text_341 : decode cL_text 341 = .ok (.aload_n 0, 1) := by decide +kernel
theorem dL_text_342 : decode cL_text 342 = .ok (.bipush 48, 2) := by decide +kernel
theorem dL_text_344 : decode cL_text 344 = .ok (.aload 4, 2) := by decide +kernel
theorem dL_text_346 : decode cL_text 346 = .ok (.iload 8, 2) := by decide +kernel
theorem dL_text_348 : decode cL_text 348 = .ok (.iconst 2, 1) := by decide +kernel
theorem dL_text_349 : decode cL_text 349 = .ok (.iadd, 1) := by decide +kernel
theorem dL_text_350 : decode cL_text 350 = .ok (.iaload, 1) := by decide +kernel
theorem dL_text_351 : decode cL_text 351 = .ok (.iadd, 1) := by decide +kernel
theorem dL_text_352 : decode cL_text 352 = .ok (.i2l, 1) := by decide +kernel
theorem dL_text_353 : decode cL_text 353 = .ok (.invokevirtual 103, 3) := by decide +kernel
theorem dL_text_356 : decode cL_text 356 = .ok (.pop, 1) := by decide +kernel
theorem dL_text_357 : decode cL_text 357 = .ok (.aload 4, 2) := by decide +kernel
theorem dL_text_359 : decode cL_text 359 = .ok (.iload 8, 2) := by decide +kernel
theorem dL_text_361 : decode cL_text 361 = .ok (.iconst 4, 1) := by decide +kernel
theorem dL_text_362 : decode cL_text 362 = .ok (.iadd, 1) := by decide +kernel
theorem dL_text_363 : decode cL_text 363 = .ok (.iaload, 1) := by decide +kernel
theorem dL_text_364 : decode cL_text 364 = .ok (.iconst 1, 1) := by decide +kernel
theorem dL_text_365 : decode cL_text 365 = .ok (.if_icmp .le 19, 3) := by decide +kernel
theorem dL_text_368 : decode cL_text 368 = .ok (.aload_n 0, 1) := by decide +kernel
theorem dL_text_369 : decode cL_text 369 = .ok (.bipush 48, 2) := by decide +kernel
theorem dL_text_371 : decode cL_text 371 = .ok (.aload 4, 2) := by decide +kernel
theorem dL_text_373 : decode cL_text 373 = .ok (.iload 8, 2) := by decide +kernel
theorem dL_text_375 : decode cL_text 375 = .ok (.iconst 3, 1) := by decide +kernel
theorem dL_text_376 : decode cL_text 376 = .ok (.iadd, 1) := by decide +kernel
theorem dL_text_377 : decode cL_text 377 = .ok (.iaload, 1) := by decide +kernel
theorem dL_text_378 : decode cL_text 378 = .ok (.iadd, 1) := by decide +kernel
theorem dL_text_379 : decode cL_text 379 = .ok (.i2l, 1) := by decide +kernel
theorem dL_text_380 : decode cL_text 380 = .ok (.invokevirtual 103, 3) := by decide +kernel
theorem dL_text_383 : decode cL_text 383 = .ok (.pop, 1) := by decide +kernel
theorem dL_text_384 : decode cL_text 384 = .ok (.aload 4, 2) := by decide +kernel
theorem dL_text_386 : decode cL_text 386 = .ok (.iload 8, 2) := by decide +kernel
theorem dL_text_388 : decode cL_text 388 = .ok (.iconst 4, 1) := by decide +kernel
theorem dL_text_389 : decode cL_text 389 = .ok (.iadd, 1) := by decide +kernel
theorem dL_text_390 : decode cL_text 390 = .ok (.iaload, 1) := by decide +kernel
theorem dL_text_391 : decode cL_text 391 = .ok (.iconst 2, 1) := by decide +kernel
theorem dL_text_392 : decode cL_text 392 = .ok (.if_icmp .le 116, 3) := by decide +kernel
theorem dL_text_395 : decode cL_text 395 = .ok (.aload_n 0, 1) := by decide +kernel
theorem dL_text_396 : decode cL_text 396 = .ok (.bipush 48, 2) := by decide +kernel
theorem dL_text_398 : decode cL_text 398 = .ok (.aload 4, 2) := by decide +kernel
theorem dL_text_400 : decode cL_text 400 = .ok (.iload 8, 2) := by decide +kernel
theorem dL_text_402 : decode cL_text 402 = .ok (.iconst 2, 1) := by decide +kernel
theorem dL_text_403 : decode cL_text 403 = .ok (.iadd, 1) := by decide +kernel
theorem dL_text_404 : decode cL_text 404 = .ok (.iaload, 1) := by decide +kernel
theorem dL_text_405 : decode cL_text 405 = .ok (.aload 4, 2) := by decide +kernel
theorem dL_text_407 : decode cL_text 407 = .ok (.iload 8, 2) := by decide +kernel
theorem dL_text_409 : decode cL_text 409 = .ok (.iconst 3, 1) := by decide +kernel
theorem dL_text_410 : decode cL_text 410 = .ok (.iadd, 1) := by decide +kernel
theorem dL_text_411 : decode cL_text 411 = .ok (.iaload, 1) := by decide +kernel
theorem dL_text_412 : decode cL_text 412 = .ok (.iadd, 1) := by decide +kernel
theorem dL_text_413 : decode cL_text 413 = .ok (.bipush 10, 2) := by decide +kernel
theorem dL_text_415 : decode cL_text 415 = .ok (.irem, 1) := by decide +kernel
theorem dL_text_416 : decode cL_text 416 = .ok (.iadd, 1) := by decide +kernel
theorem dL_text_417 : decode cL_text 417 = .ok (.i2l, 1) := by decide +kernel
theorem dL_text_418 : decode cL_text 418 = .ok (.invokevirtual 103, 3) := by decide +kernel
theorem dL_text_421 : decode cL_text 421 = .ok (.pop, 1) := by decide +kernel
theorem dL_text_422 : decode cL_text 422 = .ok (.goto 86, 3) := by decide +kernel
theorem dL_text_425 : decode cL_text 425 = .ok (.aload 4, 2) := by decide +kernel
theorem dL_text_427 : decode cL_text 427 = .ok (.iload 8, 2) := by decide +kernel
theorem dL_text_429 : decode cL_text 429 = .ok (.iaload, 1) := by decide +kernel
theorem dL_text_430 : decode cL_text 430 = .ok (.iconst 1, 1) := by decide +kernel
theorem dL_text_431 : decode cL_text 431 = .ok (.if_icmp .ne 37, 3) := by decide +kernel
theorem dL_text_434 : decode cL_text 434 = .ok (.aload_n 0, 1) := by decide +kernel
theorem dL_text_435 : decode cL_text 435 = .ok (.invokevirtual 111, 3) := by decide +kernel
theorem dL_text_438 : decode cL_text 438 = .ok (.aload_n 0, 1) := by decide +kernel
theorem dL_text_439 : decode cL_text 439 = .ok (.bipush 6, 2) := by decide +kernel
theorem dL_text_441 : decode cL_text 441 = .ok (.invokevirtual 60, 3) := by decide +kernel
theorem dL_text_444 : decode cL_text 444 = .ok (.if_icmp .eq 5, 3) := by decide +kernel
theorem dL_text_447 : decode cL_text 447 = .ok (.iconst 0, 1) := by decide +kernel
theorem dL_text_448 : decode cL_text 448 = .ok (.ireturn, 1) := by decide +kernel
theorem dL_text_449 : decode cL_text 449 = .ok (.aload_n 0, 1) := by decide +kernel
theorem dL_text_450 : decode cL_text 450 = .ok (.bipush 49, 2) := by decide +kernel
theorem dL_text_452 : decode cL_text 452 = .ok (.aload 4, 2) := by decide +kernel
theorem dL_text_454 : decode cL_text 454 = .ok (.iload 8, 2) := by decide +kernel
theorem dL_text_456 : decode cL_text 456 = .ok (.iconst 2, 1) := by decide +kernel
theorem dL_text_457 : decode cL_text 457 = .ok (.iadd, 1) := by decide +kernel
theorem dL_text_458 : decode cL_text 458 = .ok (.iaload, 1) := by decide +kernel
theorem dL_text_459 : decode cL_text 459 = .ok (.iadd, 1) := by decide +kernel
theorem dL_text_460 : decode cL_text 460 = .ok (.i2l, 1) := by decide +kernel
theorem dL_text_461 : decode cL_text 461 = .ok (.invokevirtual 103, 3) := by decide +kernel
theorem dL_text_464 : decode cL_text 464 = .ok (.pop, 1) := by decide +kernel
theorem dL_text_465 : decode cL_text 465 = .ok (.goto 43, 3) := by decide +kernel
theorem dL_text_468 : decode cL_text 468 = .ok (.aload 4, 2) := by decide +kernel
theorem dL_text_470 : decode cL_text 470 = .ok (.iload 8, 2) := by decide +kernel
theorem dL_text_472 : decode cL_text 472 = .ok (.iaload, 1) := by decide +kernel
theorem dL_text_473 : decode cL_text 473 = .ok (.iconst 3, 1) := by decide +kernel
theorem dL_text_474 : decode cL_text 474 = .ok (.if_icmp .ne 34, 3) := by decide +kernel
theorem dL_text_477 : decode cL_text 477 = .ok (.aload_n 0, 1) := by decide +kernel
theorem dL_text_478 : decode cL_text 478 = .ok (.invokevirtual 111, 3) := by decide +kernel
theorem dL_text_481 : decode cL_text 481 = .ok (.aload_n 0, 1) := by decide +kernel
theorem dL_text_482 : decode cL_text 482 = .ok (.bipush 6, 2) := by decide +kernel
theorem dL_text_484 : decode cL_text 484 = .ok (.invokevirtual 60, 3) := by decide +kernel
theorem dL_text_487 : decode cL_text 487 = .ok (.if_icmp .eq 5, 3) := by decide +kernel
theorem dL_text_490 : decode cL_text 490 = .ok (.iconst 0, 1) := by decide +kernel
theorem dL_text_491 : decode cL_text 491 = .ok (.ireturn, 1) := by decide +kernel
theorem dL_text_492 : decode cL_text 492 = .ok (.aload_n 0, 1) := by decide +kernel
theorem dL_text_493 : decode cL_text 493 = .ok (.bipush 65, 2) := by decide +kernel
theorem dL_text_495 : decode cL_text 495 = .ok (.aload 4, 2) := by decide +kernel
theorem dL_text_497 : decode cL_text 497 = .ok (.iload 8, 2) := by decide +kernel
theorem dL_text_499 : decode cL_text 499 = .ok (.iconst 3, 1) := by decide +kernel
theorem dL_text_500 : decode cL_text 500 = .ok (.iadd, 1) := by decide +kernel
theorem dL_text_501 : decode cL_text 501 = .ok (.iaload, 1) := by decide +kernel
theorem dL_text_502 : decode cL_text 502 = .ok (.iadd, 1) := by decide +kernel
theorem dL_text_503 : decode cL_text 503 = .ok (.i2l, 1) := by decide +kernel
theorem dL_text_504 : decode cL_text 504 = .ok (.invokevirtual 103, 3) := by decide +kernel
theorem dL_text_507 : decode cL_text 507 = .ok (.pop, 1) := by decide +kernel
theorem dL_text_508 : decode cL_text 508 = .ok (.aload_n 0, 1) := by decide +kernel
theorem dL_text_509 : decode cL_text 509 = .ok (.invokevirtual 111, 3) := by decide +kernel
theorem dL_text_512 : decode cL_text 512 = .ok (.bipush (-6), 2) := by decide +kernel
theorem dL_text_514 : decode cL_text 514 = .ok (.if_icmp .eq 5, 3) := by decide +kernel
theorem dL_text_517 : decode cL_text 517 = .ok (.iconst 0, 1) := by decide +kernel
theorem dL_text_518 : decode cL_text 518 = .ok (.ireturn, 1) := by decide +kernel
theorem dL_text_519 : decode cL_text 519 = .ok (.iinc 5 1, 3) := by decide +kernel
theorem dL_text_522 : decode cL_text 522 = .ok (.goto (-482), 3) := by decide +kernel
theorem dL_text_525 : decode cL_text 525 = .ok (.aload_n 0, 1) := by decide +kernel
theorem dL_text_526 : decode cL_text 526 = .ok (.bipush 7, 2) := by decide +kernel
theorem dL_text_528 : decode cL_text 528 = .ok (.invokevirtual 60, 3) := by decide +kernel
theorem dL_text_531 : decode cL_text 531 = .ok (.istore 5, 2) := by decide +kernel
theorem dL_text_533 : decode cL_text 533 = .ok (.aload_n 0, 1) := by decide +kernel
theorem dL_text_534 : decode cL_text 534 = .ok (.invokevirtual 114, 3) := by decide +kernel
theorem dL_text_537 : decode cL_text 537 = .ok (.istore 6, 2) := by decide +kernel
theorem dL_text_539 : decode cL_text 539 = .ok (.iload 6, 2) := by decide +kernel
theorem dL_text_541 : decode cL_text 541 = .ok (.ifCond .lt 43, 3) := by decide +kernel
theorem dL_text_544 : decode cL_text 544 = .ok (.iload 6, 2) := by decide +kernel
theorem dL_text_546 : decode cL_text 546 = .ok (.iload_n 3, 1) := by decide +kernel
theorem dL_text_547 : decode cL_text 547 = .ok (.if_icmp .gt 37, 3) := by decide +kernel
theorem dL_text_550 : decode cL_text 550 = .ok (.aload_n 0, 1) := by decide +kernel
theorem dL_text_551 : decode cL_text 551 = .ok (.bipush 6, 2) := by decide +kernel
theorem dL_text_553 : decode cL_text 553 = .ok (.invokevirtual 60, 3) := by decide +kernel
theorem dL_text_556 : decode cL_text 556 = .ok (.ifCond .ne 28, 3) := by decide +kernel
theorem dL_text_559 : decode cL_text 559 = .ok (.aload_n 0, 1) := by decide +kernel
theorem dL_text_560 : decode cL_text 560 = .ok (.bipush 7, 2) := by decide +kernel
theorem dL_text_562 : decode cL_text 562 = .ok (.invokevirtual 60, 3) := by decide +kernel
theorem dL_text_565 : decode cL_text 565 = .ok (.iload 5, 2) := by decide +kernel
theorem dL_text_567 : decode cL_text 567 = .ok (.bipush 6, 2) := by decide +kernel
theorem dL_text_569 : decode cL_text 569 = .ok (.if_icmp .ge 10, 3) := by decide +kernel
theorem dL_text_572 : decode cL_text 572 = .ok (.iload 5, 2) := by decide +kernel
theorem dL_text_574 : decode cL_text 574 = .ok (.iconst 1, 1) := by decide +kernel
theorem dL_text_575 : decode cL_text 575 = .ok (.iadd, 1) := by decide +kernel
theorem dL_text_576 : decode cL_text 576 = .ok (.goto 5, 3) := by decide +kernel
theorem dL_text_579 : decode cL_text 579 = .ok (.bipush 6, 2) := by decide +kernel
theorem dL_text_581 : decode cL_text 581 = .ok (.if_icmp .eq 5, 3) := by decide +kernel
theorem dL_text_584 : decode cL_text 584 = .ok (.iconst 0, 1) := by decide +kernel
theorem dL_text_585 : decode cL_text 585 = .ok (.ireturn, 1) := by decide +kernel
theorem dL_text_586 : decode cL_text 586 = .ok (.aload_n 0, 1) := by decide +kernel
theorem dL_text_587 : decode cL_text 587 = .ok (.invokestatic 133, 3) := by decide +kernel
theorem dL_text_590 : decode cL_text 590 = .ok (.istore 7, 2) := by decide +kernel
theorem dL_text_592 : decode cL_text 592 = .ok (.aload_n 0, 1) := by decide +kernel
theorem dL_text_593 : decode cL_text 593 = .ok (.invokevirtual 137, 3) := by decide +kernel
theorem dL_text_596 : decode cL_text 596 = .ok (.iload 5, 2) := by decide +kernel
theorem dL_text_598 : decode cL_text 598 = .ok (.bipush 6, 2) := by decide +kernel
theorem dL_text_600 : decode cL_text 600 = .ok (.if_icmp .ge 8, 3) := by decide +kernel
theorem dL_text_603 : decode cL_text 603 = .ok (.iload 5, 2) := by decide +kernel
theorem dL_text_605 : decode cL_text 605 = .ok (.goto 4, 3) := by decide +kernel
theorem dL_text_608 : decode cL_text 608 = .ok (.iconst 5, 1) := by decide +kernel
theorem dL_text_609 : decode cL_text 609 = .ok (.if_icmp .eq 5, 3) := by decide +kernel
theorem dL_text_612 : decode cL_text 612 = .ok (.iconst 0, 1) := by decide +kernel
theorem dL_text_613 : decode cL_text 613 = .ok (.ireturn, 1) := by decide +kernel
theorem dL_text_614 : decode cL_text 614 = .ok (.iconst 0, 1) := by decide +kernel
theorem dL_text_615 : decode cL_text 615 = .ok (.istore 8, 2) := by decide +kernel
theorem dL_text_617 : decode cL_text 617 = .ok (.iconst 0, 1) := by decide +kernel
theorem dL_text_618 : decode cL_text 618 = .ok (.istore 9, 2) := by decide +kernel
theorem dL_text_620 : decode cL_text 620 = .ok (.iload 9, 2) := by decide +kernel
theorem dL_text_622 : decode cL_text 622 = .ok (.iload_n 3, 1) := by decide +kernel
theorem dL_text_623 : decode cL_text 623 = .ok (.if_icmp .ge 40, 3) := by decide +kernel
theorem dL_text_626 : decode cL_text 626 = .ok (.iload 8, 2) := by decide +kernel
theorem dL_text_628 : decode cL_text 628 = .ok (.iload 9, 2) := by decide +kernel
theorem dL_text_630 : decode cL_text 630 = .ok (.if_icmp .ne 33, 3) := by decide +kernel
theorem dL_text_633 : decode cL_text 633 = .ok (.iload 8, 2) := by decide +kernel
theorem dL_text_635 : decode cL_text 635 = .ok (.aload_n 0, 1) := by decide +kernel
theorem dL_text_636 : decode cL_text 636 = .ok (.aload 4, 2) := by decide +kernel
theorem dL_text_638 : decode cL_text 638 = .ok (.bipush 8, 2) := by decide +kernel
theorem dL_text_640 : decode cL_text 640 = .ok (.iload 9, 2) := by decide +kernel
theorem dL_text_642 : decode cL_text 642 = .ok (.imul, 1) := by decide +kernel
theorem dL_text_643 : decode cL_text 643 = .ok (.invokestatic 140, 3) := by decide +kernel
theorem dL_text_646 : decode cL_text 646 = .ok (.ifCond .lt 7, 3) := by decide +kernel
theorem dL_text_649 : decode cL_text 649 = .ok (.iconst 1, 1) := by decide +kernel
theorem dL_text_650 : decode cL_text 650 = .ok (.goto 4, 3) := by decide +kernel
theorem dL_text_653 : decode cL_text 653 = .ok (.iconst 0, 1) := by decide +kernel
theorem dL_text_654 : decode cL_text 654 = .ok (.iadd, 1) := by decide +kernel
theorem dL_text_655 : decode cL_text 655 = .ok (.istore 8, 2) := by decide +kernel
theorem dL_text_657 : decode cL_text 657 = .ok (.iinc 9 1, 3) := by decide +kernel
theorem dL_text_660 : decode cL_text 660 = .ok (.goto (-40), 3) := by decide +kernel
theorem dL_text_663 : decode cL_text 663 = .ok (.iload 8, 2) := by decide +kernel
theorem dL_text_665 : decode cL_text 665 = .ok (.iload 6, 2) := by decide +kernel
theorem dL_text_667 : decode cL_text 667 = .ok (.if_icmp .ne 16, 3) := by decide +kernel
theorem dL_text_670 : decode cL_text 670 = .ok (.aload_n 0, 1) := by decide +kernel
theorem dL_text_671 : decode cL_text 671 = .ok (.invokestatic 133, 3) := by decide +kernel
theorem dL_text_674 : decode cL_text 674 = .ok (.iload 7, 2) := by decide +kernel
theorem dL_text_676 : decode cL_text 676 = .ok (.if_icmp .ne 7, 3) := by decide +kernel
theorem dL_text_679 : decode cL_text 679 = .ok (.iconst 1, 1) := by decide +kernel
theorem dL_text_680 : decode cL_text 680 = .ok (.goto 4, 3) := by decide +kernel
theorem dL_text_683 : decode cL_text 683 = .ok (.iconst 0, 1) := by decide +kernel
theorem dL_text_684 : decode cL_text 684 = .ok (.ireturn, 1) := by decide +kernel
theorem dL_one_0 : decode cL_one 0 = .ok (.aload_n 1, 1) := by decide +kernel
theorem dL_one_1 : decode cL_one 1 = .ok (.iload_n 2, 1) := by decide +kernel
theorem dL_one_2 : decode cL_one 2 = .ok (.iconst 4, 1) := by decide +kernel
theorem dL_one_3 : decode cL_one 3 = .ok (.iadd, 1) := by decide +kernel
theorem dL_one_4 : decode cL_one 4 = .ok (.iaload, 1) := by decide +kernel
theorem dL_one_5 : decode cL_one 5 = .ok (.istore_n 3, 1) := by decide +kernel
theorem dL_one_6 : decode cL_one 6 = .ok (.aload_n 1, 1) := by decide +kernel
theorem dL_one_7 : decode cL_one 7 = .ok (.iload_n 2, 1) := by decide +kernel
theorem dL_one_8 : decode cL_one 8 = .ok (.iaload, 1) := by decide +kernel
theorem dL_one_9 : decode cL_one 9 = .ok (.tableswitch 136 0 3 #[31, 94, 111, 121], 31) := by decide +kernel
theorem dL_one_40 : decode cL_one 40 = .ok (.aload_n 0, 1) := by decide +kernel
theorem dL_one_41 : decode cL_one 41 = .ok (.aload_n 1, 1) := by decide +kernel
theorem dL_one_42 : decode cL_one 42 = .ok (.iload_n 2, 1) := by decide +kernel
theorem dL_one_43 : decode cL_one 43 = .ok (.iconst 1, 1) := by decide +kernel
theorem dL_one_44 : decode cL_one 44 = .ok (.iadd, 1) := by decide +kernel
theorem dL_one_45 : decode cL_one 45 = .ok (.iaload, 1) := by decide +kernel
theorem dL_one_46 : decode cL_one 46 = .ok (.iload_n 3, 1) := by decide +kernel
theorem dL_one_47 : decode cL_one 47 = .ok (.ifCond .le 11, 3) := by decide +kernel
theorem dL_one_50 : decode cL_one 50 = .ok (.aload_n 1, 1) := by decide +kernel
theorem dL_one_51 : decode cL_one 51 = .ok (.iload_n 2, 1) := by decide +kernel
theorem dL_one_52 : decode cL_one 52 = .ok (.iconst 2, 1) := by decide +kernel
theorem dL_one_53 : decode cL_one 53 = .ok (.iadd, 1) := by decide +kernel
theorem dL_one_54 : decode cL_one 54 = .ok (.iaload, 1) := by decide +kernel
theorem dL_one_55 : decode cL_one 55 = .ok (.goto 5, 3) := by decide +kernel
theorem dL_one_58 : decode cL_one 58 = .ok (.bipush (-6), 2) := by decide +kernel
theorem dL_one_60 : decode cL_one 60 = .ok (.iload_n 3, 1) := by decide +kernel
theorem dL_one_61 : decode cL_one 61 = .ok (.iconst 1, 1) := by decide +kernel
theorem dL_one_62 : decode cL_one 62 = .ok (.if_icmp .le 11, 3) := by decide +kernel
theorem dL_one_65 : decode cL_one 65 = .ok (.aload_n 1, 1) := by decide +kernel
theorem dL_one_66 : decode cL_one 66 = .ok (.iload_n 2, 1) := by decide +kernel
theorem dL_one_67 : decode cL_one 67 = .ok (.iconst 3, 1) := by decide +kernel
theorem dL_one_68 : decode cL_one 68 = .ok (.iadd, 1) := by decide +kernel
theorem dL_one_69 : decode cL_one 69 = .ok (.iaload, 1) := by decide +kernel
theorem dL_one_70 : decode cL_one 70 = .ok (.goto 5, 3) := by decide +kernel
theorem dL_one_73 : decode cL_one 73 = .ok (.bipush (-6), 2) := by decide +kernel
theorem dL_one_75 : decode cL_one 75 = .ok (.iload_n 3, 1) := by decide +kernel
theorem dL_one_76 : decode cL_one 76 = .ok (.iconst 2, 1) := by decide +kernel
theorem dL_one_77 : decode cL_one 77 = .ok (.if_icmp .le 20, 3) := by decide +kernel
theorem dL_one_80 : decode cL_one 80 = .ok (.aload_n 1, 1) := by decide +kernel
theorem dL_one_81 : decode cL_one 81 = .ok (.iload_n 2, 1) := by decide +kernel
theorem dL_one_82 : decode cL_one 82 = .ok (.iconst 2, 1) := by decide +kernel
theorem dL_one_83 : decode cL_one 83 = .ok (.iadd, 1) := by decide +kernel
theorem dL_one_84 : decode cL_one 84 = .ok (.iaload, 1) := by decide +kernel
theorem dL_one_85 : decode cL_one 85 = .ok (.aload_n 1, 1) := by decide +kernel
theorem dL_one_86 : decode cL_one 86 = .ok (.iload_n 2, 1) := by decide +kernel
theorem dL_one_87 : decode cL_one 87 = .ok (.iconst 3, 1) := by decide +kernel
theorem dL_one_88 : decode cL_one 88 = .ok (.iadd, 1) := by decide +kernel
theorem dL_one_89 : decode cL_one 89 = .ok (.iaload, 1) := by decide +kernel
theorem dL_one_90 : decode cL_one 90 = .ok (.iadd, 1) := by decide +kernel
theorem dL_one_91 : decode cL_one 91 = .ok (.bipush 10, 2) := by decide +kernel
theorem dL_one_93 : decode cL_one 93 = .ok (.irem, 1) := by decide +kernel
theorem dL_one_94 : decode cL_one 94 = .ok (.goto 5, 3) := by decide +kernel
theorem dL_one_97 : decode cL_one 97 = .ok (.bipush (-6), 2) := by decide +kernel
theorem dL_one_99 : decode cL_one 99 = .ok (.invokevirtual 69, 3) := by decide +kernel
theorem dL_one_102 : decode cL_one 102 = .ok (.ireturn, 1) := by decide +kernel
theorem dL_one_103 : decode cL_one 103 = .ok (.aload_n 0, 1) := by decide +kernel
theorem dL_one_104 : decode cL_one 104 = .ok (.aload_n 1, 1) := by decide +kernel
theorem dL_one_105 : decode cL_one 105 = .ok (.iload_n 2, 1) := by decide +kernel
theorem dL_one_106 : decode cL_one 106 = .ok (.iconst 1, 1) := by decide +kernel
theorem dL_one_107 : decode cL_one 107 = .ok (.iadd, 1) := by decide +kernel
theorem dL_one_108 : decode cL_one 108 = .ok (.iaload, 1) := by decide +kernel
theorem dL_one_109 : decode cL_one 109 = .ok (.iconst 1, 1) := by decide +kernel
theorem dL_one_110 : decode cL_one 110 = .ok (.aload_n 1, 1) := by decide +kernel
theorem dL_one_111 : decode cL_one 111 = .ok (.iload_n 2, 1) := by decide +kernel
theorem dL_one_112 : decode cL_one 112 = .ok (.iconst 2, 1) := by decide +kernel
theorem dL_one_113 : decode cL_one 113 = .ok (.iadd, 1) := by decide +kernel
theorem dL_one_114 : decode cL_one 114 = .ok (.iaload, 1) := by decide +kernel
theorem dL_one_115 : decode cL_one 115 = .ok (.iadd, 1) := by decide +kernel
theorem dL_one_116 : decode cL_one 116 = .ok (.invokevirtual 77, 3) := by decide +kernel
theorem dL_one_119 : decode cL_one 119 = .ok (.ireturn, 1) := by decide +kernel
theorem dL_one_120 : decode cL_one 120 = .ok (.aload_n 0, 1) := by decide +kernel
theorem dL_one_121 : decode cL_one 121 = .ok (.aload_n 1, 1) := by decide +kernel
theorem dL_one_122 : decode cL_one 122 = .ok (.iload_n 2, 1) := by decide +kernel
theorem dL_one_123 : decode cL_one 123 = .ok (.iconst 1, 1) := by decide +kernel
theorem dL_one_124 : decode cL_one 124 = .ok (.iadd, 1) := by decide +kernel
theorem dL_one_125 : decode cL_one 125 = .ok (.iaload, 1) := by decide +kernel
theorem dL_one_126 : decode cL_one 126 = .ok (.invokevirtual 80, 3) := by decide +kernel
theorem dL_one_129 : decode cL_one 129 = .ok (.ireturn, 1) := by decide +kernel
theorem dL_one_130 : decode cL_one 130 = .ok (.aload_n 0, 1) := by decide +kernel
theorem dL_one_131 : decode cL_one 131 = .ok (.aload_n 1, 1) := by decide +kernel
theorem dL_one_132 : decode cL_one 132 = .ok (.iload_n 2, 1) := by decide +kernel
theorem dL_one_133 : decode cL_one 133 = .ok (.iconst 1, 1) := by decide +kernel
theorem dL_one_134 : decode cL_one 134 = .ok (.iadd, 1) := by decide +kernel
theorem dL_one_135 : decode cL_one 135 = .ok (.iaload, 1) := by decide +kernel
theorem dL_one_136 : decode cL_one 136 = .ok (.aload_n 1, 1) := by decide +kernel
theorem dL_one_137 : decode cL_one 137 = .ok (.iload_n 2, 1) := by decide +kernel
theorem dL_one_138 : decode cL_one 138 = .ok (.iconst 3, 1) := by decide +kernel
theorem dL_one_139 : decode cL_one 139 = .ok (.iadd, 1) := by decide +kernel
theorem dL_one_140 : decode cL_one 140 = .ok (.iaload, 1) := by decide +kernel
theorem dL_one_141 : decode cL_one 141 = .ok (.invokevirtual 83, 3) := by decide +kernel
theorem dL_one_144 : decode cL_one 144 = .ok (.ireturn, 1) := by decide +kernel
theorem dL_one_145 : decode cL_one 145 = .ok (.aload_n 0, 1) := by decide +kernel
theorem dL_one_146 : decode cL_one 146 = .ok (.aload_n 1, 1) := by decide +kernel
theorem dL_one_147 : decode cL_one 147 = .ok (.iload_n 2, 1) := by decide +kernel
theorem dL_one_148 : decode cL_one 148 = .ok (.iconst 2, 1) := by decide +kernel
theorem dL_one_149 : decode cL_one 149 = .ok (.iadd, 1) := by decide +kernel
theorem dL_one_150 : decode cL_one 150 = .ok (.iaload, 1) := by decide +kernel
theorem dL_one_151 : decode cL_one 151 = .ok (.invokevirtual 96, 3) := by decide +kernel
theorem dL_one_154 : decode cL_one 154 = .ok (.ireturn, 1) := by decide +kernel
theorem dL_sound_0 : decode cL_sound 0 = .ok (.aload_n 0, 1) := by decide +kernel
theorem dL_sound_1 : decode cL_sound 1 = .ok (.iconst 1, 1) := by decide +kernel
theorem dL_sound_2 : decode cL_sound 2 = .ok (.invokevirtual 60, 3) := by decide +kernel
theorem dL_sound_5 : decode cL_sound 5 = .ok (.istore_n 1, 1) := by decide +kernel
theorem dL_sound_6 : decode cL_sound 6 = .ok (.aload_n 0, 1) := by decide +kernel
theorem dL_sound_7 : decode cL_sound 7 = .ok (.iconst 2, 1) := by decide +kernel
theorem dL_sound_8 : decode cL_sound 8 = .ok (.invokevirtual 60, 3) := by decide +kernel
theorem dL_sound_11 : decode cL_sound 11 = .ok (.istore_n 2, 1) := by decide +kernel
theorem dL_sound_12 : decode cL_sound 12 = .ok (.iconst 0, 1) := by decide +kernel
theorem dL_sound_13 : decode cL_sound 13 = .ok (.istore_n 3, 1) := by decide +kernel
theorem dL_sound_14 : decode cL_sound 14 = .ok (.iconst 0, 1) := by decide +kernel
theorem dL_sound_15 : decode cL_sound 15 = .ok (.istore 4, 2) := by decide +kernel
theorem dL_sound_17 : decode cL_sound 17 = .ok (.iconst 0, 1) := by decide +kernel
theorem dL_sound_18 : decode cL_sound 18 = .ok (.istore 5, 2) := by decide +kernel
theorem dL_sound_20 : decode cL_sound 20 = .ok (.iconst 0, 1) := by decide +kernel
theorem dL_sound_21 : decode cL_sound 21 = .ok (.istore 6, 2) := by decide +kernel
theorem dL_sound_23 : decode cL_sound 23 = .ok (.iconst (-1), 1) := by decide +kernel
theorem dL_sound_24 : decode cL_sound 24 = .ok (.istore 7, 2) := by decide +kernel
theorem dL_sound_26 : decode cL_sound 26 = .ok (.iconst 0, 1) := by decide +kernel
theorem dL_sound_27 : decode cL_sound 27 = .ok (.istore 8, 2) := by decide +kernel
theorem dL_sound_29 : decode cL_sound 29 = .ok (.bipush 16, 2) := by decide +kernel
theorem dL_sound_31 : decode cL_sound 31 = .ok (.newarray .int, 2) := by decide +kernel
theorem dL_sound_33 : decode cL_sound 33 = .ok (.astore 9, 2) := by decide +kernel
theorem dL_sound_35 : decode cL_sound 35 = .ok (.iconst 0, 1) := by decide +kernel
theorem dL_sound_36 : decode cL_sound 36 = .ok (.istore 10, 2) := by decide +kernel
theorem dL_sound_38 : decode cL_sound 38 = .ok (.iload 10, 2) := by decide +kernel
theorem dL_sound_40 : decode cL_sound 40 = .ok (.iload_n 1, 1) := by decide +kernel
theorem dL_sound_41 : decode cL_sound 41 = .ok (.if_icmp .ge 460, 3) := by decide +kernel
theorem dL_sound_44 : decode cL_sound 44 = .ok (.aload_n 0, 1) := by decide +kernel
theorem dL_sound_45 : decode cL_sound 45 = .ok (.iload 10, 2) := by decide +kernel
theorem dL_sound_47 : decode cL_sound 47 = .ok (.bipush 12, 2) := by decide +kernel
theorem dL_sound_49 : decode cL_sound 49 = .ok (.invokevirtual 66, 3) := by decide +kernel
theorem dL_sound_52 : decode cL_sound 52 = .ok (.istore 11, 2) := by decide +kernel
theorem dL_sound_54 : decode cL_sound 54 = .ok (.aload_n 0, 1) := by decide +kernel
theorem dL_sound_55 : decode cL_sound 55 = .ok (.iload 10, 2) := by decide +kernel
theorem dL_sound_57 : decode cL_sound 57 = .ok (.bipush 13, 2) := by decide +kernel
theorem dL_sound_59 : decode cL_sound 59 = .ok (.invokevirtual 66, 3) := by decide +kernel
theorem dL_sound_62 : decode cL_sound 62 = .ok (.istore 12, 2) := by decide +kernel
theorem dL_sound_64 : decode cL_sound 64 = .ok (.aload_n 0, 1) := by decide +kernel
theorem dL_sound_65 : decode cL_sound 65 = .ok (.iload 10, 2) := by decide +kernel
theorem dL_sound_67 : decode cL_sound 67 = .ok (.bipush 15, 2) := by decide +kernel
theorem dL_sound_69 : decode cL_sound 69 = .ok (.invokevirtual 66, 3) := by decide +kernel
theorem dL_sound_72 : decode cL_sound 72 = .ok (.istore 13, 2) := by decide +kernel
theorem dL_sound_74 : decode cL_sound 74 = .ok (.aload_n 0, 1) := by decide +kernel
theorem dL_sound_75 : decode cL_sound 75 = .ok (.iload 10, 2) := by decide +kernel
theorem dL_sound_77 : decode cL_sound 77 = .ok (.bipush 14, 2) := by decide +kernel
theorem dL_sound_79 : decode cL_sound 79 = .ok (.invokevirtual 66, 3) := by decide +kernel
theorem dL_sound_82 : decode cL_sound 82 = .ok (.istore 14, 2) := by decide +kernel
theorem dL_sound_84 : decode cL_sound 84 = .ok (.iload_n 3, 1) := by decide +kernel
theorem dL_sound_85 : decode cL_sound 85 = .ok (.aload_n 0, 1) := by decide +kernel
theorem dL_sound_86 : decode cL_sound 86 = .ok (.iload 10, 2) := by decide +kernel
theorem dL_sound_88 : decode cL_sound 88 = .ok (.bipush 11, 2) := by decide +kernel
theorem dL_sound_90 : decode cL_sound 90 = .ok (.invokevirtual 66, 3) := by decide +kernel
theorem dL_sound_93 : decode cL_sound 93 = .ok (.iadd, 1) := by decide +kernel
theorem dL_sound_94 : decode cL_sound 94 = .ok (.istore_n 3, 1) := by decide +kernel
theorem dL_sound_95 : decode cL_sound 95 = .ok (.iload 4, 2) := by decide +kernel
theorem dL_sound_97 : decode cL_sound 97 = .ok (.aload_n 0, 1) := by decide +kernel
theorem dL_sound_98 : decode cL_sound 98 = .ok (.iload 10, 2) := by decide +kernel
theorem dL_sound_100 : decode cL_sound 100 = .ok (.iconst 2, 1) := by decide +kernel
theorem dL_sound_101 : decode cL_sound 101 = .ok (.invokevirtual 73, 3) := by decide +kernel
theorem dL_sound_104 : decode cL_sound 104 = .ok (.l2i, 1) := by decide +kernel
theorem dL_sound_105 : decode cL_sound 105 = .ok (.iadd, 1) := by decide +kernel
theorem dL_sound_106 : decode cL_sound 106 = .ok (.istore 4, 2) := by decide +kernel
theorem dL_sound_108 : decode cL_sound 108 = .ok (.iload 8, 2) := by decide +kernel
theorem dL_sound_110 : decode cL_sound 110 = .ok (.aload_n 0, 1) := by decide +kernel
theorem dL_sound_111 : decode cL_sound 111 = .ok (.iload 10, 2) := by decide +kernel
theorem dL_sound_113 : decode cL_sound 113 = .ok (.bipush 8, 2) := by decide +kernel
theorem dL_sound_115 : decode cL_sound 115 = .ok (.invokevirtual 66, 3) := by decide +kernel
theorem dL_sound_118 : decode cL_sound 118 = .ok (.iadd, 1) := by decide +kernel
theorem dL_sound_119 : decode cL_sound 119 = .ok (.istore 8, 2) := by decide +kernel
theorem dL_sound_121 : decode cL_sound 121 = .ok (.iload 6, 2) := by decide +kernel
theorem dL_sound_123 : decode cL_sound 123 = .ok (.iload 13, 2) := by decide +kernel
theorem dL_sound_125 : decode cL_sound 125 = .ok (.ifCond .lt 7, 3) := by decide +kernel
theorem dL_sound_128 : decode cL_sound 128 = .ok (.iconst 1, 1) := by decide +kernel
theorem dL_sound_129 : decode cL_sound 129 = .ok (.goto 4, 3) := by decide +kernel
theorem dL_sound_132 : decode cL_sound 132 = .ok (.iconst 0, 1) := by decide +kernel
theorem dL_sound_133 : decode cL_sound 133 = .ok (.iadd, 1) := by decide +kernel
theorem dL_sound_134 : decode cL_sound 134 = .ok (.istore 6, 2) := by decide +kernel
theorem dL_sound_136 : decode cL_sound 136 = .ok (.iload 13, 2) := by decide +kernel
theorem dL_sound_138 : decode cL_sound 138 = .ok (.iload 7, 2) := by decide +kernel
theorem dL_sound_140 : decode cL_sound 140 = .ok (.if_icmp .le 8, 3) := by decide +kernel
theorem dL_sound_143 : decode cL_sound 143 = .ok (.iload 13, 2) := by decide +kernel
theorem dL_sound_145 : decode cL_sound 145 = .ok (.goto 5, 3) := by decide +kernel
theorem dL_sound_148 : decode cL_sound 148 = .ok (.iload 7, 2) := by decide +kernel
theorem dL_sound_150 : decode cL_sound 150 = .ok (.istore 7, 2) := by decide +kernel
theorem dL_sound_152 : decode cL_sound 152 = .ok (.iload 11, 2) := by decide +kernel
theorem dL_sound_154 : decode cL_sound 154 = .ok (.ifCond .lt 112, 3) := by decide +kernel
theorem dL_sound_157 : decode cL_sound 157 = .ok (.iinc 5 1, 3) := by decide +kernel
theorem dL_sound_160 : decode cL_sound 160 = .ok (.aload_n 0, 1) := by decide +kernel
theorem dL_sound_161 : decode cL_sound 161 = .ok (.iload 11, 2) := by decide +kernel
theorem dL_sound_163 : decode cL_sound 163 = .ok (.iconst 3, 1) := by decide +kernel
theorem dL_sound_164 : decode cL_sound 164 = .ok (.invokevirtual 90, 3) := by decide +kernel
theorem dL_sound_167 : decode cL_sound 167 = .ok (.iload 10, 2) := by decide +kernel
theorem dL_sound_169 : decode cL_sound 169 = .ok (.if_icmp .ne 40, 3) := by decide +kernel
theorem dL_sound_172 : decode cL_sound 172 = .ok (.iload 14, 2) := by decide +kernel
theorem dL_sound_174 : decode cL_sound 174 = .ok (.ifCond .ne 35, 3) := by decide +kernel
theorem dL_sound_177 : decode cL_sound 177 = .ok (.iload 12, 2) := by decide +kernel
theorem dL_sound_179 : decode cL_sound 179 = .ok (.ifCond .lt 30, 3) := by decide +kernel
theorem dL_sound_182 : decode cL_sound 182 = .ok (.iload 13, 2) := by decide +kernel
theorem dL_sound_184 : decode cL_sound 184 = .ok (.ifCond .lt 25, 3) := by decide +kernel
theorem dL_sound_187 : decode cL_sound 187 = .ok (.aload_n 0, 1) := by decide +kernel
theorem dL_sound_188 : decode cL_sound 188 = .ok (.iload 10, 2) := by decide +kernel
theorem dL_sound_190 : decode cL_sound 190 = .ok (.bipush 6, 2) := by decide +kernel
theorem dL_sound_192 : decode cL_sound 192 = .ok (.invokevirtual 66, 3) := by decide +kernel
theorem dL_sound_195 : decode cL_sound 195 = .ok (.ifCond .ne 14, 3) := by decide +kernel
theorem dL_sound_198 : decode cL_sound 198 = .ok (.aload_n 0, 1) := by decide +kernel
theorem dL_sound_199 : decode cL_sound 199 = .ok (.iload 10, 2) := by decide +kernel
theorem dL_sound_201 : decode cL_sound 201 = .ok (.iload 11, 2) := by decide +kernel
theorem dL_sound_203 : decode cL_sound 203 = .ok (.invokevirtual 144, 3) := by decide +kernel
theorem dL_sound_206 : decode cL_sound 206 = .ok (.ifCond .eq 5, 3) := by decide +kernel
theorem dL_sound_209 : decode cL_sound 209 = .ok (.iconst 0, 1) := by decide +kernel
theorem dL_sound_210 : decode cL_sound 210 = .ok (.ireturn, 1) := by decide +kernel
theorem dL_sound_211 : decode cL_sound 211 = .ok (.iload 12, 2) := by decide +kernel
theorem dL_sound_213 : decode cL_sound 213 = .ok (.istore 15, 2) := by decide +kernel
theorem dL_sound_215 : decode cL_sound 215 = .ok (.iload 15, 2) := by decide +kernel
theorem dL_sound_217 : decode cL_sound 217 = .ok (.iload 12, 2) := by decide +kernel
theorem dL_sound_219 : decode cL_sound 219 = .ok (.aload_n 0, 1) := by decide +kernel
theorem dL_sound_220 : decode cL_sound 220 = .ok (.iload 10, 2) := by decide +kernel
theorem dL_sound_222 : decode cL_sound 222 = .ok (.iconst 1, 1) := by decide +kernel
theorem dL_sound_223 : decode cL_sound 223 = .ok (.invokevirtual 66, 3) := by decide +kernel
theorem dL_sound_226 : decode cL_sound 226 = .ok (.iadd, 1) := by decide +kernel
theorem dL_sound_227 : decode cL_sound 227 = .ok (.if_icmp .ge 36, 3) := by decide +kernel
theorem dL_sound_230 : decode cL_sound 230 = .ok (.aload 9, 2) := by decide +kernel
theorem dL_sound_232 : decode cL_sound 232 = .ok (.iload 15, 2) := by decide +kernel
theorem dL_sound_234 : decode cL_sound 234 = .ok (.dup2, 1) := by decide +kernel
theorem dL_sound_235 : decode cL_sound 235 = .ok (.iaload, 1) := by decide +kernel
theorem dL_sound_236 : decode cL_sound 236 = .ok (.iconst 1, 1) := by decide +kernel
theorem dL_sound_237 : decode cL_sound 237 = .ok (.iadd, 1) := by decide +kernel
theorem dL_sound_238 : decode cL_sound 238 = .ok (.iastore, 1) := by decide +kernel
theorem dL_sound_239 : decode cL_sound 239 = .ok (.iload 15, 2) := by decide +kernel
theorem dL_sound_241 : decode cL_sound 241 = .ok (.bipush 13, 2) := by decide +kernel
theorem dL_sound_243 : decode cL_sound 243 = .ok (.if_icmp .gt 12, 3) := by decide +kernel
theorem dL_sound_246 : decode cL_sound 246 = .ok (.aload 9, 2) := by decide +kernel
theorem dL_sound_248 : decode cL_sound 248 = .ok (.iload 15, 2) := by decide +kernel
theorem dL_sound_250 : decode cL_sound 250 = .ok (.iaload, 1) := by decide +kernel
theorem dL_sound_251 : decode cL_sound 251 = .ok (.iconst 2, 1) := by decide +kernel
theorem dL_sound_252 : decode cL_sound 252 = .ok (.if_icmp .le 5, 3) := by decide +kernel
theorem dL_sound_255 : decode cL_sound 255 = .ok (.iconst 0, 1) := by decide +kernel
theorem dL_sound_256 : decode cL_sound 256 = .ok (.ireturn, 1) := by decide +kernel
theorem dL_sound_257 : decode cL_sound 257 = .ok (.iinc 15 1, 3) := by decide +kernel
theorem dL_sound_260 : decode cL_sound 260 = .ok (.goto (-45), 3) := by decide +kernel
theorem dL_sound_263 : decode cL_sound 263 = .ok (.goto 45, 3) := by decide +kernel
theorem dL_sound_266 : decode cL_sound 266 = .ok (.iload 12, 2) := by decide +kernel
theorem dL_sound_268 : decode cL_sound 268 = .ok (.ifCond .ge 38, 3) := by decide +kernel
theorem dL_sound_271 : decode cL_sound 271 = .ok (.iload 14, 2) := by decide +kernel
theorem dL_sound_273 : decode cL_sound 273 = .ok (.ifCond .lt 33, 3) := by decide +kernel
theorem dL_sound_276 : decode cL_sound 276 = .ok (.iload 14, 2) := by decide +kernel
theorem dL_sound_278 : decode cL_sound 278 = .ok (.iconst 5, 1) := by decide +kernel
theorem dL_sound_279 : decode cL_sound 279 = .ok (.if_icmp .gt 27, 3) := by decide +kernel
theorem dL_sound_282 : decode cL_sound 282 = .ok (.iload 14, 2) := by decide +kernel
theorem dL_sound_284 : decode cL_sound 284 = .ok (.iconst 3, 1) := by decide +kernel
theorem dL_sound_285 : decode cL_sound 285 = .ok (.if_icmp .le 7, 3) := by decide +kernel
theorem dL_sound_288 : decode cL_sound 288 = .ok (.iconst 1, 1) := by decide +kernel
theorem dL_sound_289 : decode cL_sound 289 = .ok (.goto 4, 3) := by decide +kernel
theorem dL_sound_292 : decode cL_sound 292 = .ok (.iconst 0, 1) := by decide +kernel
theorem dL_sound_293 : decode cL_sound 293 = .ok (.iload 13, 2) := by decide +kernel
theorem dL_sound_295 : decode cL_sound 295 = .ok (.ifCond .lt 7, 3) := by decide +kernel
theorem dL_sound_298 : decode cL_sound 298 = .ok (.iconst 1, 1) := by decide +kernel
theorem dL_sound_299 : decode cL_sound 299 = .ok (.goto 4, 3) := by decide +kernel
theorem dL_sound_302 : decode cL_sound 302 = .ok (.iconst 0, 1) := by decide +kernel
theorem dL_sound_303 : decode cL_sound 303 = .ok (.if_icmp .eq 5, 3) := by decide +kernel
theorem dL_sound_306 : decode cL_sound 306 = .ok (.iconst 0, 1) := by decide +kernel
theorem dL_sound_307 : decode cL_sound 307 = .ok (.ireturn, 1) := by decide +kernel
theorem dL_sound_308 : decode cL_sound 308 = .ok (.aload_n 0, 1) := by decide +kernel
theorem dL_sound_309 : decode cL_sound 309 = .ok (.iload 10, 2) := by decide +kernel
theorem dL_sound_311 : decode cL_sound 311 = .ok (.iconst 0, 1) := by decide +kernel
theorem dL_sound_312 : decode cL_sound 312 = .ok (.invokevirtual 73, 3) := by decide +kernel
theorem dL_sound_315 : decode cL_sound 315 = .ok (.aload_n 0, 1) := by decide +kernel
theorem dL_sound_316 : decode cL_sound 316 = .ok (.iload 10, 2) := by decide +kernel
theorem dL_sound_318 : decode cL_sound 318 = .ok (.iconst 1, 1) := by decide +kernel
theorem dL_sound_319 : decode cL_sound 319 = .ok (.invokevirtual 73, 3) := by decide +kernel
theorem dL_sound_322 : decode cL_sound 322 = .ok (.aload_n 0, 1) := by decide +kernel
theorem dL_sound_323 : decode cL_sound 323 = .ok (.iload 10, 2) := by decide +kernel
theorem dL_sound_325 : decode cL_sound 325 = .ok (.iconst 2, 1) := by decide +kernel
theorem dL_sound_326 : decode cL_sound 326 = .ok (.invokevirtual 73, 3) := by decide +kernel
theorem dL_sound_329 : decode cL_sound 329 = .ok (.lsub, 1) := by decide +kernel
theorem dL_sound_330 : decode cL_sound 330 = .ok (.aload_n 0, 1) := by decide +kernel
theorem dL_sound_331 : decode cL_sound 331 = .ok (.iload 10, 2) := by decide +kernel
theorem dL_sound_333 : decode cL_sound 333 = .ok (.iconst 3, 1) := by decide +kernel
theorem dL_sound_334 : decode cL_sound 334 = .ok (.invokevirtual 73, 3) := by decide +kernel
theorem dL_sound_337 : decode cL_sound 337 = .ok (.lsub, 1) := by decide +kernel
theorem dL_sound_338 : decode cL_sound 338 = .ok (.aload_n 0, 1) := by decide +kernel
theorem dL_sound_339 : decode cL_sound 339 = .ok (.iload 10, 2) := by decide +kernel
theorem dL_sound_341 : decode cL_sound 341 = .ok (.iconst 4, 1) := by decide +kernel
theorem dL_sound_342 : decode cL_sound 342 = .ok (.invokevirtual 73, 3) := by decide +kernel
theorem dL_sound_345 : decode cL_sound 345 = .ok (.lsub, 1) := by decide +kernel
theorem dL_sound_346 : decode cL_sound 346 = .ok (.lcmp, 1) := by decide +kernel
theorem dL_sound_347 : decode cL_sound 347 = .ok (.ifCond .ne 25, 3) := by decide +kernel
theorem dL_sound_350 : decode cL_sound 350 = .ok (.aload_n 0, 1) := by decide +kernel
theorem dL_sound_351 : decode cL_sound 351 = .ok (.iload 10, 2) := by decide +kernel
theorem dL_sound_353 : decode cL_sound 353 = .ok (.aload_n 0, 1) := by decide +kernel
theorem dL_sound_354 : decode cL_sound 354 = .ok (.iconst 0, 1) := by decide +kernel
theorem dL_sound_355 : decode cL_sound 355 = .ok (.invokevirtual 60, 3) := by decide +kernel
theorem dL_sound_358 : decode cL_sound 358 = .ok (.invokevirtual 147, 3) := by decide +kernel
theorem dL_sound_361 : decode cL_sound 361 = .ok (.aload_n 0, 1) := by decide +kernel
theorem dL_sound_362 : decode cL_sound 362 = .ok (.iload 10, 2) := by decide +kernel
theorem dL_sound_364 : decode cL_sound 364 = .ok (.bipush 9, 2) := by decide +kernel
theorem dL_sound_366 : decode cL_sound 366 = .ok (.invokevirtual 66, 3) := by decide +kernel
theorem dL_sound_369 : decode cL_sound 369 = .ok (.if_icmp .eq 5, 3) := by decide +kernel
theorem dL_sound_372 : decode cL_sound 372 = .ok (.iconst 0, 1) := by decide +kernel
theorem dL_sound_373 : decode cL_sound 373 = .ok (.ireturn, 1) := by decide +kernel
theorem dL_sound_374 : decode cL_sound 374 = .ok (.aload_n 0, 1) := by decide +kernel
theorem dL_sound_375 : decode cL_sound 375 = .ok (.iload 10, 2) := by decide +kernel
theorem dL_sound_377 : decode cL_sound 377 = .ok (.bipush 9, 2) := by decide +kernel
theorem dL_sound_379 : decode cL_sound 379 = .ok (.invokevirtual 66, 3) := by decide +kernel
theorem dL_sound_382 : decode cL_sound 382 = .ok (.istore 15, 2) := by decide +kernel
theorem dL_sound_384 : decode cL_sound 384 = .ok (.iconst 1, 1) := by decide +kernel
theorem dL_sound_385 : decode cL_sound 385 = .ok (.istore 16, 2) := by decide +kernel
theorem dL_sound_387 : decode cL_sound 387 = .ok (.iload 16, 2) := by decide +kernel
theorem dL_sound_389 : decode cL_sound 389 = .ok (.bipush 13, 2) := by decide +kernel
theorem dL_sound_391 : decode cL_sound 391 = .ok (.if_icmp .ge 43, 3) := by decide +kernel
theorem dL_sound_394 : decode cL_sound 394 = .ok (.aload_n 0, 1) := by decide +kernel
theorem dL_sound_395 : decode cL_sound 395 = .ok (.iload 10, 2) := by decide +kernel
theorem dL_sound_397 : decode cL_sound 397 = .ok (.aload_n 0, 1) := by decide +kernel
theorem dL_sound_398 : decode cL_sound 398 = .ok (.iconst 0, 1) := by decide +kernel
theorem dL_sound_399 : decode cL_sound 399 = .ok (.invokevirtual 60, 3) := by decide +kernel
theorem dL_sound_402 : decode cL_sound 402 = .ok (.iload 16, 2) := by decide +kernel
theorem dL_sound_404 : decode cL_sound 404 = .ok (.iadd, 1) := by decide +kernel
theorem dL_sound_405 : decode cL_sound 405 = .ok (.invokevirtual 147, 3) := by decide +kernel
theorem dL_sound_408 : decode cL_sound 408 = .ok (.istore 17, 2) := by decide +kernel
theorem dL_sound_410 : decode cL_sound 410 = .ok (.iload 17, 2) := by decide +kernel
theorem dL_sound_412 : decode cL_sound 412 = .ok (.ifCond .lt 10, 3) := by decide +kernel
theorem dL_sound_415 : decode cL_sound 415 = .ok (.iload 17, 2) := by decide +kernel
theorem dL_sound_417 : decode cL_sound 417 = .ok (.iload 15, 2) := by decide +kernel
theorem dL_sound_419 : decode cL_sound 419 = .ok (.if_icmp .le 5, 3) := by decide +kernel
theorem dL_sound_422 : decode cL_sound 422 = .ok (.iconst 0, 1) := by decide +kernel
theorem dL_sound_423 : decode cL_sound 423 = .ok (.ireturn, 1) := by decide +kernel
theorem dL_sound_424 : decode cL_sound 424 = .ok (.iload 17, 2) := by decide +kernel
theorem dL_sound_426 : decode cL_sound 426 = .ok (.istore 15, 2) := by decide +kernel
theorem dL_sound_428 : decode cL_sound 428 = .ok (.iinc 16 3, 3) := by decide +kernel
theorem dL_sound_431 : decode cL_sound 431 = .ok (.goto (-44), 3) := by decide +kernel
theorem dL_sound_434 : decode cL_sound 434 = .ok (.aload_n 0, 1) := by decide +kernel
theorem dL_sound_435 : decode cL_sound 435 = .ok (.iload 10, 2) := by decide +kernel
theorem dL_sound_437 : decode cL_sound 437 = .ok (.aload_n 0, 1) := by decide +kernel
theorem dL_sound_438 : decode cL_sound 438 = .ok (.iconst 0, 1) := by decide +kernel
theorem dL_sound_439 : decode cL_sound 439 = .ok (.invokevirtual 60, 3) := by decide +kernel
theorem dL_sound_442 : decode cL_sound 442 = .ok (.aload_n 0, 1) := by decide +kernel
theorem dL_sound_443 : decode cL_sound 443 = .ok (.bipush 13, 2) := by decide +kernel
theorem dL_sound_445 : decode cL_sound 445 = .ok (.invokevirtual 60, 3) := by decide +kernel
theorem dL_sound_448 : decode cL_sound 448 = .ok (.iadd, 1) := by decide +kernel
theorem dL_sound_449 : decode cL_sound 449 = .ok (.invokevirtual 147, 3) := by decide +kernel
theorem dL_sound_452 : decode cL_sound 452 = .ok (.ifCond .ne 41, 3) := by decide +kernel
theorem dL_sound_455 : decode cL_sound 455 = .ok (.aload_n 0, 1) := by decide +kernel
theorem dL_sound_456 : decode cL_sound 456 = .ok (.iload 10, 2) := by decide +kernel
theorem dL_sound_458 : decode cL_sound 458 = .ok (.aload_n 0, 1) := by decide +kernel
theorem dL_sound_459 : decode cL_sound 459 = .ok (.iconst 0, 1) := by decide +kernel
theorem dL_sound_460 : decode cL_sound 460 = .ok (.invokevirtual 60, 3) := by decide +kernel
theorem dL_sound_463 : decode cL_sound 463 = .ok (.iconst 1, 1) := by decide +kernel
theorem dL_sound_464 : decode cL_sound 464 = .ok (.isub, 1) := by decide +kernel
theorem dL_sound_465 : decode cL_sound 465 = .ok (.invokevirtual 147, 3) := by decide +kernel
theorem dL_sound_468 : decode cL_sound 468 = .ok (.bipush (-2), 2) := by decide +kernel
theorem dL_sound_470 : decode cL_sound 470 = .ok (.if_icmp .ne 23, 3) := by decide +kernel
theorem dL_sound_473 : decode cL_sound 473 = .ok (.aload_n 0, 1) := by decide +kernel
theorem dL_sound_474 : decode cL_sound 474 = .ok (.iload 10, 2) := by decide +kernel
theorem dL_sound_476 : decode cL_sound 476 = .ok (.aload_n 0, 1) := by decide +kernel
theorem dL_sound_477 : decode cL_sound 477 = .ok (.iconst 0, 1) := by decide +kernel
theorem dL_sound_478 : decode cL_sound 478 = .ok (.invokevirtual 60, 3) := by decide +kernel
theorem dL_sound_481 : decode cL_sound 481 = .ok (.sipush 401, 3) := by decide +kernel
theorem dL_sound_484 : decode cL_sound 484 = .ok (.iadd, 1) := by decide +kernel
theorem dL_sound_485 : decode cL_sound 485 = .ok (.invokevirtual 147, 3) := by decide +kernel
theorem dL_sound_488 : decode cL_sound 488 = .ok (.bipush (-2), 2) := by decide +kernel
theorem dL_sound_490 : decode cL_sound 490 = .ok (.if_icmp .eq 5, 3) := by decide +kernel
theorem dL_sound_493 : decode cL_sound 493 = .ok (.iconst 0, 1) := by decide +kernel
theorem dL_sound_494 : decode cL_sound 494 = .ok (.ireturn, 1) := by decide +kernel
theorem dL_sound_495 : decode cL_sound 495 = .ok (.iinc 10 1, 3) := by decide +kernel
theorem dL_sound_498 : decode cL_sound 498 = .ok (.goto (-460), 3) := by decide +kernel
theorem dL_sound_501 : decode cL_sound 501 = .ok (.iconst 0, 1) := by decide +kernel
theorem dL_sound_502 : decode cL_sound 502 = .ok (.istore 10, 2) := by decide +kernel
theorem dL_sound_504 : decode cL_sound 504 = .ok (.iconst 0, 1) := by decide +kernel
theorem dL_sound_505 : decode cL_sound 505 = .ok (.istore 11, 2) := by decide +kernel
theorem dL_sound_507 : decode cL_sound 507 = .ok (.iconst 0, 1) := by decide +kernel
theorem dL_sound_508 : decode cL_sound 508 = .ok (.istore 12, 2) := by decide +kernel
theorem dL_sound_510 : decode cL_sound 510 = .ok (.iload 12, 2) := by decide +kernel
theorem dL_sound_512 : decode cL_sound 512 = .ok (.iload_n 2, 1) := by decide +kernel
theorem dL_sound_513 : decode cL_sound 513 = .ok (.if_icmp .ge 198, 3) := by decide +kernel
theorem dL_sound_516 : decode cL_sound 516 = .ok (.aload_n 0, 1) := by decide +kernel
theorem dL_sound_517 : decode cL_sound 517 = .ok (.iload 12, 2) := by decide +kernel
theorem dL_sound_519 : decode cL_sound 519 = .ok (.iconst 3, 1) := by decide +kernel
theorem dL_sound_520 : decode cL_sound 520 = .ok (.invokevirtual 90, 3) := by decide +kernel
theorem dL_sound_523 : decode cL_sound 523 = .ok (.istore 13, 2) := by decide +kernel
theorem dL_sound_525 : decode cL_sound 525 = .ok (.iload 10, 2) := by decide +kernel
theorem dL_sound_527 : decode cL_sound 527 = .ok (.aload_n 0, 1) := by decide +kernel
theorem dL_sound_528 : decode cL_sound 528 = .ok (.iload 12, 2) := by decide +kernel
theorem dL_sound_530 : decode cL_sound 530 = .ok (.iconst 1, 1) := by decide +kernel
theorem dL_sound_531 : decode cL_sound 531 = .ok (.invokevirtual 90, 3) := by decide +kernel
theorem dL_sound_534 : decode cL_sound 534 = .ok (.iadd, 1) := by decide +kernel
theorem dL_sound_535 : decode cL_sound 535 = .ok (.istore 10, 2) := by decide +kernel
theorem dL_sound_537 : decode cL_sound 537 = .ok (.iload 11, 2) := by decide +kernel
theorem dL_sound_539 : decode cL_sound 539 = .ok (.aload_n 0, 1) := by decide +kernel
theorem dL_sound_540 : decode cL_sound 540 = .ok (.iload 12, 2) := by decide +kernel
theorem dL_sound_542 : decode cL_sound 542 = .ok (.iconst 2, 1) := by decide +kernel
theorem dL_sound_543 : decode cL_sound 543 = .ok (.invokevirtual 90, 3) := by decide +kernel
theorem dL_sound_546 : decode cL_sound 546 = .ok (.iadd, 1) := by decide +kernel
theorem dL_sound_547 : decode cL_sound 547 = .ok (.istore 11, 2) := by decide +kernel
theorem dL_sound_549 : decode cL_sound 549 = .ok (.iload 13, 2) := by decide +kernel
theorem dL_sound_551 : decode cL_sound 551 = .ok (.ifCond .lt 18, 3) := by decide +kernel
theorem dL_sound_554 : decode cL_sound 554 = .ok (.aload_n 0, 1) := by decide +kernel
theorem dL_sound_555 : decode cL_sound 555 = .ok (.iload 13, 2) := by decide +kernel
theorem dL_sound_557 : decode cL_sound 557 = .ok (.bipush 12, 2) := by decide +kernel
theorem dL_sound_559 : decode cL_sound 559 = .ok (.invokevirtual 66, 3) := by decide +kernel
theorem dL_sound_562 : decode cL_sound 562 = .ok (.iload 12, 2) := by decide +kernel
theorem dL_sound_564 : decode cL_sound 564 = .ok (.if_icmp .eq 5, 3) := by decide +kernel
theorem dL_sound_567 : decode cL_sound 567 = .ok (.iconst 0, 1) := by decide +kernel
theorem dL_sound_568 : decode cL_sound 568 = .ok (.ireturn, 1) := by decide +kernel
theorem dL_sound_569 : decode cL_sound 569 = .ok (.iconst 0, 1) := by decide +kernel
theorem dL_sound_570 : decode cL_sound 570 = .ok (.istore 14, 2) := by decide +kernel
theorem dL_sound_572 : decode cL_sound 572 = .ok (.iload 14, 2) := by decide +kernel
theorem dL_sound_574 : decode cL_sound 574 = .ok (.iload_n 1, 1) := by decide +kernel
theorem dL_sound_575 : decode cL_sound 575 = .ok (.if_icmp .ge 130, 3) := by decide +kernel
theorem dL_sound_578 : decode cL_sound 578 = .ok (.iload 13, 2) := by decide +kernel
theorem dL_sound_580 : decode cL_sound 580 = .ok (.ifCond .lt 14, 3) := by decide +kernel
theorem dL_sound_583 : decode cL_sound 583 = .ok (.iload 13, 2) := by decide +kernel
theorem dL_sound_585 : decode cL_sound 585 = .ok (.iload 14, 2) := by decide +kernel
theorem dL_sound_587 : decode cL_sound 587 = .ok (.if_icmp .eq 7, 3) := by decide +kernel
theorem dL_sound_590 : decode cL_sound 590 = .ok (.iconst 1, 1) := by decide +kernel
theorem dL_sound_591 : decode cL_sound 591 = .ok (.goto 4, 3) := by decide +kernel
theorem dL_sound_594 : decode cL_sound 594 = .ok (.iconst 0, 1) := by decide +kernel
theorem dL_sound_595 : decode cL_sound 595 = .ok (.istore 15, 2) := by decide +kernel
theorem dL_sound_597 : decode cL_sound 597 = .ok (.iload 12, 2) := by decide +kernel
theorem dL_sound_599 : decode cL_sound 599 = .ok (.iconst 1, 1) := by decide +kernel
theorem dL_sound_600 : decode cL_sound 600 = .ok (.isub, 1) := by decide +kernel
theorem dL_sound_601 : decode cL_sound 601 = .ok (.istore 16, 2) := by decide +kernel
theorem dL_sound_603 : decode cL_sound 603 = .ok (.iload 16, 2) := by decide +kernel
theorem dL_sound_605 : decode cL_sound 605 = .ok (.iload 12, 2) := by decide +kernel
theorem dL_sound_607 : decode cL_sound 607 = .ok (.iconst 1, 1) := by decide +kernel
theorem dL_sound_608 : decode cL_sound 608 = .ok (.iadd, 1) := by decide +kernel
theorem dL_sound_609 : decode cL_sound 609 = .ok (.if_icmp .gt 75, 3) := by decide +kernel
theorem dL_sound_612 : decode cL_sound 612 = .ok (.iload 15, 2) := by decide +kernel
theorem dL_sound_614 : decode cL_sound 614 = .ok (.ifCond .ne 70, 3) := by decide +kernel
theorem dL_sound_617 : decode cL_sound 617 = .ok (.iload 16, 2) := by decide +kernel
theorem dL_sound_619 : decode cL_sound 619 = .ok (.ifCond .lt 9, 3) := by decide +kernel
theorem dL_sound_622 : decode cL_sound 622 = .ok (.iload 16, 2) := by decide +kernel
theorem dL_sound_624 : decode cL_sound 624 = .ok (.iload_n 2, 1) := by decide +kernel
theorem dL_sound_625 : decode cL_sound 625 = .ok (.if_icmp .lt 8, 3) := by decide +kernel
theorem dL_sound_628 : decode cL_sound 628 = .ok (.bipush (-6), 2) := by decide +kernel
theorem dL_sound_630 : decode cL_sound 630 = .ok (.goto 10, 3) := by decide +kernel
theorem dL_sound_633 : decode cL_sound 633 = .ok (.aload_n 0, 1) := by decide +kernel
theorem dL_sound_634 : decode cL_sound 634 = .ok (.iload 16, 2) := by decide +kernel
theorem dL_sound_636 : decode cL_sound 636 = .ok (.iconst 3, 1) := by decide +kernel
theorem dL_sound_637 : decode cL_sound 637 = .ok (.invokevirtual 90, 3) := by decide +kernel
theorem dL_sound_640 : decode cL_sound 640 = .ok (.istore 17, 2) := by decide +kernel
theorem dL_sound_642 : decode cL_sound 642 = .ok (.iload 17, 2) := by decide +kernel
theorem dL_sound_644 : decode cL_sound 644 = .ok (.ifCond .lt 31, 3) := by decide +kernel
theorem dL_sound_647 : decode cL_sound 647 = .ok (.iload 17, 2) := by decide +kernel
theorem dL_sound_649 : decode cL_sound 649 = .ok (.iload 14, 2) := by decide +kernel
theorem dL_sound_651 : decode cL_sound 651 = .ok (.if_icmp .eq 24, 3) := by decide +kernel
theorem dL_sound_654 : decode cL_sound 654 = .ok (.aload_n 0, 1) := by decide +kernel
theorem dL_sound_655 : decode cL_sound 655 = .ok (.iload 17, 2) := by decide +kernel
theorem dL_sound_657 : decode cL_sound 657 = .ok (.iconst 0, 1) := by decide +kernel
theorem dL_sound_658 : decode cL_sound 658 = .ok (.invokevirtual 66, 3) := by decide +kernel
theorem dL_sound_661 : decode cL_sound 661 = .ok (.aload_n 0, 1) := by decide +kernel
theorem dL_sound_662 : decode cL_sound 662 = .ok (.iload 14, 2) := by decide +kernel
theorem dL_sound_664 : decode cL_sound 664 = .ok (.iconst 0, 1) := by decide +kernel
theorem dL_sound_665 : decode cL_sound 665 = .ok (.invokevirtual 66, 3) := by decide +kernel
theorem dL_sound_668 : decode cL_sound 668 = .ok (.if_icmp .ne 7, 3) := by decide +kernel
theorem dL_sound_671 : decode cL_sound 671 = .ok (.iconst 2, 1) := by decide +kernel
theorem dL_sound_672 : decode cL_sound 672 = .ok (.goto 4, 3) := by decide +kernel
theorem dL_sound_675 : decode cL_sound 675 = .ok (.iconst 0, 1) := by decide +kernel
theorem dL_sound_676 : decode cL_sound 676 = .ok (.istore 15, 2) := by decide +kernel
theorem dL_sound_678 : decode cL_sound 678 = .ok (.iinc 16 2, 3) := by decide +kernel
theorem dL_sound_681 : decode cL_sound 681 = .ok (.goto (-78), 3) := by decide +kernel
theorem dL_sound_684 : decode cL_sound 684 = .ok (.aload_n 0, 1) := by decide +kernel
theorem dL_sound_685 : decode cL_sound 685 = .ok (.iload 14, 2) := by decide +kernel
theorem dL_sound_687 : decode cL_sound 687 = .ok (.iload 12, 2) := by decide +kernel
theorem dL_sound_689 : decode cL_sound 689 = .ok (.invokevirtual 144, 3) := by decide +kernel
theorem dL_sound_692 : decode cL_sound 692 = .ok (.iload 15, 2) := by decide +kernel
theorem dL_sound_694 : decode cL_sound 694 = .ok (.if_icmp .eq 5, 3) := by decide +kernel
theorem dL_sound_697 : decode cL_sound 697 = .ok (.iconst 0, 1) := by decide +kernel
theorem dL_sound_698 : decode cL_sound 698 = .ok (.ireturn, 1) := by decide +kernel
theorem dL_sound_699 : decode cL_sound 699 = .ok (.iinc 14 1, 3) := by decide +kernel
theorem dL_sound_702 : decode cL_sound 702 = .ok (.goto (-130), 3) := by decide +kernel
theorem dL_sound_705 : decode cL_sound 705 = .ok (.iinc 12 1, 3) := by decide +kernel
theorem dL_sound_708 : decode cL_sound 708 = .ok (.goto (-198), 3) := by decide +kernel
theorem dL_sound_711 : decode cL_sound 711 = .ok (.iload_n 3, 1) := by decide +kernel
theorem dL_sound_712 : decode cL_sound 712 = .ok (.iload 10, 2) := by decide +kernel
theorem dL_sound_714 : decode cL_sound 714 = .ok (.if_icmp .ne 74, 3) := by decide +kernel
theorem dL_sound_717 : decode cL_sound 717 = .ok (.iload 4, 2) := by decide +kernel
theorem dL_sound_719 : decode cL_sound 719 = .ok (.iload 11, 2) := by decide +kernel
theorem dL_sound_721 : decode cL_sound 721 = .ok (.if_icmp .ne 67, 3) := by decide +kernel
theorem dL_sound_724 : decode cL_sound 724 = .ok (.aload_n 0, 1) := by decide +kernel
theorem dL_sound_725 : decode cL_sound 725 = .ok (.bipush 18, 2) := by decide +kernel
theorem dL_sound_727 : decode cL_sound 727 = .ok (.invokevirtual 60, 3) := by decide +kernel
theorem dL_sound_730 : decode cL_sound 730 = .ok (.iload 5, 2) := by decide +kernel
theorem dL_sound_732 : decode cL_sound 732 = .ok (.if_icmp .ne 56, 3) := by decide +kernel
theorem dL_sound_735 : decode cL_sound 735 = .ok (.iload 6, 2) := by decide +kernel
theorem dL_sound_737 : decode cL_sound 737 = .ok (.iload 7, 2) := by decide +kernel
theorem dL_sound_739 : decode cL_sound 739 = .ok (.iconst 1, 1) := by decide +kernel
theorem dL_sound_740 : decode cL_sound 740 = .ok (.iadd, 1) := by decide +kernel
theorem dL_sound_741 : decode cL_sound 741 = .ok (.if_icmp .ne 47, 3) := by decide +kernel
theorem dL_sound_744 : decode cL_sound 744 = .ok (.aload_n 0, 1) := by decide +kernel
theorem dL_sound_745 : decode cL_sound 745 = .ok (.iconst 4, 1) := by decide +kernel
theorem dL_sound_746 : decode cL_sound 746 = .ok (.invokevirtual 60, 3) := by decide +kernel
theorem dL_sound_749 : decode cL_sound 749 = .ok (.iload 8, 2) := by decide +kernel
theorem dL_sound_751 : decode cL_sound 751 = .ok (.if_icmp .ne 37, 3) := by decide +kernel
theorem dL_sound_754 : decode cL_sound 754 = .ok (.aload_n 0, 1) := by decide +kernel
theorem dL_sound_755 : decode cL_sound 755 = .ok (.iload_n 1, 1) := by decide +kernel
theorem dL_sound_756 : decode cL_sound 756 = .ok (.iconst 0, 1) := by decide +kernel
theorem dL_sound_757 : decode cL_sound 757 = .ok (.invokevirtual 66, 3) := by decide +kernel
theorem dL_sound_760 : decode cL_sound 760 = .ok (.iconst (-1), 1) := by decide +kernel
theorem dL_sound_761 : decode cL_sound 761 = .ok (.if_icmp .ne 27, 3) := by decide +kernel
theorem dL_sound_764 : decode cL_sound 764 = .ok (.aload_n 0, 1) := by decide +kernel
theorem dL_sound_765 : decode cL_sound 765 = .ok (.iload_n 2, 1) := by decide +kernel
theorem dL_sound_766 : decode cL_sound 766 = .ok (.iconst 0, 1) := by decide +kernel
theorem dL_sound_767 : decode cL_sound 767 = .ok (.invokevirtual 90, 3) := by decide +kernel
theorem dL_sound_770 : decode cL_sound 770 = .ok (.iconst (-1), 1) := by decide +kernel
theorem dL_sound_771 : decode cL_sound 771 = .ok (.if_icmp .ne 17, 3) := by decide +kernel
theorem dL_sound_774 : decode cL_sound 774 = .ok (.aload_n 0, 1) := by decide +kernel
theorem dL_sound_775 : decode cL_sound 775 = .ok (.iload_n 1, 1) := by decide +kernel
theorem dL_sound_776 : decode cL_sound 776 = .ok (.iconst 0, 1) := by decide +kernel
theorem dL_sound_777 : decode cL_sound 777 = .ok (.invokevirtual 144, 3) := by decide +kernel
theorem dL_sound_780 : decode cL_sound 780 = .ok (.iconst (-1), 1) := by decide +kernel
theorem dL_sound_781 : decode cL_sound 781 = .ok (.if_icmp .ne 7, 3) := by decide +kernel
theorem dL_sound_784 : decode cL_sound 784 = .ok (.iconst 1, 1) := by decide +kernel
theorem dL_sound_785 : decode cL_sound 785 = .ok (.goto 4, 3) := by decide +kernel
theorem dL_sound_788 : decode cL_sound 788 = .ok (.iconst 0, 1) := by decide +kernel
theorem dL_sound_789 : decode cL_sound 789 = .ok (.ireturn, 1) := by decide +kernel
theorem dL_comes_0 : decode cL_comes 0 = .ok (.aload_n 0, 1) := by decide +kernel
theorem dL_comes_1 : decode cL_comes 1 = .ok (.iconst 0, 1) := by decide +kernel
theorem dL_comes_2 : decode cL_comes 2 = .ok (.invokevirtual 60, 3) := by decide +kernel
theorem dL_comes_5 : decode cL_comes 5 = .ok (.istore_n 2, 1) := by decide +kernel
theorem dL_comes_6 : decode cL_comes 6 = .ok (.iload_n 1, 1) := by decide +kernel
theorem dL_comes_7 : decode cL_comes 7 = .ok (.aload_n 0, 1) := by decide +kernel
theorem dL_comes_8 : decode cL_comes 8 = .ok (.iconst 1, 1) := by decide +kernel
theorem dL_comes_9 : decode cL_comes 9 = .ok (.invokevirtual 60, 3) := by decide +kernel
theorem dL_comes_12 : decode cL_comes 12 = .ok (.invokestatic 23, 3) := by decide +kernel
theorem dL_comes_15 : decode cL_comes 15 = .ok (.istore_n 3, 1) := by decide +kernel
theorem dL_comes_16 : decode cL_comes 16 = .ok (.iload_n 1, 1) := by decide +kernel
theorem dL_comes_17 : decode cL_comes 17 = .ok (.iconst 3, 1) := by decide +kernel
theorem dL_comes_18 : decode cL_comes 18 = .ok (.ishr, 1) := by decide +kernel
theorem dL_comes_19 : decode cL_comes 19 = .ok (.aload_n 0, 1) := by decide +kernel
theorem dL_comes_20 : decode cL_comes 20 = .ok (.iconst 2, 1) := by decide +kernel
theorem dL_comes_21 : decode cL_comes 21 = .ok (.invokevirtual 60, 3) := by decide +kernel
theorem dL_comes_24 : decode cL_comes 24 = .ok (.invokestatic 23, 3) := by decide +kernel
theorem dL_comes_27 : decode cL_comes 27 = .ok (.istore 4, 2) := by decide +kernel
theorem dL_comes_29 : decode cL_comes 29 = .ok (.iconst 1, 1) := by decide +kernel
theorem dL_comes_30 : decode cL_comes 30 = .ok (.iload_n 1, 1) := by decide +kernel
theorem dL_comes_31 : decode cL_comes 31 = .ok (.bipush 6, 2) := by decide +kernel
theorem dL_comes_33 : decode cL_comes 33 = .ok (.ishr, 1) := by decide +kernel
theorem dL_comes_34 : decode cL_comes 34 = .ok (.bipush 20, 2) := by decide +kernel
theorem dL_comes_36 : decode cL_comes 36 = .ok (.invokestatic 23, 3) := by decide +kernel
theorem dL_comes_39 : decode cL_comes 39 = .ok (.iadd, 1) := by decide +kernel
theorem dL_comes_40 : decode cL_comes 40 = .ok (.istore 5, 2) := by decide +kernel
theorem dL_comes_42 : decode cL_comes 42 = .ok (.aload_n 0, 1) := by decide +kernel
theorem dL_comes_43 : decode cL_comes 43 = .ok (.iload_n 3, 1) := by decide +kernel
theorem dL_comes_44 : decode cL_comes 44 = .ok (.invokevirtual 150, 3) := by decide +kernel
theorem dL_comes_47 : decode cL_comes 47 = .ok (.istore 6, 2) := by decide +kernel
theorem dL_comes_49 : decode cL_comes 49 = .ok (.aload_n 0, 1) := by decide +kernel
theorem dL_comes_50 : decode cL_comes 50 = .ok (.iload_n 3, 1) := by decide +kernel
theorem dL_comes_51 : decode cL_comes 51 = .ok (.iload 4, 2) := by decide +kernel
theorem dL_comes_53 : decode cL_comes 53 = .ok (.invokevirtual 153, 3) := by decide +kernel
theorem dL_comes_56 : decode cL_comes 56 = .ok (.istore 7, 2) := by decide +kernel
theorem dL_comes_58 : decode cL_comes 58 = .ok (.aload_n 0, 1) := by decide +kernel
theorem dL_comes_59 : decode cL_comes 59 = .ok (.iload_n 3, 1) := by decide +kernel
theorem dL_comes_60 : decode cL_comes 60 = .ok (.invokevirtual 156, 3) := by decide +kernel
theorem dL_comes_63 : decode cL_comes 63 = .ok (.istore 8, 2) := by decide +kernel
theorem dL_comes_65 : decode cL_comes 65 = .ok (.aload_n 0, 1) := by decide +kernel
theorem dL_comes_66 : decode cL_comes 66 = .ok (.iload_n 3, 1) := by decide +kernel
theorem dL_comes_67 : decode cL_comes 67 = .ok (.iload 5, 2) := by decide +kernel
theorem dL_comes_69 : decode cL_comes 69 = .ok (.invokevirtual 159, 3) := by decide +kernel
theorem dL_comes_72 : decode cL_comes 72 = .ok (.istore 9, 2) := by decide +kernel
theorem dL_comes_74 : decode cL_comes 74 = .ok (.aload_n 0, 1) := by decide +kernel
theorem dL_comes_75 : decode cL_comes 75 = .ok (.iload_n 3, 1) := by decide +kernel
theorem dL_comes_76 : decode cL_comes 76 = .ok (.iload_n 1, 1) := by decide +kernel
theorem dL_comes_77 : decode cL_comes 77 = .ok (.iconst 2, 1) := by decide +kernel
theorem dL_comes_78 : decode cL_comes 78 = .ok (.invokestatic 23, 3) := by decide +kernel
theorem dL_comes_81 : decode cL_comes 81 = .ok (.ifCond .ne 8, 3) := by decide +kernel
theorem dL_comes_84 : decode cL_comes 84 = .ok (.bipush (-6), 2) := by decide +kernel
theorem dL_comes_86 : decode cL_comes 86 = .ok (.goto 5, 3) := by decide +kernel
theorem dL_comes_89 : decode cL_comes 89 = .ok (.iload 4, 2) := by decide +kernel
theorem dL_comes_91 : decode cL_comes 91 = .ok (.invokevirtual 162, 3) := by decide +kernel
theorem dL_comes_94 : decode cL_comes 94 = .ok (.istore 10, 2) := by decide +kernel
theorem dL_comes_96 : decode cL_comes 96 = .ok (.aload_n 0, 1) := by decide +kernel
theorem dL_comes_97 : decode cL_comes 97 = .ok (.iconst 3, 1) := by decide +kernel
theorem dL_comes_98 : decode cL_comes 98 = .ok (.invokevirtual 60, 3) := by decide +kernel
theorem dL_comes_101 : decode cL_comes 101 = .ok (.istore 11, 2) := by decide +kernel
theorem dL_comes_103 : decode cL_comes 103 = .ok (.aload_n 0, 1) := by decide +kernel
theorem dL_comes_104 : decode cL_comes 104 = .ok (.iload_n 3, 1) := by decide +kernel
theorem dL_comes_105 : decode cL_comes 105 = .ok (.bipush 11, 2) := by decide +kernel
theorem dL_comes_107 : decode cL_comes 107 = .ok (.invokevirtual 66, 3) := by decide +kernel
theorem dL_comes_110 : decode cL_comes 110 = .ok (.istore 12, 2) := by decide +kernel
theorem dL_comes_112 : decode cL_comes 112 = .ok (.aload_n 0, 1) := by decide +kernel
theorem dL_comes_113 : decode cL_comes 113 = .ok (.iconst 0, 1) := by decide +kernel
theorem dL_comes_114 : decode cL_comes 114 = .ok (.invokevirtual 60, 3) := by decide +kernel
theorem dL_comes_117 : decode cL_comes 117 = .ok (.iload_n 2, 1) := by decide +kernel
theorem dL_comes_118 : decode cL_comes 118 = .ok (.if_icmp .ne 47, 3) := by decide +kernel
theorem dL_comes_121 : decode cL_comes 121 = .ok (.aload_n 0, 1) := by decide +kernel
theorem dL_comes_122 : decode cL_comes 122 = .ok (.iload_n 3, 1) := by decide +kernel
theorem dL_comes_123 : decode cL_comes 123 = .ok (.bipush 61, 2) := by decide +kernel
theorem dL_comes_125 : decode cL_comes 125 = .ok (.invokevirtual 159, 3) := by decide +kernel
theorem dL_comes_128 : decode cL_comes 128 = .ok (.bipush (-2), 2) := by decide +kernel
theorem dL_comes_130 : decode cL_comes 130 = .ok (.if_icmp .ne 35, 3) := by decide +kernel
theorem dL_comes_133 : decode cL_comes 133 = .ok (.iload 6, 2) := by decide +kernel
theorem dL_comes_135 : decode cL_comes 135 = .ok (.ifCond .lt 7, 3) := by decide +kernel
theorem dL_comes_138 : decode cL_comes 138 = .ok (.iconst 1, 1) := by decide +kernel
theorem dL_comes_139 : decode cL_comes 139 = .ok (.goto 4, 3) := by decide +kernel
theorem dL_comes_142 : decode cL_comes 142 = .ok (.iconst 0, 1) := by decide +kernel
theorem dL_comes_143 : decode cL_comes 143 = .ok (.iload 8, 2) := by decide +kernel
theorem dL_comes_145 : decode cL_comes 145 = .ok (.ifCond .ne 7, 3) := by decide +kernel
theorem dL_comes_148 : decode cL_comes 148 = .ok (.iconst 1, 1) := by decide +kernel
theorem dL_comes_149 : decode cL_comes 149 = .ok (.goto 4, 3) := by decide +kernel
theorem dL_comes_152 : decode cL_comes 152 = .ok (.iconst 0, 1) := by decide +kernel
theorem dL_comes_153 : decode cL_comes 153 = .ok (.if_icmp .ne 12, 3) := by decide +kernel
theorem dL_comes_156 : decode cL_comes 156 = .ok (.aload_n 0, 1) := by decide +kernel
theorem dL_comes_157 : decode cL_comes 157 = .ok (.iconst 0, 1) := by decide +kernel
theorem dL_comes_158 : decode cL_comes 158 = .ok (.invokevirtual 165, 3) := by decide +kernel
theorem dL_comes_161 : decode cL_comes 161 = .ok (.iload_n 2, 1) := by decide +kernel
theorem dL_comes_162 : decode cL_comes 162 = .ok (.if_icmp .eq 5, 3) := by decide +kernel
theorem dL_comes_165 : decode cL_comes 165 = .ok (.iconst 0, 1) := by decide +kernel
theorem dL_comes_166 : decode cL_comes 166 = .ok (.ireturn, 1) := by decide +kernel
theorem dL_comes_167 : decode cL_comes 167 = .ok (.iconst (-1), 1) := by decide +kernel
theorem dL_comes_168 : decode cL_comes 168 = .ok (.istore 13, 2) := by decide +kernel
theorem dL_comes_170 : decode cL_comes 170 = .ok (.iconst 0, 1) := by decide +kernel
theorem dL_comes_171 : decode cL_comes 171 = .ok (.istore 14, 2) := by decide +kernel
theorem dL_comes_173 : decode cL_comes 173 = .ok (.iload 14, 2) := by decide +kernel
theorem dL_comes_175 : decode cL_comes 175 = .ok (.iload 5, 2) := by decide +kernel
theorem dL_comes_177 : decode cL_comes 177 = .ok (.if_icmp .ge 58, 3) := by decide +kernel
theorem dL_comes_180 : decode cL_comes 180 = .ok (.aload_n 0, 1) := by decide +kernel
theorem dL_comes_181 : decode cL_comes 181 = .ok (.iconst 1, 1) := by decide +kernel
theorem dL_comes_182 : decode cL_comes 182 = .ok (.invokevirtual 96, 3) := by decide +kernel
theorem dL_comes_185 : decode cL_comes 185 = .ok (.pop, 1) := by decide +kernel
theorem dL_comes_186 : decode cL_comes 186 = .ok (.iload 14, 2) := by decide +kernel
theorem dL_comes_188 : decode cL_comes 188 = .ok (.ifCond .ne 17, 3) := by decide +kernel
theorem dL_comes_191 : decode cL_comes 191 = .ok (.aload_n 0, 1) := by decide +kernel
theorem dL_comes_192 : decode cL_comes 192 = .ok (.iload_n 3, 1) := by decide +kernel
theorem dL_comes_193 : decode cL_comes 193 = .ok (.bipush 12, 2) := by decide +kernel
theorem dL_comes_195 : decode cL_comes 195 = .ok (.invokevirtual 66, 3) := by decide +kernel
theorem dL_comes_198 : decode cL_comes 198 = .ok (.iload 6, 2) := by decide +kernel
theorem dL_comes_200 : decode cL_comes 200 = .ok (.if_icmp .eq 5, 3) := by decide +kernel
theorem dL_comes_203 : decode cL_comes 203 = .ok (.iconst 0, 1) := by decide +kernel
theorem dL_comes_204 : decode cL_comes 204 = .ok (.ireturn, 1) := by decide +kernel
theorem dL_comes_205 : decode cL_comes 205 = .ok (.iload 13, 2) := by decide +kernel
theorem dL_comes_207 : decode cL_comes 207 = .ok (.ifCond .ge 18, 3) := by decide +kernel
theorem dL_comes_210 : decode cL_comes 210 = .ok (.aload_n 0, 1) := by decide +kernel
theorem dL_comes_211 : decode cL_comes 211 = .ok (.iload_n 3, 1) := by decide +kernel
theorem dL_comes_212 : decode cL_comes 212 = .ok (.bipush 12, 2) := by decide +kernel
theorem dL_comes_214 : decode cL_comes 214 = .ok (.invokevirtual 66, 3) := by decide +kernel
theorem dL_comes_217 : decode cL_comes 217 = .ok (.ifCond .lt 8, 3) := by decide +kernel
theorem dL_comes_220 : decode cL_comes 220 = .ok (.iload 14, 2) := by decide +kernel
theorem dL_comes_222 : decode cL_comes 222 = .ok (.goto 5, 3) := by decide +kernel
theorem dL_comes_225 : decode cL_comes 225 = .ok (.iload 13, 2) := by decide +kernel
theorem dL_comes_227 : decode cL_comes 227 = .ok (.istore 13, 2) := by decide +kernel
theorem dL_comes_229 : decode cL_comes 229 = .ok (.iinc 14 1, 3) := by decide +kernel
theorem dL_comes_232 : decode cL_comes 232 = .ok (.goto (-59), 3) := by decide +kernel
theorem dL_comes_235 : decode cL_comes 235 = .ok (.aload_n 0, 1) := by decide +kernel
theorem dL_comes_236 : decode cL_comes 236 = .ok (.iload_n 3, 1) := by decide +kernel
theorem dL_comes_237 : decode cL_comes 237 = .ok (.bipush 11, 2) := by decide +kernel
theorem dL_comes_239 : decode cL_comes 239 = .ok (.invokevirtual 66, 3) := by decide +kernel
theorem dL_comes_242 : decode cL_comes 242 = .ok (.iload 12, 2) := by decide +kernel
theorem dL_comes_244 : decode cL_comes 244 = .ok (.isub, 1) := by decide +kernel
theorem dL_comes_245 : decode cL_comes 245 = .ok (.iload 9, 2) := by decide +kernel
theorem dL_comes_247 : decode cL_comes 247 = .ok (.if_icmp .ne 39, 3) := by decide +kernel
theorem dL_comes_250 : decode cL_comes 250 = .ok (.iload 13, 2) := by decide +kernel
theorem dL_comes_252 : decode cL_comes 252 = .ok (.ifCond .lt 13, 3) := by decide +kernel
theorem dL_comes_255 : decode cL_comes 255 = .ok (.iload 8, 2) := by decide +kernel
theorem dL_comes_257 : decode cL_comes 257 = .ok (.iload 13, 2) := by decide +kernel
theorem dL_comes_259 : decode cL_comes 259 = .ok (.if_icmp .eq 18, 3) := by decide +kernel
theorem dL_comes_262 : decode cL_comes 262 = .ok (.goto 24, 3) := by decide +kernel
theorem dL_comes_265 : decode cL_comes 265 = .ok (.iload 8, 2) := by decide +kernel
theorem dL_comes_267 : decode cL_comes 267 = .ok (.ifCond .lt 10, 3) := by decide +kernel
theorem dL_comes_270 : decode cL_comes 270 = .ok (.iload 8, 2) := by decide +kernel
theorem dL_comes_272 : decode cL_comes 272 = .ok (.iload 5, 2) := by decide +kernel
theorem dL_comes_274 : decode cL_comes 274 = .ok (.if_icmp .lt 12, 3) := by decide +kernel
theorem dL_comes_277 : decode cL_comes 277 = .ok (.aload_n 0, 1) := by decide +kernel
theorem dL_comes_278 : decode cL_comes 278 = .ok (.iconst 0, 1) := by decide +kernel
theorem dL_comes_279 : decode cL_comes 279 = .ok (.invokevirtual 168, 3) := by decide +kernel
theorem dL_comes_282 : decode cL_comes 282 = .ok (.iload_n 2, 1) := by decide +kernel
theorem dL_comes_283 : decode cL_comes 283 = .ok (.if_icmp .eq 5, 3) := by decide +kernel
theorem dL_comes_286 : decode cL_comes 286 = .ok (.iconst 0, 1) := by decide +kernel
theorem dL_comes_287 : decode cL_comes 287 = .ok (.ireturn, 1) := by decide +kernel
theorem dL_comes_288 : decode cL_comes 288 = .ok (.aload_n 0, 1) := by decide +kernel
theorem dL_comes_289 : decode cL_comes 289 = .ok (.iload_n 3, 1) := by decide +kernel
theorem dL_comes_290 : decode cL_comes 290 = .ok (.iload 4, 2) := by decide +kernel
theorem dL_comes_292 : decode cL_comes 292 = .ok (.bipush (-6), 2) := by decide +kernel
theorem dL_comes_294 : decode cL_comes 294 = .ok (.bipush (-6), 2) := by decide +kernel
theorem dL_comes_296 : decode cL_comes 296 = .ok (.invokevirtual 69, 3) := by decide +kernel
theorem dL_comes_299 : decode cL_comes 299 = .ok (.iconst 1, 1) := by decide +kernel
theorem dL_comes_300 : decode cL_comes 300 = .ok (.if_icmp .ne 35, 3) := by decide +kernel
theorem dL_comes_303 : decode cL_comes 303 = .ok (.aload_n 0, 1) := by decide +kernel
theorem dL_comes_304 : decode cL_comes 304 = .ok (.iconst 1, 1) := by decide +kernel
theorem dL_comes_305 : decode cL_comes 305 = .ok (.invokevirtual 96, 3) := by decide +kernel
theorem dL_comes_308 : decode cL_comes 308 = .ok (.iload_n 2, 1) := by decide +kernel
theorem dL_comes_309 : decode cL_comes 309 = .ok (.iconst 1, 1) := by decide +kernel
theorem dL_comes_310 : decode cL_comes 310 = .ok (.iadd, 1) := by decide +kernel
theorem dL_comes_311 : decode cL_comes 311 = .ok (.if_icmp .ne 24, 3) := by decide +kernel
theorem dL_comes_314 : decode cL_comes 314 = .ok (.aload_n 0, 1) := by decide +kernel
theorem dL_comes_315 : decode cL_comes 315 = .ok (.iload_n 3, 1) := by decide +kernel
theorem dL_comes_316 : decode cL_comes 316 = .ok (.bipush 12, 2) := by decide +kernel
theorem dL_comes_318 : decode cL_comes 318 = .ok (.invokevirtual 66, 3) := by decide +kernel
theorem dL_comes_321 : decode cL_comes 321 = .ok (.iload 7, 2) := by decide +kernel
theorem dL_comes_323 : decode cL_comes 323 = .ok (.if_icmp .ne 12, 3) := by decide +kernel
theorem dL_comes_326 : decode cL_comes 326 = .ok (.aload_n 0, 1) := by decide +kernel
theorem dL_comes_327 : decode cL_comes 327 = .ok (.iconst 0, 1) := by decide +kernel
theorem dL_comes_328 : decode cL_comes 328 = .ok (.invokevirtual 168, 3) := by decide +kernel
theorem dL_comes_331 : decode cL_comes 331 = .ok (.iload_n 2, 1) := by decide +kernel
theorem dL_comes_332 : decode cL_comes 332 = .ok (.if_icmp .eq 5, 3) := by decide +kernel
theorem dL_comes_335 : decode cL_comes 335 = .ok (.iconst 0, 1) := by decide +kernel
theorem dL_comes_336 : decode cL_comes 336 = .ok (.ireturn, 1) := by decide +kernel
theorem dL_comes_337 : decode cL_comes 337 = .ok (.iload 10, 2) := by decide +kernel
theorem dL_comes_339 : decode cL_comes 339 = .ok (.ifCond .lt 47, 3) := by decide +kernel
theorem dL_comes_342 : decode cL_comes 342 = .ok (.iload 10, 2) := by decide +kernel
theorem dL_comes_344 : decode cL_comes 344 = .ok (.sipush 199, 3) := by decide +kernel
theorem dL_comes_347 : decode cL_comes 347 = .ok (.if_icmp .gt 37, 3) := by decide +kernel
theorem dL_comes_350 : decode cL_comes 350 = .ok (.aload_n 0, 1) := by decide +kernel
theorem dL_comes_351 : decode cL_comes 351 = .ok (.iload_n 3, 1) := by decide +kernel
theorem dL_comes_352 : decode cL_comes 352 = .ok (.iload_n 1, 1) := by decide +kernel
theorem dL_comes_353 : decode cL_comes 353 = .ok (.iconst 2, 1) := by decide +kernel
theorem dL_comes_354 : decode cL_comes 354 = .ok (.invokestatic 23, 3) := by decide +kernel
theorem dL_comes_357 : decode cL_comes 357 = .ok (.ifCond .ne 8, 3) := by decide +kernel
theorem dL_comes_360 : decode cL_comes 360 = .ok (.bipush (-6), 2) := by decide +kernel
theorem dL_comes_362 : decode cL_comes 362 = .ok (.goto 5, 3) := by decide +kernel
theorem dL_comes_365 : decode cL_comes 365 = .ok (.iload 4, 2) := by decide +kernel
theorem dL_comes_367 : decode cL_comes 367 = .ok (.iload 10, 2) := by decide +kernel
theorem dL_comes_369 : decode cL_comes 369 = .ok (.invokestatic 171, 3) := by decide +kernel
theorem dL_comes_372 : decode cL_comes 372 = .ok (.ifCond .eq 12, 3) := by decide +kernel
theorem dL_comes_375 : decode cL_comes 375 = .ok (.aload_n 0, 1) := by decide +kernel
theorem dL_comes_376 : decode cL_comes 376 = .ok (.iconst 0, 1) := by decide +kernel
theorem dL_comes_377 : decode cL_comes 377 = .ok (.invokevirtual 168, 3) := by decide +kernel
theorem dL_comes_380 : decode cL_comes 380 = .ok (.iload_n 2, 1) := by decide +kernel
theorem dL_comes_381 : decode cL_comes 381 = .ok (.if_icmp .eq 5, 3) := by decide +kernel
theorem dL_comes_384 : decode cL_comes 384 = .ok (.iconst 0, 1) := by decide +kernel
theorem dL_comes_385 : decode cL_comes 385 = .ok (.ireturn, 1) := by decide +kernel
theorem dL_comes_386 : decode cL_comes 386 = .ok (.iconst 0, 1) := by decide +kernel
theorem dL_comes_387 : decode cL_comes 387 = .ok (.istore 14, 2) := by decide +kernel
theorem dL_comes_389 : decode cL_comes 389 = .ok (.iload 14, 2) := by decide +kernel
theorem dL_comes_391 : decode cL_comes 391 = .ok (.iconst 5, 1) := by decide +kernel
theorem dL_comes_392 : decode cL_comes 392 = .ok (.if_icmp .ge 84, 3) := by decide +kernel
theorem dL_comes_395 : decode cL_comes 395 = .ok (.iload 10, 2) := by decide +kernel
theorem dL_comes_397 : decode cL_comes 397 = .ok (.ifCond .ge 16, 3) := by decide +kernel
theorem dL_comes_400 : decode cL_comes 400 = .ok (.iload_n 1, 1) := by decide +kernel
theorem dL_comes_401 : decode cL_comes 401 = .ok (.iload 14, 2) := by decide +kernel
theorem dL_comes_403 : decode cL_comes 403 = .ok (.ishr, 1) := by decide +kernel
theorem dL_comes_404 : decode cL_comes 404 = .ok (.sipush 200, 3) := by decide +kernel
theorem dL_comes_407 : decode cL_comes 407 = .ok (.invokestatic 23, 3) := by decide +kernel
theorem dL_comes_410 : decode cL_comes 410 = .ok (.goto 10, 3) := by decide +kernel
theorem dL_comes_413 : decode cL_comes 413 = .ok (.iload 10, 2) := by decide +kernel
theorem dL_comes_415 : decode cL_comes 415 = .ok (.iconst 1, 1) := by decide +kernel
theorem dL_comes_416 : decode cL_comes 416 = .ok (.isub, 1) := by decide +kernel
theorem dL_comes_417 : decode cL_comes 417 = .ok (.iload 14, 2) := by decide +kernel
theorem dL_comes_419 : decode cL_comes 419 = .ok (.isub, 1) := by decide +kernel
theorem dL_comes_420 : decode cL_comes 420 = .ok (.istore 15, 2) := by decide +kernel
theorem dL_comes_422 : decode cL_comes 422 = .ok (.iload 15, 2) := by decide +kernel
theorem dL_comes_424 : decode cL_comes 424 = .ok (.ifCond .lt 30, 3) := by decide +kernel
theorem dL_comes_427 : decode cL_comes 427 = .ok (.aload_n 0, 1) := by decide +kernel
theorem dL_comes_428 : decode cL_comes 428 = .ok (.iload_n 3, 1) := by decide +kernel
theorem dL_comes_429 : decode cL_comes 429 = .ok (.iload_n 1, 1) := by decide +kernel
theorem dL_comes_430 : decode cL_comes 430 = .ok (.iconst 2, 1) := by decide +kernel
theorem dL_comes_431 : decode cL_comes 431 = .ok (.invokestatic 23, 3) := by decide +kernel
theorem dL_comes_434 : decode cL_comes 434 = .ok (.ifCond .ne 8, 3) := by decide +kernel
theorem dL_comes_437 : decode cL_comes 437 = .ok (.bipush (-6), 2) := by decide +kernel
theorem dL_comes_439 : decode cL_comes 439 = .ok (.goto 5, 3) := by decide +kernel
theorem dL_comes_442 : decode cL_comes 442 = .ok (.iload 4, 2) := by decide +kernel
theorem dL_comes_444 : decode cL_comes 444 = .ok (.iload 15, 2) := by decide +kernel
theorem dL_comes_446 : decode cL_comes 446 = .ok (.invokestatic 171, 3) := by decide +kernel
theorem dL_comes_449 : decode cL_comes 449 = .ok (.ifCond .eq 5, 3) := by decide +kernel
theorem dL_comes_452 : decode cL_comes 452 = .ok (.iconst 0, 1) := by decide +kernel
theorem dL_comes_453 : decode cL_comes 453 = .ok (.ireturn, 1) := by decide +kernel
theorem dL_comes_454 : decode cL_comes 454 = .ok (.iload 15, 2) := by decide +kernel
theorem dL_comes_456 : decode cL_comes 456 = .ok (.ifCond .lt 14, 3) := by decide +kernel
theorem dL_comes_459 : decode cL_comes 459 = .ok (.aload_n 0, 1) := by decide +kernel
theorem dL_comes_460 : decode cL_comes 460 = .ok (.iconst 0, 1) := by decide +kernel
theorem dL_comes_461 : decode cL_comes 461 = .ok (.invokevirtual 168, 3) := by decide +kernel
theorem dL_comes_464 : decode cL_comes 464 = .ok (.iload_n 2, 1) := by decide +kernel
theorem dL_comes_465 : decode cL_comes 465 = .ok (.if_icmp .eq 5, 3) := by decide +kernel
theorem dL_comes_468 : decode cL_comes 468 = .ok (.iconst 0, 1) := by decide +kernel
theorem dL_comes_469 : decode cL_comes 469 = .ok (.ireturn, 1) := by decide +kernel
theorem dL_comes_470 : decode cL_comes 470 = .ok (.iinc 14 1, 3) := by decide +kernel
theorem dL_comes_473 : decode cL_comes 473 = .ok (.goto (-84), 3) := by decide +kernel
theorem dL_comes_476 : decode cL_comes 476 = .ok (.aload_n 0, 1) := by decide +kernel
theorem dL_comes_477 : decode cL_comes 477 = .ok (.iconst 3, 1) := by decide +kernel
theorem dL_comes_478 : decode cL_comes 478 = .ok (.invokevirtual 60, 3) := by decide +kernel
theorem dL_comes_481 : decode cL_comes 481 = .ok (.iload 11, 2) := by decide +kernel
theorem dL_comes_483 : decode cL_comes 483 = .ok (.if_icmp .ne 7, 3) := by decide +kernel
theorem dL_comes_486 : decode cL_comes 486 = .ok (.iconst 1, 1) := by decide +kernel
theorem dL_comes_487 : decode cL_comes 487 = .ok (.goto 4, 3) := by decide +kernel
theorem dL_comes_490 : decode cL_comes 490 = .ok (.iconst 0, 1) := by decide +kernel
theorem dL_comes_491 : decode cL_comes 491 = .ok (.ireturn, 1) := by decide +kernel
theorem dL_lucky_0 : decode cL_lucky 0 = .ok (.aload_n 0, 1) := by decide +kernel
theorem dL_lucky_1 : decode cL_lucky 1 = .ok (.iload_n 3, 1) := by decide +kernel
theorem dL_lucky_2 : decode cL_lucky 2 = .ok (.invokevirtual 27, 3) := by decide +kernel
theorem dL_lucky_5 : decode cL_lucky 5 = .ok (.pop, 1) := by decide +kernel
theorem dL_lucky_6 : decode cL_lucky 6 = .ok (.aload_n 0, 1) := by decide +kernel
theorem dL_lucky_7 : decode cL_lucky 7 = .ok (.iconst 1, 1) := by decide +kernel
theorem dL_lucky_8 : decode cL_lucky 8 = .ok (.invokevirtual 96, 3) := by decide +kernel
theorem dL_lucky_11 : decode cL_lucky 11 = .ok (.pop, 1) := by decide +kernel
theorem dL_lucky_12 : decode cL_lucky 12 = .ok (.aload_n 0, 1) := by decide +kernel
theorem dL_lucky_13 : decode cL_lucky 13 = .ok (.iload_n 1, 1) := by decide +kernel
theorem dL_lucky_14 : decode cL_lucky 14 = .ok (.bipush 12, 2) := by decide +kernel
theorem dL_lucky_16 : decode cL_lucky 16 = .ok (.invokevirtual 66, 3) := by decide +kernel
theorem dL_lucky_19 : decode cL_lucky 19 = .ok (.ifCond .lt 22, 3) := by decide +kernel
theorem dL_lucky_22 : decode cL_lucky 22 = .ok (.iload_n 2, 1) := by decide +kernel
theorem dL_lucky_23 : decode cL_lucky 23 = .ok (.ifCond .lt 14, 3) := by decide +kernel
theorem dL_lucky_26 : decode cL_lucky 26 = .ok (.aload_n 0, 1) := by decide +kernel
theorem dL_lucky_27 : decode cL_lucky 27 = .ok (.iload_n 1, 1) := by decide +kernel
theorem dL_lucky_28 : decode cL_lucky 28 = .ok (.bipush 12, 2) := by decide +kernel
theorem dL_lucky_30 : decode cL_lucky 30 = .ok (.invokevirtual 66, 3) := by decide +kernel
theorem dL_lucky_33 : decode cL_lucky 33 = .ok (.iload_n 2, 1) := by decide +kernel
theorem dL_lucky_34 : decode cL_lucky 34 = .ok (.if_icmp .ne 7, 3) := by decide +kernel
theorem dL_lucky_37 : decode cL_lucky 37 = .ok (.iconst 1, 1) := by decide +kernel
theorem dL_lucky_38 : decode cL_lucky 38 = .ok (.goto 4, 3) := by decide +kernel
theorem dL_lucky_41 : decode cL_lucky 41 = .ok (.iconst 0, 1) := by decide +kernel
theorem dL_lucky_42 : decode cL_lucky 42 = .ok (.ireturn, 1) := by decide +kernel
theorem dL_told_0 : decode cL_told 0 = .ok (.iconst 0, 1) := by decide +kernel
theorem dL_told_1 : decode cL_told 1 = .ok (.istore_n 1, 1) := by decide +kernel
theorem dL_told_2 : decode cL_told 2 = .ok (.iconst 0, 1) := by decide +kernel
theorem dL_told_3 : decode cL_told 3 = .ok (.istore_n 2, 1) := by decide +kernel
theorem dL_told_4 : decode cL_told 4 = .ok (.iload_n 2, 1) := by decide +kernel
theorem dL_told_5 : decode cL_told 5 = .ok (.bipush 6, 2) := by decide +kernel
theorem dL_told_7 : decode cL_told 7 = .ok (.if_icmp .ge 20, 3) := by decide +kernel
theorem dL_told_10 : decode cL_told 10 = .ok (.bipush 31, 2) := by decide +kernel
theorem dL_told_12 : decode cL_told 12 = .ok (.iload_n 1, 1) := by decide +kernel
theorem dL_told_13 : decode cL_told 13 = .ok (.imul, 1) := by decide +kernel
theorem dL_told_14 : decode cL_told 14 = .ok (.aload_n 0, 1) := by decide +kernel
theorem dL_told_15 : decode cL_told 15 = .ok (.iload_n 2, 1) := by decide +kernel
theorem dL_told_16 : decode cL_told 16 = .ok (.invokevirtual 60, 3) := by decide +kernel
theorem dL_told_19 : decode cL_told 19 = .ok (.iadd, 1) := by decide +kernel
theorem dL_told_20 : decode cL_told 20 = .ok (.istore_n 1, 1) := by decide +kernel
theorem dL_told_21 : decode cL_told 21 = .ok (.iinc 2 1, 3) := by decide +kernel
theorem dL_told_24 : decode cL_told 24 = .ok (.goto (-20), 3) := by decide +kernel
theorem dL_told_27 : decode cL_told 27 = .ok (.bipush 8, 2) := by decide +kernel
theorem dL_told_29 : decode cL_told 29 = .ok (.istore_n 2, 1) := by decide +kernel
theorem dL_told_30 : decode cL_told 30 = .ok (.iload_n 2, 1) := by decide +kernel
theorem dL_told_31 : decode cL_told 31 = .ok (.bipush 20, 2) := by decide +kernel
theorem dL_told_33 : decode cL_told 33 = .ok (.if_icmp .ge 20, 3) := by decide +kernel
theorem dL_told_36 : decode cL_told 36 = .ok (.bipush 31, 2) := by decide +kernel
theorem dL_told_38 : decode cL_told 38 = .ok (.iload_n 1, 1) := by decide +kernel
theorem dL_told_39 : decode cL_told 39 = .ok (.imul, 1) := by decide +kernel
theorem dL_told_40 : decode cL_told 40 = .ok (.aload_n 0, 1) := by decide +kernel
theorem dL_told_41 : decode cL_told 41 = .ok (.iload_n 2, 1) := by decide +kernel
theorem dL_told_42 : decode cL_told 42 = .ok (.invokevirtual 60, 3) := by decide +kernel
theorem dL_told_45 : decode cL_told 45 = .ok (.iadd, 1) := by decide +kernel
theorem dL_told_46 : decode cL_told 46 = .ok (.istore_n 1, 1) := by decide +kernel
theorem dL_told_47 : decode cL_told 47 = .ok (.iinc 2 1, 3) := by decide +kernel
theorem dL_told_50 : decode cL_told 50 = .ok (.goto (-20), 3) := by decide +kernel
theorem dL_told_53 : decode cL_told 53 = .ok (.iconst 0, 1) := by decide +kernel
theorem dL_told_54 : decode cL_told 54 = .ok (.istore_n 2, 1) := by decide +kernel
theorem dL_told_55 : decode cL_told 55 = .ok (.iload_n 2, 1) := by decide +kernel
theorem dL_told_56 : decode cL_told 56 = .ok (.aload_n 0, 1) := by decide +kernel
theorem dL_told_57 : decode cL_told 57 = .ok (.iconst 1, 1) := by decide +kernel
theorem dL_told_58 : decode cL_told 58 = .ok (.invokevirtual 60, 3) := by decide +kernel
theorem dL_told_61 : decode cL_told 61 = .ok (.if_icmp .ge 97, 3) := by decide +kernel
theorem dL_told_64 : decode cL_told 64 = .ok (.iconst 0, 1) := by decide +kernel
theorem dL_told_65 : decode cL_told 65 = .ok (.istore_n 3, 1) := by decide +kernel
theorem dL_told_66 : decode cL_told 66 = .ok (.iload_n 3, 1) := by decide +kernel
theorem dL_told_67 : decode cL_told 67 = .ok (.bipush 16, 2) := by decide +kernel
theorem dL_told_69 : decode cL_told 69 = .ok (.if_icmp .ge 21, 3) := by decide +kernel
theorem dL_told_72 : decode cL_told 72 = .ok (.bipush 31, 2) := by decide +kernel
theorem dL_told_74 : decode cL_told 74 = .ok (.iload_n 1, 1) := by decide +kernel
theorem dL_told_75 : decode cL_told 75 = .ok (.imul, 1) := by decide +kernel
theorem dL_told_76 : decode cL_told 76 = .ok (.aload_n 0, 1) := by decide +kernel
theorem dL_told_77 : decode cL_told 77 = .ok (.iload_n 2, 1) := by decide +kernel
theorem dL_told_78 : decode cL_told 78 = .ok (.iload_n 3, 1) := by decide +kernel
theorem dL_told_79 : decode cL_told 79 = .ok (.invokevirtual 66, 3) := by decide +kernel
theorem dL_told_82 : decode cL_told 82 = .ok (.iadd, 1) := by decide +kernel
theorem dL_told_83 : decode cL_told 83 = .ok (.istore_n 1, 1) := by decide +kernel
theorem dL_told_84 : decode cL_told 84 = .ok (.iinc 3 1, 3) := by decide +kernel
theorem dL_told_87 : decode cL_told 87 = .ok (.goto (-21), 3) := by decide +kernel
theorem dL_told_90 : decode cL_told 90 = .ok (.iconst 0, 1) := by decide +kernel
theorem dL_told_91 : decode cL_told 91 = .ok (.istore_n 3, 1) := by decide +kernel
theorem dL_told_92 : decode cL_told 92 = .ok (.iload_n 3, 1) := by decide +kernel
theorem dL_told_93 : decode cL_told 93 = .ok (.iconst 5, 1) := by decide +kernel
theorem dL_told_94 : decode cL_told 94 = .ok (.if_icmp .ge 26, 3) := by decide +kernel
theorem dL_told_97 : decode cL_told 97 = .ok (.bipush 31, 2) := by decide +kernel
theorem dL_told_99 : decode cL_told 99 = .ok (.iload_n 1, 1) := by decide +kernel
theorem dL_told_100 : decode cL_told 100 = .ok (.imul, 1) := by decide +kernel
theorem dL_told_101 : decode cL_told 101 = .ok (.aload_n 0, 1) := by decide +kernel
theorem dL_told_102 : decode cL_told 102 = .ok (.iload_n 2, 1) := by decide +kernel
theorem dL_told_103 : decode cL_told 103 = .ok (.iload_n 3, 1) := by decide +kernel
theorem dL_told_104 : decode cL_told 104 = .ok (.invokevirtual 73, 3) := by decide +kernel
theorem dL_told_107 : decode cL_told 107 = .ok (.ldc2_w 174, 3) := by decide +kernel
theorem dL_told_110 : decode cL_told 110 = .ok (.lrem, 1) := by decide +kernel
theorem dL_told_111 : decode cL_told 111 = .ok (.l2i, 1) := by decide +kernel
theorem dL_told_112 : decode cL_told 112 = .ok (.iadd, 1) := by decide +kernel
theorem dL_told_113 : decode cL_told 113 = .ok (.istore_n 1, 1) := by decide +kernel
theorem dL_told_114 : decode cL_told 114 = .ok (.iinc 3 1, 3) := by decide +kernel
theorem dL_told_117 : decode cL_told 117 = .ok (.goto (-25), 3) := by decide +kernel
theorem dL_told_120 : decode cL_told 120 = .ok (.iconst 1, 1) := by decide +kernel
theorem dL_told_121 : decode cL_told 121 = .ok (.istore_n 3, 1) := by decide +kernel
theorem dL_told_122 : decode cL_told 122 = .ok (.iload_n 3, 1) := by decide +kernel
theorem dL_told_123 : decode cL_told 123 = .ok (.bipush 12, 2) := by decide +kernel
theorem dL_told_125 : decode cL_told 125 = .ok (.if_icmp .ge 27, 3) := by decide +kernel
theorem dL_told_128 : decode cL_told 128 = .ok (.bipush 31, 2) := by decide +kernel
theorem dL_told_130 : decode cL_told 130 = .ok (.iload_n 1, 1) := by decide +kernel
theorem dL_told_131 : decode cL_told 131 = .ok (.imul, 1) := by decide +kernel
theorem dL_told_132 : decode cL_told 132 = .ok (.aload_n 0, 1) := by decide +kernel
theorem dL_told_133 : decode cL_told 133 = .ok (.iload_n 2, 1) := by decide +kernel
theorem dL_told_134 : decode cL_told 134 = .ok (.aload_n 0, 1) := by decide +kernel
theorem dL_told_135 : decode cL_told 135 = .ok (.iconst 0, 1) := by decide +kernel
theorem dL_told_136 : decode cL_told 136 = .ok (.invokevirtual 60, 3) := by decide +kernel
theorem dL_told_139 : decode cL_told 139 = .ok (.iload_n 3, 1) := by decide +kernel
theorem dL_told_140 : decode cL_told 140 = .ok (.iadd, 1) := by decide +kernel
theorem dL_told_141 : decode cL_told 141 = .ok (.invokevirtual 147, 3) := by decide +kernel
theorem dL_told_144 : decode cL_told 144 = .ok (.iadd, 1) := by decide +kernel
theorem dL_told_145 : decode cL_told 145 = .ok (.istore_n 1, 1) := by decide +kernel
theorem dL_told_146 : decode cL_told 146 = .ok (.iinc 3 2, 3) := by decide +kernel
theorem dL_told_149 : decode cL_told 149 = .ok (.goto (-27), 3) := by decide +kernel
theorem dL_told_152 : decode cL_told 152 = .ok (.iinc 2 1, 3) := by decide +kernel
theorem dL_told_155 : decode cL_told 155 = .ok (.goto (-100), 3) := by decide +kernel
theorem dL_told_158 : decode cL_told 158 = .ok (.iconst 0, 1) := by decide +kernel
theorem dL_told_159 : decode cL_told 159 = .ok (.istore_n 2, 1) := by decide +kernel
theorem dL_told_160 : decode cL_told 160 = .ok (.iload_n 2, 1) := by decide +kernel
theorem dL_told_161 : decode cL_told 161 = .ok (.aload_n 0, 1) := by decide +kernel
theorem dL_told_162 : decode cL_told 162 = .ok (.iconst 2, 1) := by decide +kernel
theorem dL_told_163 : decode cL_told 163 = .ok (.invokevirtual 60, 3) := by decide +kernel
theorem dL_told_166 : decode cL_told 166 = .ok (.if_icmp .ge 34, 3) := by decide +kernel
theorem dL_told_169 : decode cL_told 169 = .ok (.iconst 0, 1) := by decide +kernel
theorem dL_told_170 : decode cL_told 170 = .ok (.istore_n 3, 1) := by decide +kernel
theorem dL_told_171 : decode cL_told 171 = .ok (.iload_n 3, 1) := by decide +kernel
theorem dL_told_172 : decode cL_told 172 = .ok (.iconst 4, 1) := by decide +kernel
theorem dL_told_173 : decode cL_told 173 = .ok (.if_icmp .ge 21, 3) := by decide +kernel
theorem dL_told_176 : decode cL_told 176 = .ok (.bipush 31, 2) := by decide +kernel
theorem dL_told_178 : decode cL_told 178 = .ok (.iload_n 1, 1) := by decide +kernel
theorem dL_told_179 : decode cL_told 179 = .ok (.imul, 1) := by decide +kernel
theorem dL_told_180 : decode cL_told 180 = .ok (.aload_n 0, 1) := by decide +kernel
theorem dL_told_181 : decode cL_told 181 = .ok (.iload_n 2, 1) := by decide +kernel
theorem dL_told_182 : decode cL_told 182 = .ok (.iload_n 3, 1) := by decide +kernel
theorem dL_told_183 : decode cL_told 183 = .ok (.invokevirtual 90, 3) := by decide +kernel
theorem dL_told_186 : decode cL_told 186 = .ok (.iadd, 1) := by decide +kernel
theorem dL_told_187 : decode cL_told 187 = .ok (.istore_n 1, 1) := by decide +kernel
theorem dL_told_188 : decode cL_told 188 = .ok (.iinc 3 1, 3) := by decide +kernel
theorem dL_told_191 : decode cL_told 191 = .ok (.goto (-20), 3) := by decide +kernel
theorem dL_told_194 : decode cL_told 194 = .ok (.iinc 2 1, 3) := by decide +kernel
theorem dL_told_197 : decode cL_told 197 = .ok (.goto (-37), 3) := by decide +kernel
theorem dL_told_200 : decode cL_told 200 = .ok (.iload_n 1, 1) := by decide +kernel
theorem dL_told_201 : decode cL_told 201 = .ok (.ireturn, 1) := by decide +kernel
theorem dL_back_0 : decode cL_back 0 = .ok (.aload_n 0, 1) := by decide +kernel
theorem dL_back_1 : decode cL_back 1 = .ok (.iconst 0, 1) := by decide +kernel
theorem dL_back_2 : decode cL_back 2 = .ok (.invokevirtual 60, 3) := by decide +kernel
theorem dL_back_5 : decode cL_back 5 = .ok (.istore_n 2, 1) := by decide +kernel
theorem dL_back_6 : decode cL_back 6 = .ok (.aload_n 0, 1) := by decide +kernel
theorem dL_back_7 : decode cL_back 7 = .ok (.iconst 1, 1) := by decide +kernel
theorem dL_back_8 : decode cL_back 8 = .ok (.invokevirtual 165, 3) := by decide +kernel
theorem dL_back_11 : decode cL_back 11 = .ok (.iload_n 2, 1) := by decide +kernel
theorem dL_back_12 : decode cL_back 12 = .ok (.if_icmp .eq 5, 3) := by decide +kernel
theorem dL_back_15 : decode cL_back 15 = .ok (.iconst 0, 1) := by decide +kernel
theorem dL_back_16 : decode cL_back 16 = .ok (.ireturn, 1) := by decide +kernel
theorem dL_back_17 : decode cL_back 17 = .ok (.aload_n 0, 1) := by decide +kernel
theorem dL_back_18 : decode cL_back 18 = .ok (.invokestatic 133, 3) := by decide +kernel
theorem dL_back_21 : decode cL_back 21 = .ok (.istore_n 3, 1) := by decide +kernel
theorem dL_back_22 : decode cL_back 22 = .ok (.aload_n 0, 1) := by decide +kernel
theorem dL_back_23 : decode cL_back 23 = .ok (.iload_n 1, 1) := by decide +kernel
theorem dL_back_24 : decode cL_back 24 = .ok (.ldc 22, 2) := by decide +kernel
theorem dL_back_26 : decode cL_back 26 = .ok (.invokestatic 23, 3) := by decide +kernel
theorem dL_back_29 : decode cL_back 29 = .ok (.invokevirtual 27, 3) := by decide +kernel
theorem dL_back_32 : decode cL_back 32 = .ok (.pop, 1) := by decide +kernel
theorem dL_back_33 : decode cL_back 33 = .ok (.aload_n 0, 1) := by decide +kernel
theorem dL_back_34 : decode cL_back 34 = .ok (.iconst 1, 1) := by decide +kernel
theorem dL_back_35 : decode cL_back 35 = .ok (.iload_n 1, 1) := by decide +kernel
theorem dL_back_36 : decode cL_back 36 = .ok (.iconst 4, 1) := by decide +kernel
theorem dL_back_37 : decode cL_back 37 = .ok (.ishr, 1) := by decide +kernel
theorem dL_back_38 : decode cL_back 38 = .ok (.bipush 40, 2) := by decide +kernel
theorem dL_back_40 : decode cL_back 40 = .ok (.invokestatic 23, 3) := by decide +kernel
theorem dL_back_43 : decode cL_back 43 = .ok (.iadd, 1) := by decide +kernel
theorem dL_back_44 : decode cL_back 44 = .ok (.invokevirtual 96, 3) := by decide +kernel
theorem dL_back_47 : decode cL_back 47 = .ok (.pop, 1) := by decide +kernel
theorem dL_back_48 : decode cL_back 48 = .ok (.aload_n 0, 1) := by decide +kernel
theorem dL_back_49 : decode cL_back 49 = .ok (.iconst 0, 1) := by decide +kernel
theorem dL_back_50 : decode cL_back 50 = .ok (.bipush 9, 2) := by decide +kernel
theorem dL_back_52 : decode cL_back 52 = .ok (.invokevirtual 77, 3) := by decide +kernel
theorem dL_back_55 : decode cL_back 55 = .ok (.pop, 1) := by decide +kernel
theorem dL_back_56 : decode cL_back 56 = .ok (.aload_n 0, 1) := by decide +kernel
theorem dL_back_57 : decode cL_back 57 = .ok (.bipush 9, 2) := by decide +kernel
theorem dL_back_59 : decode cL_back 59 = .ok (.iconst 1, 1) := by decide +kernel
theorem dL_back_60 : decode cL_back 60 = .ok (.invokevirtual 63, 3) := by decide +kernel
theorem dL_back_63 : decode cL_back 63 = .ok (.pop, 1) := by decide +kernel
theorem dL_back_64 : decode cL_back 64 = .ok (.aload_n 0, 1) := by decide +kernel
theorem dL_back_65 : decode cL_back 65 = .ok (.bipush 7, 2) := by decide +kernel
theorem dL_back_67 : decode cL_back 67 = .ok (.invokevirtual 60, 3) := by decide +kernel
theorem dL_back_70 : decode cL_back 70 = .ok (.istore 4, 2) := by decide +kernel
theorem dL_back_72 : decode cL_back 72 = .ok (.iconst 1, 1) := by decide +kernel
theorem dL_back_73 : decode cL_back 73 = .ok (.istore 5, 2) := by decide +kernel
theorem dL_back_75 : decode cL_back 75 = .ok (.iload 5, 2) := by decide +kernel
theorem dL_back_77 : decode cL_back 77 = .ok (.iconst 4, 1) := by decide +kernel
theorem dL_back_78 : decode cL_back 78 = .ok (.if_icmp .gt 23, 3) := by decide +kernel
theorem dL_back_81 : decode cL_back 81 = .ok (.aload_n 0, 1) := by decide +kernel
theorem dL_back_82 : decode cL_back 82 = .ok (.invokevirtual 137, 3) := by decide +kernel
theorem dL_back_85 : decode cL_back 85 = .ok (.iload 4, 2) := by decide +kernel
theorem dL_back_87 : decode cL_back 87 = .ok (.iload 5, 2) := by decide +kernel
theorem dL_back_89 : decode cL_back 89 = .ok (.isub, 1) := by decide +kernel
theorem dL_back_90 : decode cL_back 90 = .ok (.if_icmp .eq 5, 3) := by decide +kernel
theorem dL_back_93 : decode cL_back 93 = .ok (.iconst 0, 1) := by decide +kernel
theorem dL_back_94 : decode cL_back 94 = .ok (.ireturn, 1) := by decide +kernel
theorem dL_back_95 : decode cL_back 95 = .ok (.iinc 5 1, 3) := by decide +kernel
theorem dL_back_98 : decode cL_back 98 = .ok (.goto (-23), 3) := by decide +kernel
theorem dL_back_101 : decode cL_back 101 = .ok (.aload_n 0, 1) := by decide +kernel
theorem dL_back_102 : decode cL_back 102 = .ok (.invokestatic 133, 3) := by decide +kernel
theorem dL_back_105 : decode cL_back 105 = .ok (.iload_n 3, 1) := by decide +kernel
theorem dL_back_106 : decode cL_back 106 = .ok (.if_icmp .eq 5, 3) := by decide +kernel
theorem dL_back_109 : decode cL_back 109 = .ok (.iconst 0, 1) := by decide +kernel
theorem dL_back_110 : decode cL_back 110 = .ok (.ireturn, 1) := by decide +kernel
theorem dL_back_111 : decode cL_back 111 = .ok (.aload_n 0, 1) := by decide +kernel
theorem dL_back_112 : decode cL_back 112 = .ok (.bipush 9, 2) := by decide +kernel
theorem dL_back_114 : decode cL_back 114 = .ok (.invokevirtual 96, 3) := by decide +kernel
theorem dL_back_117 : decode cL_back 117 = .ok (.pop, 1) := by decide +kernel
theorem dL_back_118 : decode cL_back 118 = .ok (.aload_n 0, 1) := by decide +kernel
theorem dL_back_119 : decode cL_back 119 = .ok (.bipush 9, 2) := by decide +kernel
theorem dL_back_121 : decode cL_back 121 = .ok (.sipush 4999, 3) := by decide +kernel
theorem dL_back_124 : decode cL_back 124 = .ok (.invokevirtual 63, 3) := by decide +kernel
theorem dL_back_127 : decode cL_back 127 = .ok (.pop, 1) := by decide +kernel
theorem dL_back_128 : decode cL_back 128 = .ok (.aload_n 0, 1) := by decide +kernel
theorem dL_back_129 : decode cL_back 129 = .ok (.iconst 1, 1) := by decide +kernel
theorem dL_back_130 : decode cL_back 130 = .ok (.invokevirtual 168, 3) := by decide +kernel
theorem dL_back_133 : decode cL_back 133 = .ok (.iload_n 2, 1) := by decide +kernel
theorem dL_back_134 : decode cL_back 134 = .ok (.if_icmp .ne 55, 3) := by decide +kernel
theorem dL_back_137 : decode cL_back 137 = .ok (.aload_n 0, 1) := by decide +kernel
theorem dL_back_138 : decode cL_back 138 = .ok (.invokestatic 133, 3) := by decide +kernel
theorem dL_back_141 : decode cL_back 141 = .ok (.iload_n 3, 1) := by decide +kernel
theorem dL_back_142 : decode cL_back 142 = .ok (.if_icmp .ne 47, 3) := by decide +kernel
theorem dL_back_145 : decode cL_back 145 = .ok (.aload_n 0, 1) := by decide +kernel
theorem dL_back_146 : decode cL_back 146 = .ok (.invokevirtual 137, 3) := by decide +kernel
theorem dL_back_149 : decode cL_back 149 = .ok (.ifCond .lt 40, 3) := by decide +kernel
theorem dL_back_152 : decode cL_back 152 = .ok (.aload_n 0, 1) := by decide +kernel
theorem dL_back_153 : decode cL_back 153 = .ok (.bipush 17, 2) := by decide +kernel
theorem dL_back_155 : decode cL_back 155 = .ok (.invokevirtual 60, 3) := by decide +kernel
theorem dL_back_158 : decode cL_back 158 = .ok (.sipush 4999, 3) := by decide +kernel
theorem dL_back_161 : decode cL_back 161 = .ok (.if_icmp .ne 28, 3) := by decide +kernel
theorem dL_back_164 : decode cL_back 164 = .ok (.aload_n 0, 1) := by decide +kernel
theorem dL_back_165 : decode cL_back 165 = .ok (.iconst 0, 1) := by decide +kernel
theorem dL_back_166 : decode cL_back 166 = .ok (.invokevirtual 60, 3) := by decide +kernel
theorem dL_back_169 : decode cL_back 169 = .ok (.iload_n 2, 1) := by decide +kernel
theorem dL_back_170 : decode cL_back 170 = .ok (.bipush 9, 2) := by decide +kernel
theorem dL_back_172 : decode cL_back 172 = .ok (.iadd, 1) := by decide +kernel
theorem dL_back_173 : decode cL_back 173 = .ok (.if_icmp .ne 16, 3) := by decide +kernel
theorem dL_back_176 : decode cL_back 176 = .ok (.aload_n 0, 1) := by decide +kernel
theorem dL_back_177 : decode cL_back 177 = .ok (.iconst 1, 1) := by decide +kernel
theorem dL_back_178 : decode cL_back 178 = .ok (.invokevirtual 168, 3) := by decide +kernel
theorem dL_back_181 : decode cL_back 181 = .ok (.iload_n 2, 1) := by decide +kernel
theorem dL_back_182 : decode cL_back 182 = .ok (.if_icmp .ne 7, 3) := by decide +kernel
theorem dL_back_185 : decode cL_back 185 = .ok (.iconst 1, 1) := by decide +kernel
theorem dL_back_186 : decode cL_back 186 = .ok (.goto 4, 3) := by decide +kernel
theorem dL_back_189 : decode cL_back 189 = .ok (.iconst 0, 1) := by decide +kernel
theorem dL_back_190 : decode cL_back 190 = .ok (.ireturn, 1) := by decide +kernel
theorem dL_refused_0 : decode cL_refused 0 = .ok (.iload_n 1, 1) := by decide +kernel
theorem dL_refused_1 : decode cL_refused 1 = .ok (.ifCond .ge 15, 3) := by decide +kernel
theorem dL_refused_4 : decode cL_refused 4 = .ok (.bipush (-7), 2) := by decide +kernel
theorem dL_refused_6 : decode cL_refused 6 = .ok (.iload_n 1, 1) := by decide +kernel
theorem dL_refused_7 : decode cL_refused 7 = .ok (.ldc 86, 2) := by decide +kernel
theorem dL_refused_9 : decode cL_refused 9 = .ok (.invokestatic 23, 3) := by decide +kernel
theorem dL_refused_12 : decode cL_refused 12 = .ok (.isub, 1) := by decide +kernel
theorem dL_refused_13 : decode cL_refused 13 = .ok (.goto 10, 3) := by decide +kernel
theorem dL_refused_16 : decode cL_refused 16 = .ok (.iload_n 1, 1) := by decide +kernel
theorem dL_refused_17 : decode cL_refused 17 = .ok (.ldc 86, 2) := by decide +kernel
theorem dL_refused_19 : decode cL_refused 19 = .ok (.irem, 1) := by decide +kernel
theorem dL_refused_20 : decode cL_refused 20 = .ok (.ldc 176, 2) := by decide +kernel
theorem dL_refused_22 : decode cL_refused 22 = .ok (.iadd, 1) := by decide +kernel
theorem dL_refused_23 : decode cL_refused 23 = .ok (.istore_n 2, 1) := by decide +kernel
theorem dL_refused_24 : decode cL_refused 24 = .ok (.aload_n 0, 1) := by decide +kernel
theorem dL_refused_25 : decode cL_refused 25 = .ok (.iload_n 2, 1) := by decide +kernel
theorem dL_refused_26 : decode cL_refused 26 = .ok (.iconst 1, 1) := by decide +kernel
theorem dL_refused_27 : decode cL_refused 27 = .ok (.invokevirtual 63, 3) := by decide +kernel
theorem dL_refused_30 : decode cL_refused 30 = .ok (.bipush (-2), 2) := by decide +kernel
theorem dL_refused_32 : decode cL_refused 32 = .ok (.if_icmp .ne 300, 3) := by decide +kernel
theorem dL_refused_35 : decode cL_refused 35 = .ok (.aload_n 0, 1) := by decide +kernel
theorem dL_refused_36 : decode cL_refused 36 = .ok (.iconst 0, 1) := by decide +kernel
theorem dL_refused_37 : decode cL_refused 37 = .ok (.iload_n 2, 1) := by decide +kernel
theorem dL_refused_38 : decode cL_refused 38 = .ok (.invokevirtual 63, 3) := by decide +kernel
theorem dL_refused_41 : decode cL_refused 41 = .ok (.bipush (-2), 2) := by decide +kernel
theorem dL_refused_43 : decode cL_refused 43 = .ok (.if_icmp .ne 289, 3) := by decide +kernel
theorem dL_refused_46 : decode cL_refused 46 = .ok (.aload_n 0, 1) := by decide +kernel
theorem dL_refused_47 : decode cL_refused 47 = .ok (.iload_n 2, 1) := by decide +kernel
theorem dL_refused_48 : decode cL_refused 48 = .ok (.invokevirtual 27, 3) := by decide +kernel
theorem dL_refused_51 : decode cL_refused 51 = .ok (.bipush (-2), 2) := by decide +kernel
theorem dL_refused_53 : decode cL_refused 53 = .ok (.if_icmp .ne 279, 3) := by decide +kernel
theorem dL_refused_56 : decode cL_refused 56 = .ok (.aload_n 0, 1) := by decide +kernel
theorem dL_refused_57 : decode cL_refused 57 = .ok (.iload_n 2, 1) := by decide +kernel
theorem dL_refused_58 : decode cL_refused 58 = .ok (.invokevirtual 34, 3) := by decide +kernel
theorem dL_refused_61 : decode cL_refused 61 = .ok (.bipush (-2), 2) := by decide +kernel
theorem dL_refused_63 : decode cL_refused 63 = .ok (.if_icmp .ne 269, 3) := by decide +kernel
theorem dL_refused_66 : decode cL_refused 66 = .ok (.aload_n 0, 1) := by decide +kernel
theorem dL_refused_67 : decode cL_refused 67 = .ok (.iload_n 2, 1) := by decide +kernel
theorem dL_refused_68 : decode cL_refused 68 = .ok (.iconst 0, 1) := by decide +kernel
theorem dL_refused_69 : decode cL_refused 69 = .ok (.invokevirtual 93, 3) := by decide +kernel
theorem dL_refused_72 : decode cL_refused 72 = .ok (.iconst (-1), 1) := by decide +kernel
theorem dL_refused_73 : decode cL_refused 73 = .ok (.if_icmp .ne 259, 3) := by decide +kernel
theorem dL_refused_76 : decode cL_refused 76 = .ok (.aload_n 0, 1) := by decide +kernel
theorem dL_refused_77 : decode cL_refused 77 = .ok (.iload_n 2, 1) := by decide +kernel
theorem dL_refused_78 : decode cL_refused 78 = .ok (.iconst 1, 1) := by decide +kernel
theorem dL_refused_79 : decode cL_refused 79 = .ok (.invokevirtual 37, 3) := by decide +kernel
theorem dL_refused_82 : decode cL_refused 82 = .ok (.bipush (-2), 2) := by decide +kernel
theorem dL_refused_84 : decode cL_refused 84 = .ok (.if_icmp .ne 248, 3) := by decide +kernel
theorem dL_refused_87 : decode cL_refused 87 = .ok (.aload_n 0, 1) := by decide +kernel
theorem dL_refused_88 : decode cL_refused 88 = .ok (.iconst 0, 1) := by decide +kernel
theorem dL_refused_89 : decode cL_refused 89 = .ok (.iload_n 2, 1) := by decide +kernel
theorem dL_refused_90 : decode cL_refused 90 = .ok (.invokevirtual 37, 3) := by decide +kernel
theorem dL_refused_93 : decode cL_refused 93 = .ok (.bipush (-2), 2) := by decide +kernel
theorem dL_refused_95 : decode cL_refused 95 = .ok (.if_icmp .ne 237, 3) := by decide +kernel
theorem dL_refused_98 : decode cL_refused 98 = .ok (.aload_n 0, 1) := by decide +kernel
theorem dL_refused_99 : decode cL_refused 99 = .ok (.iload_n 2, 1) := by decide +kernel
theorem dL_refused_100 : decode cL_refused 100 = .ok (.iconst 0, 1) := by decide +kernel
theorem dL_refused_101 : decode cL_refused 101 = .ok (.iconst 0, 1) := by decide +kernel
theorem dL_refused_102 : decode cL_refused 102 = .ok (.iconst 0, 1) := by decide +kernel
theorem dL_refused_103 : decode cL_refused 103 = .ok (.invokevirtual 69, 3) := by decide +kernel
theorem dL_refused_106 : decode cL_refused 106 = .ok (.iconst (-1), 1) := by decide +kernel
theorem dL_refused_107 : decode cL_refused 107 = .ok (.if_icmp .ne 225, 3) := by decide +kernel
theorem dL_refused_110 : decode cL_refused 110 = .ok (.aload_n 0, 1) := by decide +kernel
theorem dL_refused_111 : decode cL_refused 111 = .ok (.iload_n 2, 1) := by decide +kernel
theorem dL_refused_112 : decode cL_refused 112 = .ok (.iconst 1, 1) := by decide +kernel
theorem dL_refused_113 : decode cL_refused 113 = .ok (.invokevirtual 77, 3) := by decide +kernel
theorem dL_refused_116 : decode cL_refused 116 = .ok (.iconst (-1), 1) := by decide +kernel
theorem dL_refused_117 : decode cL_refused 117 = .ok (.if_icmp .ne 215, 3) := by decide +kernel
theorem dL_refused_120 : decode cL_refused 120 = .ok (.aload_n 0, 1) := by decide +kernel
theorem dL_refused_121 : decode cL_refused 121 = .ok (.iload_n 2, 1) := by decide +kernel
theorem dL_refused_122 : decode cL_refused 122 = .ok (.invokevirtual 80, 3) := by decide +kernel
theorem dL_refused_125 : decode cL_refused 125 = .ok (.iconst (-1), 1) := by decide +kernel
theorem dL_refused_126 : decode cL_refused 126 = .ok (.if_icmp .ne 206, 3) := by decide +kernel
theorem dL_refused_129 : decode cL_refused 129 = .ok (.aload_n 0, 1) := by decide +kernel
theorem dL_refused_130 : decode cL_refused 130 = .ok (.iload_n 2, 1) := by decide +kernel
theorem dL_refused_131 : decode cL_refused 131 = .ok (.iconst 0, 1) := by decide +kernel
theorem dL_refused_132 : decode cL_refused 132 = .ok (.invokevirtual 83, 3) := by decide +kernel
theorem dL_refused_135 : decode cL_refused 135 = .ok (.iconst (-1), 1) := by decide +kernel
theorem dL_refused_136 : decode cL_refused 136 = .ok (.if_icmp .ne 196, 3) := by decide +kernel
theorem dL_refused_139 : decode cL_refused 139 = .ok (.aload_n 0, 1) := by decide +kernel
theorem dL_refused_140 : decode cL_refused 140 = .ok (.iload_n 2, 1) := by decide +kernel
theorem dL_refused_141 : decode cL_refused 141 = .ok (.iconst 1, 1) := by decide +kernel
theorem dL_refused_142 : decode cL_refused 142 = .ok (.invokevirtual 87, 3) := by decide +kernel
theorem dL_refused_145 : decode cL_refused 145 = .ok (.iconst (-1), 1) := by decide +kernel
theorem dL_refused_146 : decode cL_refused 146 = .ok (.if_icmp .ne 186, 3) := by decide +kernel
theorem dL_refused_149 : decode cL_refused 149 = .ok (.aload_n 0, 1) := by decide +kernel
theorem dL_refused_150 : decode cL_refused 150 = .ok (.iload_n 2, 1) := by decide +kernel
theorem dL_refused_151 : decode cL_refused 151 = .ok (.invokevirtual 96, 3) := by decide +kernel
theorem dL_refused_154 : decode cL_refused 154 = .ok (.bipush (-2), 2) := by decide +kernel
theorem dL_refused_156 : decode cL_refused 156 = .ok (.if_icmp .ne 176, 3) := by decide +kernel
theorem dL_refused_159 : decode cL_refused 159 = .ok (.aload_n 0, 1) := by decide +kernel
theorem dL_refused_160 : decode cL_refused 160 = .ok (.iload_n 2, 1) := by decide +kernel
theorem dL_refused_161 : decode cL_refused 161 = .ok (.iconst 0, 1) := by decide +kernel
theorem dL_refused_162 : decode cL_refused 162 = .ok (.invokevirtual 66, 3) := by decide +kernel
theorem dL_refused_165 : decode cL_refused 165 = .ok (.iconst (-1), 1) := by decide +kernel
theorem dL_refused_166 : decode cL_refused 166 = .ok (.if_icmp .ne 166, 3) := by decide +kernel
theorem dL_refused_169 : decode cL_refused 169 = .ok (.aload_n 0, 1) := by decide +kernel
theorem dL_refused_170 : decode cL_refused 170 = .ok (.iload_n 2, 1) := by decide +kernel
theorem dL_refused_171 : decode cL_refused 171 = .ok (.iconst 0, 1) := by decide +kernel
theorem dL_refused_172 : decode cL_refused 172 = .ok (.invokevirtual 73, 3) := by decide +kernel
theorem dL_refused_175 : decode cL_refused 175 = .ok (.ldc2_w 177, 3) := by decide +kernel
theorem dL_refused_178 : decode cL_refused 178 = .ok (.lcmp, 1) := by decide +kernel
theorem dL_refused_179 : decode cL_refused 179 = .ok (.ifCond .ne 153, 3) := by decide +kernel
theorem dL_refused_182 : decode cL_refused 182 = .ok (.aload_n 0, 1) := by decide +kernel
theorem dL_refused_183 : decode cL_refused 183 = .ok (.iload_n 2, 1) := by decide +kernel
theorem dL_refused_184 : decode cL_refused 184 = .ok (.iconst 0, 1) := by decide +kernel
theorem dL_refused_185 : decode cL_refused 185 = .ok (.invokevirtual 90, 3) := by decide +kernel
theorem dL_refused_188 : decode cL_refused 188 = .ok (.iconst (-1), 1) := by decide +kernel
theorem dL_refused_189 : decode cL_refused 189 = .ok (.if_icmp .ne 143, 3) := by decide +kernel
theorem dL_refused_192 : decode cL_refused 192 = .ok (.aload_n 0, 1) := by decide +kernel
theorem dL_refused_193 : decode cL_refused 193 = .ok (.iload_n 2, 1) := by decide +kernel
theorem dL_refused_194 : decode cL_refused 194 = .ok (.invokevirtual 60, 3) := by decide +kernel
theorem dL_refused_197 : decode cL_refused 197 = .ok (.bipush (-2), 2) := by decide +kernel
theorem dL_refused_199 : decode cL_refused 199 = .ok (.if_icmp .ne 133, 3) := by decide +kernel
theorem dL_refused_202 : decode cL_refused 202 = .ok (.aload_n 0, 1) := by decide +kernel
theorem dL_refused_203 : decode cL_refused 203 = .ok (.iload_n 2, 1) := by decide +kernel
theorem dL_refused_204 : decode cL_refused 204 = .ok (.iconst 0, 1) := by decide +kernel
theorem dL_refused_205 : decode cL_refused 205 = .ok (.invokevirtual 147, 3) := by decide +kernel
theorem dL_refused_208 : decode cL_refused 208 = .ok (.iconst (-1), 1) := by decide +kernel
theorem dL_refused_209 : decode cL_refused 209 = .ok (.if_icmp .ne 123, 3) := by decide +kernel
theorem dL_refused_212 : decode cL_refused 212 = .ok (.aload_n 0, 1) := by decide +kernel
theorem dL_refused_213 : decode cL_refused 213 = .ok (.iload_n 2, 1) := by decide +kernel
theorem dL_refused_214 : decode cL_refused 214 = .ok (.invokevirtual 150, 3) := by decide +kernel
theorem dL_refused_217 : decode cL_refused 217 = .ok (.iconst (-1), 1) := by decide +kernel
theorem dL_refused_218 : decode cL_refused 218 = .ok (.if_icmp .ne 114, 3) := by decide +kernel
theorem dL_refused_221 : decode cL_refused 221 = .ok (.aload_n 0, 1) := by decide +kernel
theorem dL_refused_222 : decode cL_refused 222 = .ok (.iload_n 2, 1) := by decide +kernel
theorem dL_refused_223 : decode cL_refused 223 = .ok (.iconst 0, 1) := by decide +kernel
theorem dL_refused_224 : decode cL_refused 224 = .ok (.invokevirtual 153, 3) := by decide +kernel
theorem dL_refused_227 : decode cL_refused 227 = .ok (.iconst (-1), 1) := by decide +kernel
theorem dL_refused_228 : decode cL_refused 228 = .ok (.if_icmp .ne 104, 3) := by decide +kernel
theorem dL_refused_231 : decode cL_refused 231 = .ok (.aload_n 0, 1) := by decide +kernel
theorem dL_refused_232 : decode cL_refused 232 = .ok (.iload_n 2, 1) := by decide +kernel
theorem dL_refused_233 : decode cL_refused 233 = .ok (.invokevirtual 156, 3) := by decide +kernel
theorem dL_refused_236 : decode cL_refused 236 = .ok (.iconst (-1), 1) := by decide +kernel
theorem dL_refused_237 : decode cL_refused 237 = .ok (.if_icmp .ne 95, 3) := by decide +kernel
theorem dL_refused_240 : decode cL_refused 240 = .ok (.aload_n 0, 1) := by decide +kernel
theorem dL_refused_241 : decode cL_refused 241 = .ok (.iload_n 2, 1) := by decide +kernel
theorem dL_refused_242 : decode cL_refused 242 = .ok (.iconst 1, 1) := by decide +kernel
theorem dL_refused_243 : decode cL_refused 243 = .ok (.invokevirtual 159, 3) := by decide +kernel
theorem dL_refused_246 : decode cL_refused 246 = .ok (.iconst (-1), 1) := by decide +kernel
theorem dL_refused_247 : decode cL_refused 247 = .ok (.if_icmp .ne 85, 3) := by decide +kernel
theorem dL_refused_250 : decode cL_refused 250 = .ok (.aload_n 0, 1) := by decide +kernel
theorem dL_refused_251 : decode cL_refused 251 = .ok (.iload_n 2, 1) := by decide +kernel
theorem dL_refused_252 : decode cL_refused 252 = .ok (.bipush (-6), 2) := by decide +kernel
theorem dL_refused_254 : decode cL_refused 254 = .ok (.invokevirtual 162, 3) := by decide +kernel
theorem dL_refused_257 : decode cL_refused 257 = .ok (.iconst (-1), 1) := by decide +kernel
theorem dL_refused_258 : decode cL_refused 258 = .ok (.if_icmp .ne 74, 3) := by decide +kernel
theorem dL_refused_261 : decode cL_refused 261 = .ok (.aload_n 0, 1) := by decide +kernel
theorem dL_refused_262 : decode cL_refused 262 = .ok (.iload_n 2, 1) := by decide +kernel
theorem dL_refused_263 : decode cL_refused 263 = .ok (.iconst 0, 1) := by decide +kernel
theorem dL_refused_264 : decode cL_refused 264 = .ok (.invokevirtual 144, 3) := by decide +kernel
theorem dL_refused_267 : decode cL_refused 267 = .ok (.iconst (-1), 1) := by decide +kernel
theorem dL_refused_268 : decode cL_refused 268 = .ok (.if_icmp .ne 64, 3) := by decide +kernel
theorem dL_refused_271 : decode cL_refused 271 = .ok (.aload_n 0, 1) := by decide +kernel
theorem dL_refused_272 : decode cL_refused 272 = .ok (.invokevirtual 114, 3) := by decide +kernel
theorem dL_refused_275 : decode cL_refused 275 = .ok (.bipush (-3), 2) := by decide +kernel
theorem dL_refused_277 : decode cL_refused 277 = .ok (.if_icmp .ne 55, 3) := by decide +kernel
theorem dL_refused_280 : decode cL_refused 280 = .ok (.aload_n 0, 1) := by decide +kernel
theorem dL_refused_281 : decode cL_refused 281 = .ok (.invokevirtual 137, 3) := by decide +kernel
theorem dL_refused_284 : decode cL_refused 284 = .ok (.bipush (-5), 2) := by decide +kernel
theorem dL_refused_286 : decode cL_refused 286 = .ok (.if_icmp .ne 46, 3) := by decide +kernel
theorem dL_refused_289 : decode cL_refused 289 = .ok (.aload_n 0, 1) := by decide +kernel
theorem dL_refused_290 : decode cL_refused 290 = .ok (.iload_n 2, 1) := by decide +kernel
theorem dL_refused_291 : decode cL_refused 291 = .ok (.invokevirtual 165, 3) := by decide +kernel
theorem dL_refused_294 : decode cL_refused 294 = .ok (.bipush (-2), 2) := by decide +kernel
theorem dL_refused_296 : decode cL_refused 296 = .ok (.if_icmp .ne 36, 3) := by decide +kernel
theorem dL_refused_299 : decode cL_refused 299 = .ok (.aload_n 0, 1) := by decide +kernel
theorem dL_refused_300 : decode cL_refused 300 = .ok (.iload_n 2, 1) := by decide +kernel
theorem dL_refused_301 : decode cL_refused 301 = .ok (.invokevirtual 168, 3) := by decide +kernel
theorem dL_refused_304 : decode cL_refused 304 = .ok (.bipush (-2), 2) := by decide +kernel
theorem dL_refused_306 : decode cL_refused 306 = .ok (.if_icmp .ne 26, 3) := by decide +kernel
theorem dL_refused_309 : decode cL_refused 309 = .ok (.aload_n 0, 1) := by decide +kernel
theorem dL_refused_310 : decode cL_refused 310 = .ok (.iconst 0, 1) := by decide +kernel
theorem dL_refused_311 : decode cL_refused 311 = .ok (.invokevirtual 168, 3) := by decide +kernel
theorem dL_refused_314 : decode cL_refused 314 = .ok (.bipush (-5), 2) := by decide +kernel
theorem dL_refused_316 : decode cL_refused 316 = .ok (.if_icmp .ne 16, 3) := by decide +kernel
theorem dL_refused_319 : decode cL_refused 319 = .ok (.aload_n 0, 1) := by decide +kernel
theorem dL_refused_320 : decode cL_refused 320 = .ok (.bipush 7, 2) := by decide +kernel
theorem dL_refused_322 : decode cL_refused 322 = .ok (.invokevirtual 60, 3) := by decide +kernel
theorem dL_refused_325 : decode cL_refused 325 = .ok (.ifCond .ne 7, 3) := by decide +kernel
theorem dL_refused_328 : decode cL_refused 328 = .ok (.iconst 1, 1) := by decide +kernel
theorem dL_refused_329 : decode cL_refused 329 = .ok (.goto 4, 3) := by decide +kernel
theorem dL_refused_332 : decode cL_refused 332 = .ok (.iconst 0, 1) := by decide +kernel
theorem dL_refused_333 : decode cL_refused 333 = .ok (.ireturn, 1) := by decide +kernel
