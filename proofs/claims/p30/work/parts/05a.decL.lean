theorem dL_part_0 : decode cL_part 0 = .ok (.iload_n 0, 1) := by decide +kernel
theorem dL_part_1 : decode cL_part 1 = .ok (.ldc 7, 2) := by decide +kernel
theorem dL_part_3 : decode cL_part 3 = .ok (.iand, 1) := by decide +kernel
theorem dL_part_4 : decode cL_part 4 = .ok (.iload_n 1, 1) := by decide +kernel
theorem dL_part_5 : decode cL_part 5 = .ok (.irem, 1) := by decide +kernel
theorem dL_part_6 : decode cL_part 6 = .ok (.ireturn, 1) := by decide +kernel
theorem dL_drawn_0 : decode cL_drawn 0 = .ok (.aload_n 0, 1) := by decide +kernel
theorem dL_drawn_1 : decode cL_drawn 1 = .ok (.arraylength, 1) := by decide +kernel
theorem dL_drawn_2 : decode cL_drawn 2 = .ok (.ifCond .ne 13, 3) := by decide +kernel
theorem dL_drawn_5 : decode cL_drawn 5 = .ok (.sipush 7919, 3) := by decide +kernel
theorem dL_drawn_8 : decode cL_drawn 8 = .ok (.iload_n 1, 1) := by decide +kernel
theorem dL_drawn_9 : decode cL_drawn 9 = .ok (.imul, 1) := by decide +kernel
theorem dL_drawn_10 : decode cL_drawn 10 = .ok (.iconst 3, 1) := by decide +kernel
theorem dL_drawn_11 : decode cL_drawn 11 = .ok (.iadd, 1) := by decide +kernel
theorem dL_drawn_12 : decode cL_drawn 12 = .ok (.goto 27, 3) := by decide +kernel
theorem dL_drawn_15 : decode cL_drawn 15 = .ok (.aload_n 0, 1) := by decide +kernel
theorem dL_drawn_16 : decode cL_drawn 16 = .ok (.iload_n 1, 1) := by decide +kernel
theorem dL_drawn_17 : decode cL_drawn 17 = .ok (.aload_n 0, 1) := by decide +kernel
theorem dL_drawn_18 : decode cL_drawn 18 = .ok (.arraylength, 1) := by decide +kernel
theorem dL_drawn_19 : decode cL_drawn 19 = .ok (.irem, 1) := by decide +kernel
theorem dL_drawn_20 : decode cL_drawn 20 = .ok (.iaload, 1) := by decide +kernel
theorem dL_drawn_21 : decode cL_drawn 21 = .ok (.iload_n 1, 1) := by decide +kernel
theorem dL_drawn_22 : decode cL_drawn 22 = .ok (.bipush 7, 2) := by decide +kernel
theorem dL_drawn_24 : decode cL_drawn 24 = .ok (.irem, 1) := by decide +kernel
theorem dL_drawn_25 : decode cL_drawn 25 = .ok (.ishr, 1) := by decide +kernel
theorem dL_drawn_26 : decode cL_drawn 26 = .ok (.iload_n 1, 1) := by decide +kernel
theorem dL_drawn_27 : decode cL_drawn 27 = .ok (.aload_n 0, 1) := by decide +kernel
theorem dL_drawn_28 : decode cL_drawn 28 = .ok (.arraylength, 1) := by decide +kernel
theorem dL_drawn_29 : decode cL_drawn 29 = .ok (.idiv, 1) := by decide +kernel
theorem dL_drawn_30 : decode cL_drawn 30 = .ok (.bipush 31, 2) := by decide +kernel
theorem dL_drawn_32 : decode cL_drawn 32 = .ok (.imul, 1) := by decide +kernel
theorem dL_drawn_33 : decode cL_drawn 33 = .ok (.ixor, 1) := by decide +kernel
theorem dL_drawn_34 : decode cL_drawn 34 = .ok (.iload_n 1, 1) := by decide +kernel
theorem dL_drawn_35 : decode cL_drawn 35 = .ok (.ldc 8, 2) := by decide +kernel
theorem dL_drawn_37 : decode cL_drawn 37 = .ok (.imul, 1) := by decide +kernel
theorem dL_drawn_38 : decode cL_drawn 38 = .ok (.ixor, 1) := by decide +kernel
theorem dL_drawn_39 : decode cL_drawn 39 = .ok (.ireturn, 1) := by decide +kernel
theorem dL_call_0 : decode cL_call 0 = .ok (.lload 4, 2) := by decide +kernel
theorem dL_call_2 : decode cL_call 2 = .ok (.ldc2_w 9, 3) := by decide +kernel
theorem dL_call_5 : decode cL_call 5 = .ok (.ldiv, 1) := by decide +kernel
theorem dL_call_6 : decode cL_call 6 = .ok (.ldc2_w 11, 3) := by decide +kernel
theorem dL_call_9 : decode cL_call 9 = .ok (.lrem, 1) := by decide +kernel
theorem dL_call_10 : decode cL_call 10 = .ok (.l2i, 1) := by decide +kernel
theorem dL_call_11 : decode cL_call 11 = .ok (.sipush 500, 3) := by decide +kernel
theorem dL_call_14 : decode cL_call 14 = .ok (.isub, 1) := by decide +kernel
theorem dL_call_15 : decode cL_call 15 = .ok (.istore 6, 2) := by decide +kernel
theorem dL_call_17 : decode cL_call 17 = .ok (.lload 4, 2) := by decide +kernel
theorem dL_call_19 : decode cL_call 19 = .ok (.ldc2_w 11, 3) := by decide +kernel
theorem dL_call_22 : decode cL_call 22 = .ok (.ldiv, 1) := by decide +kernel
theorem dL_call_23 : decode cL_call 23 = .ok (.ldc2_w 11, 3) := by decide +kernel
theorem dL_call_26 : decode cL_call 26 = .ok (.lrem, 1) := by decide +kernel
theorem dL_call_27 : decode cL_call 27 = .ok (.l2i, 1) := by decide +kernel
theorem dL_call_28 : decode cL_call 28 = .ok (.sipush 500, 3) := by decide +kernel
theorem dL_call_31 : decode cL_call 31 = .ok (.isub, 1) := by decide +kernel
theorem dL_call_32 : decode cL_call 32 = .ok (.istore 7, 2) := by decide +kernel
theorem dL_call_34 : decode cL_call 34 = .ok (.lload 4, 2) := by decide +kernel
theorem dL_call_36 : decode cL_call 36 = .ok (.ldc2_w 11, 3) := by decide +kernel
theorem dL_call_39 : decode cL_call 39 = .ok (.lrem, 1) := by decide +kernel
theorem dL_call_40 : decode cL_call 40 = .ok (.l2i, 1) := by decide +kernel
theorem dL_call_41 : decode cL_call 41 = .ok (.sipush 500, 3) := by decide +kernel
theorem dL_call_44 : decode cL_call 44 = .ok (.isub, 1) := by decide +kernel
theorem dL_call_45 : decode cL_call 45 = .ok (.istore 8, 2) := by decide +kernel
theorem dL_call_47 : decode cL_call 47 = .ok (.iload_n 1, 1) := by decide +kernel
theorem dL_call_48 : decode cL_call 48 = .ok (.ifCond .ne 18, 3) := by decide +kernel
theorem dL_call_51 : decode cL_call 51 = .ok (.aload_n 0, 1) := by decide +kernel
theorem dL_call_52 : decode cL_call 52 = .ok (.iload_n 2, 1) := by decide +kernel
theorem dL_call_53 : decode cL_call 53 = .ok (.iload_n 3, 1) := by decide +kernel
theorem dL_call_54 : decode cL_call 54 = .ok (.iload 6, 2) := by decide +kernel
theorem dL_call_56 : decode cL_call 56 = .ok (.iload 7, 2) := by decide +kernel
theorem dL_call_58 : decode cL_call 58 = .ok (.iload 8, 2) := by decide +kernel
theorem dL_call_60 : decode cL_call 60 = .ok (.invokevirtual 13, 3) := by decide +kernel
theorem dL_call_63 : decode cL_call 63 = .ok (.goto 379, 3) := by decide +kernel
theorem dL_call_66 : decode cL_call 66 = .ok (.iload_n 1, 1) := by decide +kernel
theorem dL_call_67 : decode cL_call 67 = .ok (.iconst 1, 1) := by decide +kernel
theorem dL_call_68 : decode cL_call 68 = .ok (.if_icmp .ne 16, 3) := by decide +kernel
theorem dL_call_71 : decode cL_call 71 = .ok (.aload_n 0, 1) := by decide +kernel
theorem dL_call_72 : decode cL_call 72 = .ok (.iload_n 2, 1) := by decide +kernel
theorem dL_call_73 : decode cL_call 73 = .ok (.iload_n 3, 1) := by decide +kernel
theorem dL_call_74 : decode cL_call 74 = .ok (.iload 6, 2) := by decide +kernel
theorem dL_call_76 : decode cL_call 76 = .ok (.iload 7, 2) := by decide +kernel
theorem dL_call_78 : decode cL_call 78 = .ok (.invokevirtual 19, 3) := by decide +kernel
theorem dL_call_81 : decode cL_call 81 = .ok (.goto 361, 3) := by decide +kernel
theorem dL_call_84 : decode cL_call 84 = .ok (.iload_n 1, 1) := by decide +kernel
theorem dL_call_85 : decode cL_call 85 = .ok (.iconst 2, 1) := by decide +kernel
theorem dL_call_86 : decode cL_call 86 = .ok (.if_icmp .ne 12, 3) := by decide +kernel
theorem dL_call_89 : decode cL_call 89 = .ok (.aload_n 0, 1) := by decide +kernel
theorem dL_call_90 : decode cL_call 90 = .ok (.iload_n 2, 1) := by decide +kernel
theorem dL_call_91 : decode cL_call 91 = .ok (.iload_n 3, 1) := by decide +kernel
theorem dL_call_92 : decode cL_call 92 = .ok (.invokevirtual 23, 3) := by decide +kernel
theorem dL_call_95 : decode cL_call 95 = .ok (.goto 347, 3) := by decide +kernel
theorem dL_call_98 : decode cL_call 98 = .ok (.iload_n 1, 1) := by decide +kernel
theorem dL_call_99 : decode cL_call 99 = .ok (.iconst 3, 1) := by decide +kernel
theorem dL_call_100 : decode cL_call 100 = .ok (.if_icmp .ne 11, 3) := by decide +kernel
theorem dL_call_103 : decode cL_call 103 = .ok (.aload_n 0, 1) := by decide +kernel
theorem dL_call_104 : decode cL_call 104 = .ok (.iload_n 2, 1) := by decide +kernel
theorem dL_call_105 : decode cL_call 105 = .ok (.invokevirtual 27, 3) := by decide +kernel
theorem dL_call_108 : decode cL_call 108 = .ok (.goto 334, 3) := by decide +kernel
theorem dL_call_111 : decode cL_call 111 = .ok (.iload_n 1, 1) := by decide +kernel
theorem dL_call_112 : decode cL_call 112 = .ok (.iconst 4, 1) := by decide +kernel
theorem dL_call_113 : decode cL_call 113 = .ok (.if_icmp .ne 16, 3) := by decide +kernel
theorem dL_call_116 : decode cL_call 116 = .ok (.aload_n 0, 1) := by decide +kernel
theorem dL_call_117 : decode cL_call 117 = .ok (.iload_n 2, 1) := by decide +kernel
theorem dL_call_118 : decode cL_call 118 = .ok (.iload_n 3, 1) := by decide +kernel
theorem dL_call_119 : decode cL_call 119 = .ok (.iload 6, 2) := by decide +kernel
theorem dL_call_121 : decode cL_call 121 = .ok (.iload 7, 2) := by decide +kernel
theorem dL_call_123 : decode cL_call 123 = .ok (.invokevirtual 31, 3) := by decide +kernel
theorem dL_call_126 : decode cL_call 126 = .ok (.goto 316, 3) := by decide +kernel
theorem dL_call_129 : decode cL_call 129 = .ok (.iload_n 1, 1) := by decide +kernel
theorem dL_call_130 : decode cL_call 130 = .ok (.iconst 5, 1) := by decide +kernel
theorem dL_call_131 : decode cL_call 131 = .ok (.if_icmp .ne 12, 3) := by decide +kernel
theorem dL_call_134 : decode cL_call 134 = .ok (.aload_n 0, 1) := by decide +kernel
theorem dL_call_135 : decode cL_call 135 = .ok (.iload_n 2, 1) := by decide +kernel
theorem dL_call_136 : decode cL_call 136 = .ok (.iload_n 3, 1) := by decide +kernel
theorem dL_call_137 : decode cL_call 137 = .ok (.invokevirtual 34, 3) := by decide +kernel
theorem dL_call_140 : decode cL_call 140 = .ok (.goto 302, 3) := by decide +kernel
theorem dL_call_143 : decode cL_call 143 = .ok (.iload_n 1, 1) := by decide +kernel
theorem dL_call_144 : decode cL_call 144 = .ok (.bipush 6, 2) := by decide +kernel
theorem dL_call_146 : decode cL_call 146 = .ok (.if_icmp .ne 12, 3) := by decide +kernel
theorem dL_call_149 : decode cL_call 149 = .ok (.aload_n 0, 1) := by decide +kernel
theorem dL_call_150 : decode cL_call 150 = .ok (.iload_n 2, 1) := by decide +kernel
theorem dL_call_151 : decode cL_call 151 = .ok (.iload_n 3, 1) := by decide +kernel
theorem dL_call_152 : decode cL_call 152 = .ok (.invokevirtual 37, 3) := by decide +kernel
theorem dL_call_155 : decode cL_call 155 = .ok (.goto 287, 3) := by decide +kernel
theorem dL_call_158 : decode cL_call 158 = .ok (.iload_n 1, 1) := by decide +kernel
theorem dL_call_159 : decode cL_call 159 = .ok (.bipush 7, 2) := by decide +kernel
theorem dL_call_161 : decode cL_call 161 = .ok (.if_icmp .ne 16, 3) := by decide +kernel
theorem dL_call_164 : decode cL_call 164 = .ok (.aload_n 0, 1) := by decide +kernel
theorem dL_call_165 : decode cL_call 165 = .ok (.iload_n 2, 1) := by decide +kernel
theorem dL_call_166 : decode cL_call 166 = .ok (.iload_n 3, 1) := by decide +kernel
theorem dL_call_167 : decode cL_call 167 = .ok (.iload 6, 2) := by decide +kernel
theorem dL_call_169 : decode cL_call 169 = .ok (.iload 7, 2) := by decide +kernel
theorem dL_call_171 : decode cL_call 171 = .ok (.invokevirtual 40, 3) := by decide +kernel
theorem dL_call_174 : decode cL_call 174 = .ok (.goto 268, 3) := by decide +kernel
theorem dL_call_177 : decode cL_call 177 = .ok (.iload_n 1, 1) := by decide +kernel
theorem dL_call_178 : decode cL_call 178 = .ok (.bipush 8, 2) := by decide +kernel
theorem dL_call_180 : decode cL_call 180 = .ok (.if_icmp .ne 11, 3) := by decide +kernel
theorem dL_call_183 : decode cL_call 183 = .ok (.aload_n 0, 1) := by decide +kernel
theorem dL_call_184 : decode cL_call 184 = .ok (.iload_n 2, 1) := by decide +kernel
theorem dL_call_185 : decode cL_call 185 = .ok (.invokevirtual 43, 3) := by decide +kernel
theorem dL_call_188 : decode cL_call 188 = .ok (.goto 254, 3) := by decide +kernel
theorem dL_call_191 : decode cL_call 191 = .ok (.iload_n 1, 1) := by decide +kernel
theorem dL_call_192 : decode cL_call 192 = .ok (.bipush 9, 2) := by decide +kernel
theorem dL_call_194 : decode cL_call 194 = .ok (.if_icmp .ne 10, 3) := by decide +kernel
theorem dL_call_197 : decode cL_call 197 = .ok (.aload_n 0, 1) := by decide +kernel
theorem dL_call_198 : decode cL_call 198 = .ok (.invokevirtual 46, 3) := by decide +kernel
theorem dL_call_201 : decode cL_call 201 = .ok (.goto 241, 3) := by decide +kernel
theorem dL_call_204 : decode cL_call 204 = .ok (.iload_n 1, 1) := by decide +kernel
theorem dL_call_205 : decode cL_call 205 = .ok (.bipush 10, 2) := by decide +kernel
theorem dL_call_207 : decode cL_call 207 = .ok (.if_icmp .ne 11, 3) := by decide +kernel
theorem dL_call_210 : decode cL_call 210 = .ok (.aload_n 0, 1) := by decide +kernel
theorem dL_call_211 : decode cL_call 211 = .ok (.iload_n 2, 1) := by decide +kernel
theorem dL_call_212 : decode cL_call 212 = .ok (.invokevirtual 50, 3) := by decide +kernel
theorem dL_call_215 : decode cL_call 215 = .ok (.goto 227, 3) := by decide +kernel
theorem dL_call_218 : decode cL_call 218 = .ok (.iload_n 1, 1) := by decide +kernel
theorem dL_call_219 : decode cL_call 219 = .ok (.bipush 11, 2) := by decide +kernel
theorem dL_call_221 : decode cL_call 221 = .ok (.if_icmp .ne 11, 3) := by decide +kernel
theorem dL_call_224 : decode cL_call 224 = .ok (.aload_n 0, 1) := by decide +kernel
theorem dL_call_225 : decode cL_call 225 = .ok (.iload_n 2, 1) := by decide +kernel
theorem dL_call_226 : decode cL_call 226 = .ok (.invokevirtual 53, 3) := by decide +kernel
theorem dL_call_229 : decode cL_call 229 = .ok (.goto 213, 3) := by decide +kernel
theorem dL_call_232 : decode cL_call 232 = .ok (.iload_n 1, 1) := by decide +kernel
theorem dL_call_233 : decode cL_call 233 = .ok (.bipush 12, 2) := by decide +kernel
theorem dL_call_235 : decode cL_call 235 = .ok (.if_icmp .ne 14, 3) := by decide +kernel
theorem dL_call_238 : decode cL_call 238 = .ok (.aload_n 0, 1) := by decide +kernel
theorem dL_call_239 : decode cL_call 239 = .ok (.iload_n 2, 1) := by decide +kernel
theorem dL_call_240 : decode cL_call 240 = .ok (.iload_n 3, 1) := by decide +kernel
theorem dL_call_241 : decode cL_call 241 = .ok (.iload 6, 2) := by decide +kernel
theorem dL_call_243 : decode cL_call 243 = .ok (.invokevirtual 56, 3) := by decide +kernel
theorem dL_call_246 : decode cL_call 246 = .ok (.goto 196, 3) := by decide +kernel
theorem dL_call_249 : decode cL_call 249 = .ok (.iload_n 1, 1) := by decide +kernel
theorem dL_call_250 : decode cL_call 250 = .ok (.bipush 13, 2) := by decide +kernel
theorem dL_call_252 : decode cL_call 252 = .ok (.if_icmp .ne 14, 3) := by decide +kernel
theorem dL_call_255 : decode cL_call 255 = .ok (.aload_n 0, 1) := by decide +kernel
theorem dL_call_256 : decode cL_call 256 = .ok (.iload_n 2, 1) := by decide +kernel
theorem dL_call_257 : decode cL_call 257 = .ok (.iload_n 3, 1) := by decide +kernel
theorem dL_call_258 : decode cL_call 258 = .ok (.iload 6, 2) := by decide +kernel
theorem dL_call_260 : decode cL_call 260 = .ok (.invokevirtual 60, 3) := by decide +kernel
theorem dL_call_263 : decode cL_call 263 = .ok (.goto 179, 3) := by decide +kernel
theorem dL_call_266 : decode cL_call 266 = .ok (.iload_n 1, 1) := by decide +kernel
theorem dL_call_267 : decode cL_call 267 = .ok (.bipush 14, 2) := by decide +kernel
theorem dL_call_269 : decode cL_call 269 = .ok (.if_icmp .ne 16, 3) := by decide +kernel
theorem dL_call_272 : decode cL_call 272 = .ok (.aload_n 0, 1) := by decide +kernel
theorem dL_call_273 : decode cL_call 273 = .ok (.iload_n 2, 1) := by decide +kernel
theorem dL_call_274 : decode cL_call 274 = .ok (.iload_n 3, 1) := by decide +kernel
theorem dL_call_275 : decode cL_call 275 = .ok (.iload 6, 2) := by decide +kernel
theorem dL_call_277 : decode cL_call 277 = .ok (.iload 7, 2) := by decide +kernel
theorem dL_call_279 : decode cL_call 279 = .ok (.invokevirtual 63, 3) := by decide +kernel
theorem dL_call_282 : decode cL_call 282 = .ok (.goto 160, 3) := by decide +kernel
theorem dL_call_285 : decode cL_call 285 = .ok (.iload_n 1, 1) := by decide +kernel
theorem dL_call_286 : decode cL_call 286 = .ok (.bipush 15, 2) := by decide +kernel
theorem dL_call_288 : decode cL_call 288 = .ok (.if_icmp .ne 14, 3) := by decide +kernel
theorem dL_call_291 : decode cL_call 291 = .ok (.aload_n 0, 1) := by decide +kernel
theorem dL_call_292 : decode cL_call 292 = .ok (.iload_n 2, 1) := by decide +kernel
theorem dL_call_293 : decode cL_call 293 = .ok (.iload_n 3, 1) := by decide +kernel
theorem dL_call_294 : decode cL_call 294 = .ok (.iload 6, 2) := by decide +kernel
theorem dL_call_296 : decode cL_call 296 = .ok (.invokevirtual 66, 3) := by decide +kernel
theorem dL_call_299 : decode cL_call 299 = .ok (.goto 143, 3) := by decide +kernel
theorem dL_call_302 : decode cL_call 302 = .ok (.iload_n 1, 1) := by decide +kernel
theorem dL_call_303 : decode cL_call 303 = .ok (.bipush 16, 2) := by decide +kernel
theorem dL_call_305 : decode cL_call 305 = .ok (.if_icmp .ne 16, 3) := by decide +kernel
theorem dL_call_308 : decode cL_call 308 = .ok (.aload_n 0, 1) := by decide +kernel
theorem dL_call_309 : decode cL_call 309 = .ok (.iload_n 2, 1) := by decide +kernel
theorem dL_call_310 : decode cL_call 310 = .ok (.iload_n 3, 1) := by decide +kernel
theorem dL_call_311 : decode cL_call 311 = .ok (.iload 6, 2) := by decide +kernel
theorem dL_call_313 : decode cL_call 313 = .ok (.iload 7, 2) := by decide +kernel
theorem dL_call_315 : decode cL_call 315 = .ok (.invokevirtual 69, 3) := by decide +kernel
theorem dL_call_318 : decode cL_call 318 = .ok (.goto 124, 3) := by decide +kernel
theorem dL_call_321 : decode cL_call 321 = .ok (.iload_n 1, 1) := by decide +kernel
theorem dL_call_322 : decode cL_call 322 = .ok (.bipush 17, 2) := by decide +kernel
theorem dL_call_324 : decode cL_call 324 = .ok (.if_icmp .ne 12, 3) := by decide +kernel
theorem dL_call_327 : decode cL_call 327 = .ok (.aload_n 0, 1) := by decide +kernel
theorem dL_call_328 : decode cL_call 328 = .ok (.iload_n 2, 1) := by decide +kernel
theorem dL_call_329 : decode cL_call 329 = .ok (.iload_n 3, 1) := by decide +kernel
theorem dL_call_330 : decode cL_call 330 = .ok (.invokevirtual 72, 3) := by decide +kernel
theorem dL_call_333 : decode cL_call 333 = .ok (.goto 109, 3) := by decide +kernel
theorem dL_call_336 : decode cL_call 336 = .ok (.iload_n 1, 1) := by decide +kernel
theorem dL_call_337 : decode cL_call 337 = .ok (.bipush 18, 2) := by decide +kernel
theorem dL_call_339 : decode cL_call 339 = .ok (.if_icmp .ne 12, 3) := by decide +kernel
theorem dL_call_342 : decode cL_call 342 = .ok (.aload_n 0, 1) := by decide +kernel
theorem dL_call_343 : decode cL_call 343 = .ok (.iload_n 2, 1) := by decide +kernel
theorem dL_call_344 : decode cL_call 344 = .ok (.iload_n 3, 1) := by decide +kernel
theorem dL_call_345 : decode cL_call 345 = .ok (.invokevirtual 75, 3) := by decide +kernel
theorem dL_call_348 : decode cL_call 348 = .ok (.goto 94, 3) := by decide +kernel
theorem dL_call_351 : decode cL_call 351 = .ok (.iload_n 1, 1) := by decide +kernel
theorem dL_call_352 : decode cL_call 352 = .ok (.bipush 19, 2) := by decide +kernel
theorem dL_call_354 : decode cL_call 354 = .ok (.if_icmp .ne 16, 3) := by decide +kernel
theorem dL_call_357 : decode cL_call 357 = .ok (.aload_n 0, 1) := by decide +kernel
theorem dL_call_358 : decode cL_call 358 = .ok (.iload_n 2, 1) := by decide +kernel
theorem dL_call_359 : decode cL_call 359 = .ok (.iload_n 3, 1) := by decide +kernel
theorem dL_call_360 : decode cL_call 360 = .ok (.iload 6, 2) := by decide +kernel
theorem dL_call_362 : decode cL_call 362 = .ok (.iload 7, 2) := by decide +kernel
theorem dL_call_364 : decode cL_call 364 = .ok (.invokevirtual 78, 3) := by decide +kernel
theorem dL_call_367 : decode cL_call 367 = .ok (.goto 75, 3) := by decide +kernel
theorem dL_call_370 : decode cL_call 370 = .ok (.iload_n 1, 1) := by decide +kernel
theorem dL_call_371 : decode cL_call 371 = .ok (.bipush 20, 2) := by decide +kernel
theorem dL_call_373 : decode cL_call 373 = .ok (.if_icmp .ne 14, 3) := by decide +kernel
theorem dL_call_376 : decode cL_call 376 = .ok (.aload_n 0, 1) := by decide +kernel
theorem dL_call_377 : decode cL_call 377 = .ok (.iload_n 2, 1) := by decide +kernel
theorem dL_call_378 : decode cL_call 378 = .ok (.iload_n 3, 1) := by decide +kernel
theorem dL_call_379 : decode cL_call 379 = .ok (.iload 6, 2) := by decide +kernel
theorem dL_call_381 : decode cL_call 381 = .ok (.invokevirtual 81, 3) := by decide +kernel
theorem dL_call_384 : decode cL_call 384 = .ok (.goto 58, 3) := by decide +kernel
theorem dL_call_387 : decode cL_call 387 = .ok (.iload_n 1, 1) := by decide +kernel
theorem dL_call_388 : decode cL_call 388 = .ok (.bipush 21, 2) := by decide +kernel
theorem dL_call_390 : decode cL_call 390 = .ok (.if_icmp .ne 14, 3) := by decide +kernel
theorem dL_call_393 : decode cL_call 393 = .ok (.aload_n 0, 1) := by decide +kernel
theorem dL_call_394 : decode cL_call 394 = .ok (.iload_n 2, 1) := by decide +kernel
theorem dL_call_395 : decode cL_call 395 = .ok (.iload_n 3, 1) := by decide +kernel
theorem dL_call_396 : decode cL_call 396 = .ok (.iload 6, 2) := by decide +kernel
theorem dL_call_398 : decode cL_call 398 = .ok (.invokevirtual 84, 3) := by decide +kernel
theorem dL_call_401 : decode cL_call 401 = .ok (.goto 41, 3) := by decide +kernel
theorem dL_call_404 : decode cL_call 404 = .ok (.iload_n 1, 1) := by decide +kernel
theorem dL_call_405 : decode cL_call 405 = .ok (.bipush 22, 2) := by decide +kernel
theorem dL_call_407 : decode cL_call 407 = .ok (.if_icmp .ne 14, 3) := by decide +kernel
theorem dL_call_410 : decode cL_call 410 = .ok (.aload_n 0, 1) := by decide +kernel
theorem dL_call_411 : decode cL_call 411 = .ok (.iload_n 2, 1) := by decide +kernel
theorem dL_call_412 : decode cL_call 412 = .ok (.iload_n 3, 1) := by decide +kernel
theorem dL_call_413 : decode cL_call 413 = .ok (.iload 6, 2) := by decide +kernel
theorem dL_call_415 : decode cL_call 415 = .ok (.invokevirtual 87, 3) := by decide +kernel
theorem dL_call_418 : decode cL_call 418 = .ok (.goto 24, 3) := by decide +kernel
theorem dL_call_421 : decode cL_call 421 = .ok (.iload_n 1, 1) := by decide +kernel
theorem dL_call_422 : decode cL_call 422 = .ok (.bipush 23, 2) := by decide +kernel
theorem dL_call_424 : decode cL_call 424 = .ok (.if_icmp .ne 11, 3) := by decide +kernel
theorem dL_call_427 : decode cL_call 427 = .ok (.aload_n 0, 1) := by decide +kernel
theorem dL_call_428 : decode cL_call 428 = .ok (.iload_n 2, 1) := by decide +kernel
theorem dL_call_429 : decode cL_call 429 = .ok (.invokevirtual 90, 3) := by decide +kernel
theorem dL_call_432 : decode cL_call 432 = .ok (.goto 10, 3) := by decide +kernel
theorem dL_call_435 : decode cL_call 435 = .ok (.aload_n 0, 1) := by decide +kernel
theorem dL_call_436 : decode cL_call 436 = .ok (.iload_n 2, 1) := by decide +kernel
theorem dL_call_437 : decode cL_call 437 = .ok (.iload_n 3, 1) := by decide +kernel
theorem dL_call_438 : decode cL_call 438 = .ok (.invokevirtual 93, 3) := by decide +kernel
theorem dL_call_441 : decode cL_call 441 = .ok (.d2i, 1) := by decide +kernel
theorem dL_call_442 : decode cL_call 442 = .ok (.ireturn, 1) := by decide +kernel
theorem dL_call_443 : decode cL_call 443 = .ok (.astore 9, 2) := by decide +kernel
theorem dL_call_445 : decode cL_call 445 = .ok (.ldc 99, 2) := by decide +kernel
theorem dL_call_447 : decode cL_call 447 = .ok (.ireturn, 1) := by decide +kernel
theorem dL_call_448 : decode cL_call 448 = .ok (.astore 9, 2) := by decide +kernel
theorem dL_call_450 : decode cL_call 450 = .ok (.ldc 102, 2) := by decide +kernel
theorem dL_call_452 : decode cL_call 452 = .ok (.ireturn, 1) := by decide +kernel
theorem dL_call_453 : decode cL_call 453 = .ok (.astore 9, 2) := by decide +kernel
theorem dL_call_455 : decode cL_call 455 = .ok (.ldc 105, 2) := by decide +kernel
theorem dL_call_457 : decode cL_call 457 = .ok (.ireturn, 1) := by decide +kernel
theorem dL_three_0 : decode cL_three 0 = .ok (.ldc2_w 9, 3) := by decide +kernel
theorem dL_three_3 : decode cL_three 3 = .ok (.iload_n 0, 1) := by decide +kernel
theorem dL_three_4 : decode cL_three 4 = .ok (.sipush 500, 3) := by decide +kernel
theorem dL_three_7 : decode cL_three 7 = .ok (.iadd, 1) := by decide +kernel
theorem dL_three_8 : decode cL_three 8 = .ok (.i2l, 1) := by decide +kernel
theorem dL_three_9 : decode cL_three 9 = .ok (.lmul, 1) := by decide +kernel
theorem dL_three_10 : decode cL_three 10 = .ok (.ldc2_w 11, 3) := by decide +kernel
theorem dL_three_13 : decode cL_three 13 = .ok (.iload_n 1, 1) := by decide +kernel
theorem dL_three_14 : decode cL_three 14 = .ok (.sipush 500, 3) := by decide +kernel
theorem dL_three_17 : decode cL_three 17 = .ok (.iadd, 1) := by decide +kernel
theorem dL_three_18 : decode cL_three 18 = .ok (.i2l, 1) := by decide +kernel
theorem dL_three_19 : decode cL_three 19 = .ok (.lmul, 1) := by decide +kernel
theorem dL_three_20 : decode cL_three 20 = .ok (.ladd, 1) := by decide +kernel
theorem dL_three_21 : decode cL_three 21 = .ok (.iload_n 2, 1) := by decide +kernel
theorem dL_three_22 : decode cL_three 22 = .ok (.i2l, 1) := by decide +kernel
theorem dL_three_23 : decode cL_three 23 = .ok (.ladd, 1) := by decide +kernel
theorem dL_three_24 : decode cL_three 24 = .ok (.ldc2_w 106, 3) := by decide +kernel
theorem dL_three_27 : decode cL_three 27 = .ok (.ladd, 1) := by decide +kernel
theorem dL_three_28 : decode cL_three 28 = .ok (.lreturn, 1) := by decide +kernel
theorem dL_seen_0 : decode cL_seen 0 = .ok (.ldc2_w 108, 3) := by decide +kernel
theorem dL_seen_3 : decode cL_seen 3 = .ok (.lstore_n 1, 1) := by decide +kernel
theorem dL_seen_4 : decode cL_seen 4 = .ok (.iconst 0, 1) := by decide +kernel
theorem dL_seen_5 : decode cL_seen 5 = .ok (.istore_n 3, 1) := by decide +kernel
theorem dL_seen_6 : decode cL_seen 6 = .ok (.iload_n 3, 1) := by decide +kernel
theorem dL_seen_7 : decode cL_seen 7 = .ok (.bipush 6, 2) := by decide +kernel
theorem dL_seen_9 : decode cL_seen 9 = .ok (.if_icmp .ge 22, 3) := by decide +kernel
theorem dL_seen_12 : decode cL_seen 12 = .ok (.ldc2_w 110, 3) := by decide +kernel
theorem dL_seen_15 : decode cL_seen 15 = .ok (.lload_n 1, 1) := by decide +kernel
theorem dL_seen_16 : decode cL_seen 16 = .ok (.lmul, 1) := by decide +kernel
theorem dL_seen_17 : decode cL_seen 17 = .ok (.aload_n 0, 1) := by decide +kernel
theorem dL_seen_18 : decode cL_seen 18 = .ok (.iload_n 3, 1) := by decide +kernel
theorem dL_seen_19 : decode cL_seen 19 = .ok (.invokevirtual 90, 3) := by decide +kernel
theorem dL_seen_22 : decode cL_seen 22 = .ok (.i2l, 1) := by decide +kernel
theorem dL_seen_23 : decode cL_seen 23 = .ok (.ladd, 1) := by decide +kernel
theorem dL_seen_24 : decode cL_seen 24 = .ok (.lstore_n 1, 1) := by decide +kernel
theorem dL_seen_25 : decode cL_seen 25 = .ok (.iinc 3 1, 3) := by decide +kernel
theorem dL_seen_28 : decode cL_seen 28 = .ok (.goto (-22), 3) := by decide +kernel
theorem dL_seen_31 : decode cL_seen 31 = .ok (.iconst 0, 1) := by decide +kernel
theorem dL_seen_32 : decode cL_seen 32 = .ok (.istore_n 3, 1) := by decide +kernel
theorem dL_seen_33 : decode cL_seen 33 = .ok (.iload_n 3, 1) := by decide +kernel
theorem dL_seen_34 : decode cL_seen 34 = .ok (.iconst 4, 1) := by decide +kernel
theorem dL_seen_35 : decode cL_seen 35 = .ok (.aload_n 0, 1) := by decide +kernel
theorem dL_seen_36 : decode cL_seen 36 = .ok (.iconst 0, 1) := by decide +kernel
theorem dL_seen_37 : decode cL_seen 37 = .ok (.invokevirtual 90, 3) := by decide +kernel
theorem dL_seen_40 : decode cL_seen 40 = .ok (.imul, 1) := by decide +kernel
theorem dL_seen_41 : decode cL_seen 41 = .ok (.if_icmp .ge 28, 3) := by decide +kernel
theorem dL_seen_44 : decode cL_seen 44 = .ok (.ldc2_w 110, 3) := by decide +kernel
theorem dL_seen_47 : decode cL_seen 47 = .ok (.lload_n 1, 1) := by decide +kernel
theorem dL_seen_48 : decode cL_seen 48 = .ok (.lmul, 1) := by decide +kernel
theorem dL_seen_49 : decode cL_seen 49 = .ok (.aload_n 0, 1) := by decide +kernel
theorem dL_seen_50 : decode cL_seen 50 = .ok (.iconst 0, 1) := by decide +kernel
theorem dL_seen_51 : decode cL_seen 51 = .ok (.iload_n 3, 1) := by decide +kernel
theorem dL_seen_52 : decode cL_seen 52 = .ok (.iconst 4, 1) := by decide +kernel
theorem dL_seen_53 : decode cL_seen 53 = .ok (.idiv, 1) := by decide +kernel
theorem dL_seen_54 : decode cL_seen 54 = .ok (.iload_n 3, 1) := by decide +kernel
theorem dL_seen_55 : decode cL_seen 55 = .ok (.iconst 4, 1) := by decide +kernel
theorem dL_seen_56 : decode cL_seen 56 = .ok (.irem, 1) := by decide +kernel
theorem dL_seen_57 : decode cL_seen 57 = .ok (.invokevirtual 56, 3) := by decide +kernel
theorem dL_seen_60 : decode cL_seen 60 = .ok (.i2l, 1) := by decide +kernel
theorem dL_seen_61 : decode cL_seen 61 = .ok (.ladd, 1) := by decide +kernel
theorem dL_seen_62 : decode cL_seen 62 = .ok (.lstore_n 1, 1) := by decide +kernel
theorem dL_seen_63 : decode cL_seen 63 = .ok (.iinc 3 1, 3) := by decide +kernel
theorem dL_seen_66 : decode cL_seen 66 = .ok (.goto (-33), 3) := by decide +kernel
theorem dL_seen_69 : decode cL_seen 69 = .ok (.iconst 0, 1) := by decide +kernel
theorem dL_seen_70 : decode cL_seen 70 = .ok (.istore_n 3, 1) := by decide +kernel
theorem dL_seen_71 : decode cL_seen 71 = .ok (.iload_n 3, 1) := by decide +kernel
theorem dL_seen_72 : decode cL_seen 72 = .ok (.iconst 4, 1) := by decide +kernel
theorem dL_seen_73 : decode cL_seen 73 = .ok (.aload_n 0, 1) := by decide +kernel
theorem dL_seen_74 : decode cL_seen 74 = .ok (.iconst 1, 1) := by decide +kernel
theorem dL_seen_75 : decode cL_seen 75 = .ok (.invokevirtual 90, 3) := by decide +kernel
theorem dL_seen_78 : decode cL_seen 78 = .ok (.imul, 1) := by decide +kernel
theorem dL_seen_79 : decode cL_seen 79 = .ok (.if_icmp .ge 28, 3) := by decide +kernel
theorem dL_seen_82 : decode cL_seen 82 = .ok (.ldc2_w 110, 3) := by decide +kernel
theorem dL_seen_85 : decode cL_seen 85 = .ok (.lload_n 1, 1) := by decide +kernel
theorem dL_seen_86 : decode cL_seen 86 = .ok (.lmul, 1) := by decide +kernel
theorem dL_seen_87 : decode cL_seen 87 = .ok (.aload_n 0, 1) := by decide +kernel
theorem dL_seen_88 : decode cL_seen 88 = .ok (.iconst 1, 1) := by decide +kernel
theorem dL_seen_89 : decode cL_seen 89 = .ok (.iload_n 3, 1) := by decide +kernel
theorem dL_seen_90 : decode cL_seen 90 = .ok (.iconst 4, 1) := by decide +kernel
theorem dL_seen_91 : decode cL_seen 91 = .ok (.idiv, 1) := by decide +kernel
theorem dL_seen_92 : decode cL_seen 92 = .ok (.iload_n 3, 1) := by decide +kernel
theorem dL_seen_93 : decode cL_seen 93 = .ok (.iconst 4, 1) := by decide +kernel
theorem dL_seen_94 : decode cL_seen 94 = .ok (.irem, 1) := by decide +kernel
theorem dL_seen_95 : decode cL_seen 95 = .ok (.invokevirtual 56, 3) := by decide +kernel
theorem dL_seen_98 : decode cL_seen 98 = .ok (.i2l, 1) := by decide +kernel
theorem dL_seen_99 : decode cL_seen 99 = .ok (.ladd, 1) := by decide +kernel
theorem dL_seen_100 : decode cL_seen 100 = .ok (.lstore_n 1, 1) := by decide +kernel
theorem dL_seen_101 : decode cL_seen 101 = .ok (.iinc 3 1, 3) := by decide +kernel
theorem dL_seen_104 : decode cL_seen 104 = .ok (.goto (-33), 3) := by decide +kernel
theorem dL_seen_107 : decode cL_seen 107 = .ok (.iconst 0, 1) := by decide +kernel
theorem dL_seen_108 : decode cL_seen 108 = .ok (.istore_n 3, 1) := by decide +kernel
theorem dL_seen_109 : decode cL_seen 109 = .ok (.iload_n 3, 1) := by decide +kernel
theorem dL_seen_110 : decode cL_seen 110 = .ok (.bipush 6, 2) := by decide +kernel
theorem dL_seen_112 : decode cL_seen 112 = .ok (.if_icmp .ge 74, 3) := by decide +kernel
theorem dL_seen_115 : decode cL_seen 115 = .ok (.iconst 0, 1) := by decide +kernel
theorem dL_seen_116 : decode cL_seen 116 = .ok (.istore 4, 2) := by decide +kernel
theorem dL_seen_118 : decode cL_seen 118 = .ok (.iload 4, 2) := by decide +kernel
theorem dL_seen_120 : decode cL_seen 120 = .ok (.aload_n 0, 1) := by decide +kernel
theorem dL_seen_121 : decode cL_seen 121 = .ok (.iload_n 3, 1) := by decide +kernel
theorem dL_seen_122 : decode cL_seen 122 = .ok (.iconst 4, 1) := by decide +kernel
theorem dL_seen_123 : decode cL_seen 123 = .ok (.invokevirtual 72, 3) := by decide +kernel
theorem dL_seen_126 : decode cL_seen 126 = .ok (.if_icmp .ge 24, 3) := by decide +kernel
theorem dL_seen_129 : decode cL_seen 129 = .ok (.ldc2_w 110, 3) := by decide +kernel
theorem dL_seen_132 : decode cL_seen 132 = .ok (.lload_n 1, 1) := by decide +kernel
theorem dL_seen_133 : decode cL_seen 133 = .ok (.lmul, 1) := by decide +kernel
theorem dL_seen_134 : decode cL_seen 134 = .ok (.aload_n 0, 1) := by decide +kernel
theorem dL_seen_135 : decode cL_seen 135 = .ok (.iload_n 3, 1) := by decide +kernel
theorem dL_seen_136 : decode cL_seen 136 = .ok (.iload 4, 2) := by decide +kernel
theorem dL_seen_138 : decode cL_seen 138 = .ok (.invokevirtual 75, 3) := by decide +kernel
theorem dL_seen_141 : decode cL_seen 141 = .ok (.i2l, 1) := by decide +kernel
theorem dL_seen_142 : decode cL_seen 142 = .ok (.ladd, 1) := by decide +kernel
theorem dL_seen_143 : decode cL_seen 143 = .ok (.lstore_n 1, 1) := by decide +kernel
theorem dL_seen_144 : decode cL_seen 144 = .ok (.iinc 4 1, 3) := by decide +kernel
theorem dL_seen_147 : decode cL_seen 147 = .ok (.goto (-29), 3) := by decide +kernel
theorem dL_seen_150 : decode cL_seen 150 = .ok (.ldc2_w 110, 3) := by decide +kernel
theorem dL_seen_153 : decode cL_seen 153 = .ok (.ldc2_w 110, 3) := by decide +kernel
theorem dL_seen_156 : decode cL_seen 156 = .ok (.lload_n 1, 1) := by decide +kernel
theorem dL_seen_157 : decode cL_seen 157 = .ok (.lmul, 1) := by decide +kernel
theorem dL_seen_158 : decode cL_seen 158 = .ok (.aload_n 0, 1) := by decide +kernel
theorem dL_seen_159 : decode cL_seen 159 = .ok (.iconst 0, 1) := by decide +kernel
theorem dL_seen_160 : decode cL_seen 160 = .ok (.iload_n 3, 1) := by decide +kernel
theorem dL_seen_161 : decode cL_seen 161 = .ok (.iconst 2, 1) := by decide +kernel
theorem dL_seen_162 : decode cL_seen 162 = .ok (.iconst 0, 1) := by decide +kernel
theorem dL_seen_163 : decode cL_seen 163 = .ok (.invokevirtual 69, 3) := by decide +kernel
theorem dL_seen_166 : decode cL_seen 166 = .ok (.i2l, 1) := by decide +kernel
theorem dL_seen_167 : decode cL_seen 167 = .ok (.ladd, 1) := by decide +kernel
theorem dL_seen_168 : decode cL_seen 168 = .ok (.lmul, 1) := by decide +kernel
theorem dL_seen_169 : decode cL_seen 169 = .ok (.aload_n 0, 1) := by decide +kernel
theorem dL_seen_170 : decode cL_seen 170 = .ok (.iconst 1, 1) := by decide +kernel
theorem dL_seen_171 : decode cL_seen 171 = .ok (.iload_n 3, 1) := by decide +kernel
theorem dL_seen_172 : decode cL_seen 172 = .ok (.iconst 1, 1) := by decide +kernel
theorem dL_seen_173 : decode cL_seen 173 = .ok (.iconst 1, 1) := by decide +kernel
theorem dL_seen_174 : decode cL_seen 174 = .ok (.invokevirtual 69, 3) := by decide +kernel
theorem dL_seen_177 : decode cL_seen 177 = .ok (.i2l, 1) := by decide +kernel
theorem dL_seen_178 : decode cL_seen 178 = .ok (.ladd, 1) := by decide +kernel
theorem dL_seen_179 : decode cL_seen 179 = .ok (.lstore_n 1, 1) := by decide +kernel
theorem dL_seen_180 : decode cL_seen 180 = .ok (.iinc 3 1, 3) := by decide +kernel
theorem dL_seen_183 : decode cL_seen 183 = .ok (.goto (-74), 3) := by decide +kernel
theorem dL_seen_186 : decode cL_seen 186 = .ok (.lload_n 1, 1) := by decide +kernel
theorem dL_seen_187 : decode cL_seen 187 = .ok (.lreturn, 1) := by decide +kernel
theorem dL_far_0 : decode cL_far 0 = .ok (.iload_n 0, 1) := by decide +kernel
theorem dL_far_1 : decode cL_far 1 = .ok (.ifCond .ne 9, 3) := by decide +kernel
theorem dL_far_4 : decode cL_far 4 = .ok (.iload_n 1, 1) := by decide +kernel
theorem dL_far_5 : decode cL_far 5 = .ok (.iconst 1, 1) := by decide +kernel
theorem dL_far_6 : decode cL_far 6 = .ok (.isub, 1) := by decide +kernel
theorem dL_far_7 : decode cL_far 7 = .ok (.goto 28, 3) := by decide +kernel
theorem dL_far_10 : decode cL_far 10 = .ok (.iload_n 0, 1) := by decide +kernel
theorem dL_far_11 : decode cL_far 11 = .ok (.iconst 1, 1) := by decide +kernel
theorem dL_far_12 : decode cL_far 12 = .ok (.if_icmp .ne 9, 3) := by decide +kernel
theorem dL_far_15 : decode cL_far 15 = .ok (.iload_n 2, 1) := by decide +kernel
theorem dL_far_16 : decode cL_far 16 = .ok (.iconst 1, 1) := by decide +kernel
theorem dL_far_17 : decode cL_far 17 = .ok (.iadd, 1) := by decide +kernel
theorem dL_far_18 : decode cL_far 18 = .ok (.goto 17, 3) := by decide +kernel
theorem dL_far_21 : decode cL_far 21 = .ok (.iload_n 0, 1) := by decide +kernel
theorem dL_far_22 : decode cL_far 22 = .ok (.iconst 2, 1) := by decide +kernel
theorem dL_far_23 : decode cL_far 23 = .ok (.if_icmp .ne 9, 3) := by decide +kernel
theorem dL_far_26 : decode cL_far 26 = .ok (.sipush (-500), 3) := by decide +kernel
theorem dL_far_29 : decode cL_far 29 = .ok (.goto 6, 3) := by decide +kernel
theorem dL_far_32 : decode cL_far 32 = .ok (.sipush 499, 3) := by decide +kernel
theorem dL_far_35 : decode cL_far 35 = .ok (.ireturn, 1) := by decide +kernel
theorem dL_wide_0 : decode cL_wide 0 = .ok (.iload_n 0, 1) := by decide +kernel
theorem dL_wide_1 : decode cL_wide 1 = .ok (.ifCond .ne 9, 3) := by decide +kernel
theorem dL_wide_4 : decode cL_wide 4 = .ok (.iload_n 1, 1) := by decide +kernel
theorem dL_wide_5 : decode cL_wide 5 = .ok (.iconst 1, 1) := by decide +kernel
theorem dL_wide_6 : decode cL_wide 6 = .ok (.isub, 1) := by decide +kernel
theorem dL_wide_7 : decode cL_wide 7 = .ok (.goto 26, 3) := by decide +kernel
theorem dL_wide_10 : decode cL_wide 10 = .ok (.iload_n 0, 1) := by decide +kernel
theorem dL_wide_11 : decode cL_wide 11 = .ok (.iconst 1, 1) := by decide +kernel
theorem dL_wide_12 : decode cL_wide 12 = .ok (.if_icmp .ne 9, 3) := by decide +kernel
theorem dL_wide_15 : decode cL_wide 15 = .ok (.iload_n 2, 1) := by decide +kernel
theorem dL_wide_16 : decode cL_wide 16 = .ok (.iconst 1, 1) := by decide +kernel
theorem dL_wide_17 : decode cL_wide 17 = .ok (.iadd, 1) := by decide +kernel
theorem dL_wide_18 : decode cL_wide 18 = .ok (.goto 15, 3) := by decide +kernel
theorem dL_wide_21 : decode cL_wide 21 = .ok (.iload_n 0, 1) := by decide +kernel
theorem dL_wide_22 : decode cL_wide 22 = .ok (.iconst 2, 1) := by decide +kernel
theorem dL_wide_23 : decode cL_wide 23 = .ok (.if_icmp .ne 8, 3) := by decide +kernel
theorem dL_wide_26 : decode cL_wide 26 = .ok (.ldc 112, 2) := by decide +kernel
theorem dL_wide_28 : decode cL_wide 28 = .ok (.goto 5, 3) := by decide +kernel
theorem dL_wide_31 : decode cL_wide 31 = .ok (.ldc 7, 2) := by decide +kernel
theorem dL_wide_33 : decode cL_wide 33 = .ok (.ireturn, 1) := by decide +kernel
theorem dL_refusesTables_0 : decode cL_refusesTables 0 = .ok (.iload_n 1, 1) := by decide +kernel
theorem dL_refusesTables_1 : decode cL_refusesTables 1 = .ok (.iconst 0, 1) := by decide +kernel
theorem dL_refusesTables_2 : decode cL_refusesTables 2 = .ok (.iconst 1, 1) := by decide +kernel
theorem dL_refusesTables_3 : decode cL_refusesTables 3 = .ok (.invokestatic 113, 3) := by decide +kernel
theorem dL_refusesTables_6 : decode cL_refusesTables 6 = .ok (.istore_n 2, 1) := by decide +kernel
theorem dL_refusesTables_7 : decode cL_refusesTables 7 = .ok (.iload_n 1, 1) := by decide +kernel
theorem dL_refusesTables_8 : decode cL_refusesTables 8 = .ok (.iconst 0, 1) := by decide +kernel
theorem dL_refusesTables_9 : decode cL_refusesTables 9 = .ok (.aload_n 0, 1) := by decide +kernel
theorem dL_refusesTables_10 : decode cL_refusesTables 10 = .ok (.iconst 0, 1) := by decide +kernel
theorem dL_refusesTables_11 : decode cL_refusesTables 11 = .ok (.invokevirtual 90, 3) := by decide +kernel
theorem dL_refusesTables_14 : decode cL_refusesTables 14 = .ok (.iconst 1, 1) := by decide +kernel
theorem dL_refusesTables_15 : decode cL_refusesTables 15 = .ok (.isub, 1) := by decide +kernel
theorem dL_refusesTables_16 : decode cL_refusesTables 16 = .ok (.invokestatic 113, 3) := by decide +kernel
theorem dL_refusesTables_19 : decode cL_refusesTables 19 = .ok (.istore_n 3, 1) := by decide +kernel
theorem dL_refusesTables_20 : decode cL_refusesTables 20 = .ok (.iload_n 1, 1) := by decide +kernel
theorem dL_refusesTables_21 : decode cL_refusesTables 21 = .ok (.iconst (-1), 1) := by decide +kernel
theorem dL_refusesTables_22 : decode cL_refusesTables 22 = .ok (.bipush 99, 2) := by decide +kernel
theorem dL_refusesTables_24 : decode cL_refusesTables 24 = .ok (.invokestatic 118, 3) := by decide +kernel
theorem dL_refusesTables_27 : decode cL_refusesTables 27 = .ok (.istore 4, 2) := by decide +kernel
theorem dL_refusesTables_29 : decode cL_refusesTables 29 = .ok (.aload_n 0, 1) := by decide +kernel
theorem dL_refusesTables_30 : decode cL_refusesTables 30 = .ok (.iconst 0, 1) := by decide +kernel
theorem dL_refusesTables_31 : decode cL_refusesTables 31 = .ok (.iload_n 2, 1) := by decide +kernel
theorem dL_refusesTables_32 : decode cL_refusesTables 32 = .ok (.sipush 999, 3) := by decide +kernel
theorem dL_refusesTables_35 : decode cL_refusesTables 35 = .ok (.lconst 0, 1) := by decide +kernel
theorem dL_refusesTables_36 : decode cL_refusesTables 36 = .ok (.invokestatic 121, 3) := by decide +kernel
theorem dL_refusesTables_39 : decode cL_refusesTables 39 = .ok (.ldc 99, 2) := by decide +kernel
theorem dL_refusesTables_41 : decode cL_refusesTables 41 = .ok (.if_icmp .ne 325, 3) := by decide +kernel
theorem dL_refusesTables_44 : decode cL_refusesTables 44 = .ok (.aload_n 0, 1) := by decide +kernel
theorem dL_refusesTables_45 : decode cL_refusesTables 45 = .ok (.iconst 0, 1) := by decide +kernel
theorem dL_refusesTables_46 : decode cL_refusesTables 46 = .ok (.iconst 0, 1) := by decide +kernel
theorem dL_refusesTables_47 : decode cL_refusesTables 47 = .ok (.iload_n 1, 1) := by decide +kernel
theorem dL_refusesTables_48 : decode cL_refusesTables 48 = .ok (.iconst (-1), 1) := by decide +kernel
theorem dL_refusesTables_49 : decode cL_refusesTables 49 = .ok (.bipush 99, 2) := by decide +kernel
theorem dL_refusesTables_51 : decode cL_refusesTables 51 = .ok (.invokestatic 113, 3) := by decide +kernel
theorem dL_refusesTables_54 : decode cL_refusesTables 54 = .ok (.iconst 0, 1) := by decide +kernel
theorem dL_refusesTables_55 : decode cL_refusesTables 55 = .ok (.iconst 0, 1) := by decide +kernel
theorem dL_refusesTables_56 : decode cL_refusesTables 56 = .ok (.iconst 0, 1) := by decide +kernel
theorem dL_refusesTables_57 : decode cL_refusesTables 57 = .ok (.invokestatic 125, 3) := by decide +kernel
theorem dL_refusesTables_60 : decode cL_refusesTables 60 = .ok (.invokestatic 121, 3) := by decide +kernel
theorem dL_refusesTables_63 : decode cL_refusesTables 63 = .ok (.ldc 102, 2) := by decide +kernel
theorem dL_refusesTables_65 : decode cL_refusesTables 65 = .ok (.if_icmp .ne 301, 3) := by decide +kernel
theorem dL_refusesTables_68 : decode cL_refusesTables 68 = .ok (.aload_n 0, 1) := by decide +kernel
theorem dL_refusesTables_69 : decode cL_refusesTables 69 = .ok (.iconst 0, 1) := by decide +kernel
theorem dL_refusesTables_70 : decode cL_refusesTables 70 = .ok (.iconst 0, 1) := by decide +kernel
theorem dL_refusesTables_71 : decode cL_refusesTables 71 = .ok (.iconst 0, 1) := by decide +kernel
theorem dL_refusesTables_72 : decode cL_refusesTables 72 = .ok (.iload 4, 2) := by decide +kernel
theorem dL_refusesTables_74 : decode cL_refusesTables 74 = .ok (.iconst 0, 1) := by decide +kernel
theorem dL_refusesTables_75 : decode cL_refusesTables 75 = .ok (.iconst 0, 1) := by decide +kernel
theorem dL_refusesTables_76 : decode cL_refusesTables 76 = .ok (.invokestatic 125, 3) := by decide +kernel
theorem dL_refusesTables_79 : decode cL_refusesTables 79 = .ok (.invokestatic 121, 3) := by decide +kernel
theorem dL_refusesTables_82 : decode cL_refusesTables 82 = .ok (.ldc 102, 2) := by decide +kernel
theorem dL_refusesTables_84 : decode cL_refusesTables 84 = .ok (.if_icmp .ne 282, 3) := by decide +kernel
theorem dL_refusesTables_87 : decode cL_refusesTables 87 = .ok (.aload_n 0, 1) := by decide +kernel
theorem dL_refusesTables_88 : decode cL_refusesTables 88 = .ok (.iconst 0, 1) := by decide +kernel
theorem dL_refusesTables_89 : decode cL_refusesTables 89 = .ok (.iconst 1, 1) := by decide +kernel
theorem dL_refusesTables_90 : decode cL_refusesTables 90 = .ok (.iconst 0, 1) := by decide +kernel
theorem dL_refusesTables_91 : decode cL_refusesTables 91 = .ok (.iconst 0, 1) := by decide +kernel
theorem dL_refusesTables_92 : decode cL_refusesTables 92 = .ok (.iload 4, 2) := by decide +kernel
theorem dL_refusesTables_94 : decode cL_refusesTables 94 = .ok (.iconst 0, 1) := by decide +kernel
theorem dL_refusesTables_95 : decode cL_refusesTables 95 = .ok (.invokestatic 125, 3) := by decide +kernel
theorem dL_refusesTables_98 : decode cL_refusesTables 98 = .ok (.invokestatic 121, 3) := by decide +kernel
theorem dL_refusesTables_101 : decode cL_refusesTables 101 = .ok (.ldc 102, 2) := by decide +kernel
theorem dL_refusesTables_103 : decode cL_refusesTables 103 = .ok (.if_icmp .ne 263, 3) := by decide +kernel
theorem dL_refusesTables_106 : decode cL_refusesTables 106 = .ok (.aload_n 0, 1) := by decide +kernel
theorem dL_refusesTables_107 : decode cL_refusesTables 107 = .ok (.iconst 0, 1) := by decide +kernel
theorem dL_refusesTables_108 : decode cL_refusesTables 108 = .ok (.iconst 1, 1) := by decide +kernel
theorem dL_refusesTables_109 : decode cL_refusesTables 109 = .ok (.iconst 0, 1) := by decide +kernel
theorem dL_refusesTables_110 : decode cL_refusesTables 110 = .ok (.iconst 0, 1) := by decide +kernel
theorem dL_refusesTables_111 : decode cL_refusesTables 111 = .ok (.iconst 0, 1) := by decide +kernel
theorem dL_refusesTables_112 : decode cL_refusesTables 112 = .ok (.iload 4, 2) := by decide +kernel
theorem dL_refusesTables_114 : decode cL_refusesTables 114 = .ok (.invokestatic 125, 3) := by decide +kernel
theorem dL_refusesTables_117 : decode cL_refusesTables 117 = .ok (.invokestatic 121, 3) := by decide +kernel
theorem dL_refusesTables_120 : decode cL_refusesTables 120 = .ok (.ldc 102, 2) := by decide +kernel
theorem dL_refusesTables_122 : decode cL_refusesTables 122 = .ok (.if_icmp .ne 244, 3) := by decide +kernel
theorem dL_refusesTables_125 : decode cL_refusesTables 125 = .ok (.aload_n 0, 1) := by decide +kernel
theorem dL_refusesTables_126 : decode cL_refusesTables 126 = .ok (.iconst 1, 1) := by decide +kernel
theorem dL_refusesTables_127 : decode cL_refusesTables 127 = .ok (.iload_n 2, 1) := by decide +kernel
theorem dL_refusesTables_128 : decode cL_refusesTables 128 = .ok (.iconst 0, 1) := by decide +kernel
theorem dL_refusesTables_129 : decode cL_refusesTables 129 = .ok (.bipush 9, 2) := by decide +kernel
theorem dL_refusesTables_131 : decode cL_refusesTables 131 = .ok (.sipush 400, 3) := by decide +kernel
theorem dL_refusesTables_134 : decode cL_refusesTables 134 = .ok (.iconst 0, 1) := by decide +kernel
theorem dL_refusesTables_135 : decode cL_refusesTables 135 = .ok (.invokestatic 125, 3) := by decide +kernel
theorem dL_refusesTables_138 : decode cL_refusesTables 138 = .ok (.invokestatic 121, 3) := by decide +kernel
theorem dL_refusesTables_141 : decode cL_refusesTables 141 = .ok (.ldc 99, 2) := by decide +kernel
theorem dL_refusesTables_143 : decode cL_refusesTables 143 = .ok (.if_icmp .ne 223, 3) := by decide +kernel
theorem dL_refusesTables_146 : decode cL_refusesTables 146 = .ok (.aload_n 0, 1) := by decide +kernel
theorem dL_refusesTables_147 : decode cL_refusesTables 147 = .ok (.iconst 1, 1) := by decide +kernel
theorem dL_refusesTables_148 : decode cL_refusesTables 148 = .ok (.iconst 0, 1) := by decide +kernel
theorem dL_refusesTables_149 : decode cL_refusesTables 149 = .ok (.iload_n 3, 1) := by decide +kernel
theorem dL_refusesTables_150 : decode cL_refusesTables 150 = .ok (.iconst 0, 1) := by decide +kernel
theorem dL_refusesTables_151 : decode cL_refusesTables 151 = .ok (.sipush 400, 3) := by decide +kernel
theorem dL_refusesTables_154 : decode cL_refusesTables 154 = .ok (.iconst 0, 1) := by decide +kernel
theorem dL_refusesTables_155 : decode cL_refusesTables 155 = .ok (.invokestatic 125, 3) := by decide +kernel
theorem dL_refusesTables_158 : decode cL_refusesTables 158 = .ok (.invokestatic 121, 3) := by decide +kernel
theorem dL_refusesTables_161 : decode cL_refusesTables 161 = .ok (.ldc 99, 2) := by decide +kernel
theorem dL_refusesTables_163 : decode cL_refusesTables 163 = .ok (.if_icmp .ne 203, 3) := by decide +kernel
theorem dL_refusesTables_166 : decode cL_refusesTables 166 = .ok (.aload_n 0, 1) := by decide +kernel
theorem dL_refusesTables_167 : decode cL_refusesTables 167 = .ok (.iconst 2, 1) := by decide +kernel
theorem dL_refusesTables_168 : decode cL_refusesTables 168 = .ok (.iload_n 2, 1) := by decide +kernel
theorem dL_refusesTables_169 : decode cL_refusesTables 169 = .ok (.iconst 0, 1) := by decide +kernel
theorem dL_refusesTables_170 : decode cL_refusesTables 170 = .ok (.lconst 0, 1) := by decide +kernel
theorem dL_refusesTables_171 : decode cL_refusesTables 171 = .ok (.invokestatic 121, 3) := by decide +kernel
theorem dL_refusesTables_174 : decode cL_refusesTables 174 = .ok (.ldc 99, 2) := by decide +kernel
theorem dL_refusesTables_176 : decode cL_refusesTables 176 = .ok (.if_icmp .ne 190, 3) := by decide +kernel
theorem dL_refusesTables_179 : decode cL_refusesTables 179 = .ok (.aload_n 0, 1) := by decide +kernel
theorem dL_refusesTables_180 : decode cL_refusesTables 180 = .ok (.iconst 2, 1) := by decide +kernel
theorem dL_refusesTables_181 : decode cL_refusesTables 181 = .ok (.iconst 0, 1) := by decide +kernel
theorem dL_refusesTables_182 : decode cL_refusesTables 182 = .ok (.iload_n 3, 1) := by decide +kernel
theorem dL_refusesTables_183 : decode cL_refusesTables 183 = .ok (.lconst 0, 1) := by decide +kernel
theorem dL_refusesTables_184 : decode cL_refusesTables 184 = .ok (.invokestatic 121, 3) := by decide +kernel
theorem dL_refusesTables_187 : decode cL_refusesTables 187 = .ok (.ldc 99, 2) := by decide +kernel
theorem dL_refusesTables_189 : decode cL_refusesTables 189 = .ok (.if_icmp .ne 177, 3) := by decide +kernel
theorem dL_refusesTables_192 : decode cL_refusesTables 192 = .ok (.aload_n 0, 1) := by decide +kernel
theorem dL_refusesTables_193 : decode cL_refusesTables 193 = .ok (.bipush 12, 2) := by decide +kernel
theorem dL_refusesTables_195 : decode cL_refusesTables 195 = .ok (.iload_n 2, 1) := by decide +kernel
theorem dL_refusesTables_196 : decode cL_refusesTables 196 = .ok (.iconst 0, 1) := by decide +kernel
theorem dL_refusesTables_197 : decode cL_refusesTables 197 = .ok (.iconst 0, 1) := by decide +kernel
theorem dL_refusesTables_198 : decode cL_refusesTables 198 = .ok (.iconst 0, 1) := by decide +kernel
theorem dL_refusesTables_199 : decode cL_refusesTables 199 = .ok (.iconst 0, 1) := by decide +kernel
theorem dL_refusesTables_200 : decode cL_refusesTables 200 = .ok (.invokestatic 125, 3) := by decide +kernel
theorem dL_refusesTables_203 : decode cL_refusesTables 203 = .ok (.invokestatic 121, 3) := by decide +kernel
theorem dL_refusesTables_206 : decode cL_refusesTables 206 = .ok (.ldc 99, 2) := by decide +kernel
theorem dL_refusesTables_208 : decode cL_refusesTables 208 = .ok (.if_icmp .ne 158, 3) := by decide +kernel
theorem dL_refusesTables_211 : decode cL_refusesTables 211 = .ok (.aload_n 0, 1) := by decide +kernel
theorem dL_refusesTables_212 : decode cL_refusesTables 212 = .ok (.bipush 12, 2) := by decide +kernel
theorem dL_refusesTables_214 : decode cL_refusesTables 214 = .ok (.iconst 0, 1) := by decide +kernel
theorem dL_refusesTables_215 : decode cL_refusesTables 215 = .ok (.iload_n 3, 1) := by decide +kernel
theorem dL_refusesTables_216 : decode cL_refusesTables 216 = .ok (.iconst 0, 1) := by decide +kernel
theorem dL_refusesTables_217 : decode cL_refusesTables 217 = .ok (.iconst 0, 1) := by decide +kernel
theorem dL_refusesTables_218 : decode cL_refusesTables 218 = .ok (.iconst 0, 1) := by decide +kernel
theorem dL_refusesTables_219 : decode cL_refusesTables 219 = .ok (.invokestatic 125, 3) := by decide +kernel
theorem dL_refusesTables_222 : decode cL_refusesTables 222 = .ok (.invokestatic 121, 3) := by decide +kernel
theorem dL_refusesTables_225 : decode cL_refusesTables 225 = .ok (.ldc 99, 2) := by decide +kernel
theorem dL_refusesTables_227 : decode cL_refusesTables 227 = .ok (.if_icmp .ne 139, 3) := by decide +kernel
theorem dL_refusesTables_230 : decode cL_refusesTables 230 = .ok (.aload_n 0, 1) := by decide +kernel
theorem dL_refusesTables_231 : decode cL_refusesTables 231 = .ok (.bipush 13, 2) := by decide +kernel
theorem dL_refusesTables_233 : decode cL_refusesTables 233 = .ok (.iload_n 2, 1) := by decide +kernel
theorem dL_refusesTables_234 : decode cL_refusesTables 234 = .ok (.bipush 9, 2) := by decide +kernel
theorem dL_refusesTables_236 : decode cL_refusesTables 236 = .ok (.lconst 0, 1) := by decide +kernel
theorem dL_refusesTables_237 : decode cL_refusesTables 237 = .ok (.invokestatic 121, 3) := by decide +kernel
theorem dL_refusesTables_240 : decode cL_refusesTables 240 = .ok (.ldc 99, 2) := by decide +kernel
theorem dL_refusesTables_242 : decode cL_refusesTables 242 = .ok (.if_icmp .ne 124, 3) := by decide +kernel
theorem dL_refusesTables_245 : decode cL_refusesTables 245 = .ok (.aload_n 0, 1) := by decide +kernel
theorem dL_refusesTables_246 : decode cL_refusesTables 246 = .ok (.bipush 13, 2) := by decide +kernel
theorem dL_refusesTables_248 : decode cL_refusesTables 248 = .ok (.iconst 1, 1) := by decide +kernel
theorem dL_refusesTables_249 : decode cL_refusesTables 249 = .ok (.iload_n 1, 1) := by decide +kernel
theorem dL_refusesTables_250 : decode cL_refusesTables 250 = .ok (.iconst 0, 1) := by decide +kernel
theorem dL_refusesTables_251 : decode cL_refusesTables 251 = .ok (.iconst 3, 1) := by decide +kernel
theorem dL_refusesTables_252 : decode cL_refusesTables 252 = .ok (.invokestatic 113, 3) := by decide +kernel
theorem dL_refusesTables_255 : decode cL_refusesTables 255 = .ok (.lconst 0, 1) := by decide +kernel
theorem dL_refusesTables_256 : decode cL_refusesTables 256 = .ok (.invokestatic 121, 3) := by decide +kernel
theorem dL_refusesTables_259 : decode cL_refusesTables 259 = .ok (.ldc 99, 2) := by decide +kernel
theorem dL_refusesTables_261 : decode cL_refusesTables 261 = .ok (.if_icmp .ne 105, 3) := by decide +kernel
theorem dL_refusesTables_264 : decode cL_refusesTables 264 = .ok (.aload_n 0, 1) := by decide +kernel
theorem dL_refusesTables_265 : decode cL_refusesTables 265 = .ok (.bipush 13, 2) := by decide +kernel
theorem dL_refusesTables_267 : decode cL_refusesTables 267 = .ok (.iconst 1, 1) := by decide +kernel
theorem dL_refusesTables_268 : decode cL_refusesTables 268 = .ok (.iconst 3, 1) := by decide +kernel
theorem dL_refusesTables_269 : decode cL_refusesTables 269 = .ok (.iload_n 1, 1) := by decide +kernel
theorem dL_refusesTables_270 : decode cL_refusesTables 270 = .ok (.iconst 0, 1) := by decide +kernel
theorem dL_refusesTables_271 : decode cL_refusesTables 271 = .ok (.bipush 6, 2) := by decide +kernel
theorem dL_refusesTables_273 : decode cL_refusesTables 273 = .ok (.invokestatic 118, 3) := by decide +kernel
theorem dL_refusesTables_276 : decode cL_refusesTables 276 = .ok (.iconst 0, 1) := by decide +kernel
theorem dL_refusesTables_277 : decode cL_refusesTables 277 = .ok (.iconst 0, 1) := by decide +kernel
theorem dL_refusesTables_278 : decode cL_refusesTables 278 = .ok (.invokestatic 125, 3) := by decide +kernel
theorem dL_refusesTables_281 : decode cL_refusesTables 281 = .ok (.invokestatic 121, 3) := by decide +kernel
theorem dL_refusesTables_284 : decode cL_refusesTables 284 = .ok (.ldc 102, 2) := by decide +kernel
theorem dL_refusesTables_286 : decode cL_refusesTables 286 = .ok (.if_icmp .ne 80, 3) := by decide +kernel
theorem dL_refusesTables_289 : decode cL_refusesTables 289 = .ok (.aload_n 0, 1) := by decide +kernel
theorem dL_refusesTables_290 : decode cL_refusesTables 290 = .ok (.bipush 14, 2) := by decide +kernel
theorem dL_refusesTables_292 : decode cL_refusesTables 292 = .ok (.iload_n 2, 1) := by decide +kernel
theorem dL_refusesTables_293 : decode cL_refusesTables 293 = .ok (.iconst 0, 1) := by decide +kernel
theorem dL_refusesTables_294 : decode cL_refusesTables 294 = .ok (.lconst 0, 1) := by decide +kernel
theorem dL_refusesTables_295 : decode cL_refusesTables 295 = .ok (.invokestatic 121, 3) := by decide +kernel
theorem dL_refusesTables_298 : decode cL_refusesTables 298 = .ok (.ldc 99, 2) := by decide +kernel
theorem dL_refusesTables_300 : decode cL_refusesTables 300 = .ok (.if_icmp .ne 66, 3) := by decide +kernel
theorem dL_refusesTables_303 : decode cL_refusesTables 303 = .ok (.aload_n 0, 1) := by decide +kernel
theorem dL_refusesTables_304 : decode cL_refusesTables 304 = .ok (.bipush 14, 2) := by decide +kernel
theorem dL_refusesTables_306 : decode cL_refusesTables 306 = .ok (.iconst 0, 1) := by decide +kernel
theorem dL_refusesTables_307 : decode cL_refusesTables 307 = .ok (.iload_n 1, 1) := by decide +kernel
theorem dL_refusesTables_308 : decode cL_refusesTables 308 = .ok (.iconst 0, 1) := by decide +kernel
theorem dL_refusesTables_309 : decode cL_refusesTables 309 = .ok (.iconst 3, 1) := by decide +kernel
theorem dL_refusesTables_310 : decode cL_refusesTables 310 = .ok (.invokestatic 113, 3) := by decide +kernel
theorem dL_refusesTables_313 : decode cL_refusesTables 313 = .ok (.lconst 0, 1) := by decide +kernel
theorem dL_refusesTables_314 : decode cL_refusesTables 314 = .ok (.invokestatic 121, 3) := by decide +kernel
theorem dL_refusesTables_317 : decode cL_refusesTables 317 = .ok (.ldc 99, 2) := by decide +kernel
theorem dL_refusesTables_319 : decode cL_refusesTables 319 = .ok (.if_icmp .ne 47, 3) := by decide +kernel
theorem dL_refusesTables_322 : decode cL_refusesTables 322 = .ok (.aload_n 0, 1) := by decide +kernel
theorem dL_refusesTables_323 : decode cL_refusesTables 323 = .ok (.bipush 14, 2) := by decide +kernel
theorem dL_refusesTables_325 : decode cL_refusesTables 325 = .ok (.iconst 0, 1) := by decide +kernel
theorem dL_refusesTables_326 : decode cL_refusesTables 326 = .ok (.iconst 0, 1) := by decide +kernel
theorem dL_refusesTables_327 : decode cL_refusesTables 327 = .ok (.iconst (-1), 1) := by decide +kernel
theorem dL_refusesTables_328 : decode cL_refusesTables 328 = .ok (.iconst 0, 1) := by decide +kernel
theorem dL_refusesTables_329 : decode cL_refusesTables 329 = .ok (.iconst 0, 1) := by decide +kernel
theorem dL_refusesTables_330 : decode cL_refusesTables 330 = .ok (.invokestatic 125, 3) := by decide +kernel
theorem dL_refusesTables_333 : decode cL_refusesTables 333 = .ok (.invokestatic 121, 3) := by decide +kernel
theorem dL_refusesTables_336 : decode cL_refusesTables 336 = .ok (.ldc 102, 2) := by decide +kernel
theorem dL_refusesTables_338 : decode cL_refusesTables 338 = .ok (.if_icmp .ne 28, 3) := by decide +kernel
theorem dL_refusesTables_341 : decode cL_refusesTables 341 = .ok (.aload_n 0, 1) := by decide +kernel
theorem dL_refusesTables_342 : decode cL_refusesTables 342 = .ok (.bipush 14, 2) := by decide +kernel
theorem dL_refusesTables_344 : decode cL_refusesTables 344 = .ok (.iconst 0, 1) := by decide +kernel
theorem dL_refusesTables_345 : decode cL_refusesTables 345 = .ok (.iconst 0, 1) := by decide +kernel
theorem dL_refusesTables_346 : decode cL_refusesTables 346 = .ok (.iconst 0, 1) := by decide +kernel
theorem dL_refusesTables_347 : decode cL_refusesTables 347 = .ok (.iload_n 1, 1) := by decide +kernel
theorem dL_refusesTables_348 : decode cL_refusesTables 348 = .ok (.iconst 0, 1) := by decide +kernel
theorem dL_refusesTables_349 : decode cL_refusesTables 349 = .ok (.bipush 7, 2) := by decide +kernel
theorem dL_refusesTables_351 : decode cL_refusesTables 351 = .ok (.invokestatic 118, 3) := by decide +kernel
theorem dL_refusesTables_354 : decode cL_refusesTables 354 = .ok (.iconst 0, 1) := by decide +kernel
theorem dL_refusesTables_355 : decode cL_refusesTables 355 = .ok (.invokestatic 125, 3) := by decide +kernel
theorem dL_refusesTables_358 : decode cL_refusesTables 358 = .ok (.invokestatic 121, 3) := by decide +kernel
theorem dL_refusesTables_361 : decode cL_refusesTables 361 = .ok (.ldc 102, 2) := by decide +kernel
theorem dL_refusesTables_363 : decode cL_refusesTables 363 = .ok (.if_icmp .eq 5, 3) := by decide +kernel
theorem dL_refusesTables_366 : decode cL_refusesTables 366 = .ok (.iconst 0, 1) := by decide +kernel
theorem dL_refusesTables_367 : decode cL_refusesTables 367 = .ok (.ireturn, 1) := by decide +kernel
theorem dL_refusesTables_368 : decode cL_refusesTables 368 = .ok (.aload_n 0, 1) := by decide +kernel
theorem dL_refusesTables_369 : decode cL_refusesTables 369 = .ok (.iconst 0, 1) := by decide +kernel
theorem dL_refusesTables_370 : decode cL_refusesTables 370 = .ok (.invokevirtual 90, 3) := by decide +kernel
theorem dL_refusesTables_373 : decode cL_refusesTables 373 = .ok (.ifCond .le 145, 3) := by decide +kernel
theorem dL_refusesTables_376 : decode cL_refusesTables 376 = .ok (.aload_n 0, 1) := by decide +kernel
theorem dL_refusesTables_377 : decode cL_refusesTables 377 = .ok (.iconst 1, 1) := by decide +kernel
theorem dL_refusesTables_378 : decode cL_refusesTables 378 = .ok (.iconst 0, 1) := by decide +kernel
theorem dL_refusesTables_379 : decode cL_refusesTables 379 = .ok (.iconst 0, 1) := by decide +kernel
theorem dL_refusesTables_380 : decode cL_refusesTables 380 = .ok (.iload_n 1, 1) := by decide +kernel
theorem dL_refusesTables_381 : decode cL_refusesTables 381 = .ok (.iconst 0, 1) := by decide +kernel
theorem dL_refusesTables_382 : decode cL_refusesTables 382 = .ok (.iconst 3, 1) := by decide +kernel
theorem dL_refusesTables_383 : decode cL_refusesTables 383 = .ok (.invokestatic 118, 3) := by decide +kernel
theorem dL_refusesTables_386 : decode cL_refusesTables 386 = .ok (.sipush 400, 3) := by decide +kernel
theorem dL_refusesTables_389 : decode cL_refusesTables 389 = .ok (.iconst 0, 1) := by decide +kernel
theorem dL_refusesTables_390 : decode cL_refusesTables 390 = .ok (.invokestatic 125, 3) := by decide +kernel
theorem dL_refusesTables_393 : decode cL_refusesTables 393 = .ok (.invokestatic 121, 3) := by decide +kernel
theorem dL_refusesTables_396 : decode cL_refusesTables 396 = .ok (.ldc 99, 2) := by decide +kernel
theorem dL_refusesTables_398 : decode cL_refusesTables 398 = .ok (.if_icmp .ne 118, 3) := by decide +kernel
theorem dL_refusesTables_401 : decode cL_refusesTables 401 = .ok (.aload_n 0, 1) := by decide +kernel
theorem dL_refusesTables_402 : decode cL_refusesTables 402 = .ok (.iconst 1, 1) := by decide +kernel
theorem dL_refusesTables_403 : decode cL_refusesTables 403 = .ok (.iconst 0, 1) := by decide +kernel
theorem dL_refusesTables_404 : decode cL_refusesTables 404 = .ok (.iconst 0, 1) := by decide +kernel
theorem dL_refusesTables_405 : decode cL_refusesTables 405 = .ok (.iconst 3, 1) := by decide +kernel
theorem dL_refusesTables_406 : decode cL_refusesTables 406 = .ok (.iload 4, 2) := by decide +kernel
theorem dL_refusesTables_408 : decode cL_refusesTables 408 = .ok (.iconst 0, 1) := by decide +kernel
theorem dL_refusesTables_409 : decode cL_refusesTables 409 = .ok (.invokestatic 125, 3) := by decide +kernel
theorem dL_refusesTables_412 : decode cL_refusesTables 412 = .ok (.invokestatic 121, 3) := by decide +kernel
theorem dL_refusesTables_415 : decode cL_refusesTables 415 = .ok (.ldc 102, 2) := by decide +kernel
theorem dL_refusesTables_417 : decode cL_refusesTables 417 = .ok (.if_icmp .ne 99, 3) := by decide +kernel
theorem dL_refusesTables_420 : decode cL_refusesTables 420 = .ok (.aload_n 0, 1) := by decide +kernel
theorem dL_refusesTables_421 : decode cL_refusesTables 421 = .ok (.bipush 12, 2) := by decide +kernel
theorem dL_refusesTables_423 : decode cL_refusesTables 423 = .ok (.iconst 0, 1) := by decide +kernel
theorem dL_refusesTables_424 : decode cL_refusesTables 424 = .ok (.iconst 0, 1) := by decide +kernel
theorem dL_refusesTables_425 : decode cL_refusesTables 425 = .ok (.iload_n 1, 1) := by decide +kernel
theorem dL_refusesTables_426 : decode cL_refusesTables 426 = .ok (.iconst 0, 1) := by decide +kernel
theorem dL_refusesTables_427 : decode cL_refusesTables 427 = .ok (.iconst 3, 1) := by decide +kernel
theorem dL_refusesTables_428 : decode cL_refusesTables 428 = .ok (.invokestatic 118, 3) := by decide +kernel
theorem dL_refusesTables_431 : decode cL_refusesTables 431 = .ok (.iconst 0, 1) := by decide +kernel
theorem dL_refusesTables_432 : decode cL_refusesTables 432 = .ok (.iconst 0, 1) := by decide +kernel
theorem dL_refusesTables_433 : decode cL_refusesTables 433 = .ok (.invokestatic 125, 3) := by decide +kernel
theorem dL_refusesTables_436 : decode cL_refusesTables 436 = .ok (.invokestatic 121, 3) := by decide +kernel
theorem dL_refusesTables_439 : decode cL_refusesTables 439 = .ok (.ldc 99, 2) := by decide +kernel
theorem dL_refusesTables_441 : decode cL_refusesTables 441 = .ok (.if_icmp .ne 75, 3) := by decide +kernel
theorem dL_refusesTables_444 : decode cL_refusesTables 444 = .ok (.aload_n 0, 1) := by decide +kernel
theorem dL_refusesTables_445 : decode cL_refusesTables 445 = .ok (.bipush 15, 2) := by decide +kernel
theorem dL_refusesTables_447 : decode cL_refusesTables 447 = .ok (.iconst 0, 1) := by decide +kernel
theorem dL_refusesTables_448 : decode cL_refusesTables 448 = .ok (.iconst 0, 1) := by decide +kernel
theorem dL_refusesTables_449 : decode cL_refusesTables 449 = .ok (.iload_n 1, 1) := by decide +kernel
theorem dL_refusesTables_450 : decode cL_refusesTables 450 = .ok (.iconst 0, 1) := by decide +kernel
theorem dL_refusesTables_451 : decode cL_refusesTables 451 = .ok (.iconst 5, 1) := by decide +kernel
theorem dL_refusesTables_452 : decode cL_refusesTables 452 = .ok (.invokestatic 118, 3) := by decide +kernel
theorem dL_refusesTables_455 : decode cL_refusesTables 455 = .ok (.iconst 0, 1) := by decide +kernel
theorem dL_refusesTables_456 : decode cL_refusesTables 456 = .ok (.iconst 0, 1) := by decide +kernel
theorem dL_refusesTables_457 : decode cL_refusesTables 457 = .ok (.invokestatic 125, 3) := by decide +kernel
theorem dL_refusesTables_460 : decode cL_refusesTables 460 = .ok (.invokestatic 121, 3) := by decide +kernel
theorem dL_refusesTables_463 : decode cL_refusesTables 463 = .ok (.ldc 99, 2) := by decide +kernel
theorem dL_refusesTables_465 : decode cL_refusesTables 465 = .ok (.if_icmp .ne 51, 3) := by decide +kernel
theorem dL_refusesTables_468 : decode cL_refusesTables 468 = .ok (.aload_n 0, 1) := by decide +kernel
theorem dL_refusesTables_469 : decode cL_refusesTables 469 = .ok (.bipush 22, 2) := by decide +kernel
theorem dL_refusesTables_471 : decode cL_refusesTables 471 = .ok (.iconst 0, 1) := by decide +kernel
theorem dL_refusesTables_472 : decode cL_refusesTables 472 = .ok (.iconst 0, 1) := by decide +kernel
theorem dL_refusesTables_473 : decode cL_refusesTables 473 = .ok (.iload_n 1, 1) := by decide +kernel
theorem dL_refusesTables_474 : decode cL_refusesTables 474 = .ok (.iconst 0, 1) := by decide +kernel
theorem dL_refusesTables_475 : decode cL_refusesTables 475 = .ok (.iconst 3, 1) := by decide +kernel
theorem dL_refusesTables_476 : decode cL_refusesTables 476 = .ok (.invokestatic 118, 3) := by decide +kernel
theorem dL_refusesTables_479 : decode cL_refusesTables 479 = .ok (.iconst 0, 1) := by decide +kernel
theorem dL_refusesTables_480 : decode cL_refusesTables 480 = .ok (.iconst 0, 1) := by decide +kernel
theorem dL_refusesTables_481 : decode cL_refusesTables 481 = .ok (.invokestatic 125, 3) := by decide +kernel
theorem dL_refusesTables_484 : decode cL_refusesTables 484 = .ok (.invokestatic 121, 3) := by decide +kernel
theorem dL_refusesTables_487 : decode cL_refusesTables 487 = .ok (.ldc 99, 2) := by decide +kernel
theorem dL_refusesTables_489 : decode cL_refusesTables 489 = .ok (.if_icmp .ne 27, 3) := by decide +kernel
theorem dL_refusesTables_492 : decode cL_refusesTables 492 = .ok (.aload_n 0, 1) := by decide +kernel
theorem dL_refusesTables_493 : decode cL_refusesTables 493 = .ok (.bipush 22, 2) := by decide +kernel
theorem dL_refusesTables_495 : decode cL_refusesTables 495 = .ok (.iconst 0, 1) := by decide +kernel
theorem dL_refusesTables_496 : decode cL_refusesTables 496 = .ok (.iload_n 1, 1) := by decide +kernel
theorem dL_refusesTables_497 : decode cL_refusesTables 497 = .ok (.iconst 0, 1) := by decide +kernel
theorem dL_refusesTables_498 : decode cL_refusesTables 498 = .ok (.iconst 3, 1) := by decide +kernel
theorem dL_refusesTables_499 : decode cL_refusesTables 499 = .ok (.invokestatic 113, 3) := by decide +kernel
theorem dL_refusesTables_502 : decode cL_refusesTables 502 = .ok (.iconst 0, 1) := by decide +kernel
theorem dL_refusesTables_503 : decode cL_refusesTables 503 = .ok (.iconst 0, 1) := by decide +kernel
theorem dL_refusesTables_504 : decode cL_refusesTables 504 = .ok (.iconst 0, 1) := by decide +kernel
theorem dL_refusesTables_505 : decode cL_refusesTables 505 = .ok (.invokestatic 125, 3) := by decide +kernel
theorem dL_refusesTables_508 : decode cL_refusesTables 508 = .ok (.invokestatic 121, 3) := by decide +kernel
theorem dL_refusesTables_511 : decode cL_refusesTables 511 = .ok (.ldc 99, 2) := by decide +kernel
theorem dL_refusesTables_513 : decode cL_refusesTables 513 = .ok (.if_icmp .eq 5, 3) := by decide +kernel
theorem dL_refusesTables_516 : decode cL_refusesTables 516 = .ok (.iconst 0, 1) := by decide +kernel
theorem dL_refusesTables_517 : decode cL_refusesTables 517 = .ok (.ireturn, 1) := by decide +kernel
theorem dL_refusesTables_518 : decode cL_refusesTables 518 = .ok (.aload_n 0, 1) := by decide +kernel
theorem dL_refusesTables_519 : decode cL_refusesTables 519 = .ok (.bipush 21, 2) := by decide +kernel
theorem dL_refusesTables_521 : decode cL_refusesTables 521 = .ok (.iload_n 1, 1) := by decide +kernel
theorem dL_refusesTables_522 : decode cL_refusesTables 522 = .ok (.iconst 0, 1) := by decide +kernel
theorem dL_refusesTables_523 : decode cL_refusesTables 523 = .ok (.iconst 3, 1) := by decide +kernel
theorem dL_refusesTables_524 : decode cL_refusesTables 524 = .ok (.invokestatic 113, 3) := by decide +kernel
theorem dL_refusesTables_527 : decode cL_refusesTables 527 = .ok (.iconst 0, 1) := by decide +kernel
theorem dL_refusesTables_528 : decode cL_refusesTables 528 = .ok (.iconst (-1), 1) := by decide +kernel
theorem dL_refusesTables_529 : decode cL_refusesTables 529 = .ok (.iconst 0, 1) := by decide +kernel
theorem dL_refusesTables_530 : decode cL_refusesTables 530 = .ok (.iconst 0, 1) := by decide +kernel
theorem dL_refusesTables_531 : decode cL_refusesTables 531 = .ok (.invokestatic 125, 3) := by decide +kernel
theorem dL_refusesTables_534 : decode cL_refusesTables 534 = .ok (.invokestatic 121, 3) := by decide +kernel
theorem dL_refusesTables_537 : decode cL_refusesTables 537 = .ok (.ldc 99, 2) := by decide +kernel
theorem dL_refusesTables_539 : decode cL_refusesTables 539 = .ok (.if_icmp .ne 79, 3) := by decide +kernel
theorem dL_refusesTables_542 : decode cL_refusesTables 542 = .ok (.aload_n 0, 1) := by decide +kernel
theorem dL_refusesTables_543 : decode cL_refusesTables 543 = .ok (.bipush 21, 2) := by decide +kernel
theorem dL_refusesTables_545 : decode cL_refusesTables 545 = .ok (.iconst 0, 1) := by decide +kernel
theorem dL_refusesTables_546 : decode cL_refusesTables 546 = .ok (.iload_n 1, 1) := by decide +kernel
theorem dL_refusesTables_547 : decode cL_refusesTables 547 = .ok (.iconst 0, 1) := by decide +kernel
theorem dL_refusesTables_548 : decode cL_refusesTables 548 = .ok (.iconst 3, 1) := by decide +kernel
theorem dL_refusesTables_549 : decode cL_refusesTables 549 = .ok (.invokestatic 113, 3) := by decide +kernel
theorem dL_refusesTables_552 : decode cL_refusesTables 552 = .ok (.iconst (-1), 1) := by decide +kernel
theorem dL_refusesTables_553 : decode cL_refusesTables 553 = .ok (.iconst 0, 1) := by decide +kernel
theorem dL_refusesTables_554 : decode cL_refusesTables 554 = .ok (.iconst 0, 1) := by decide +kernel
theorem dL_refusesTables_555 : decode cL_refusesTables 555 = .ok (.invokestatic 125, 3) := by decide +kernel
theorem dL_refusesTables_558 : decode cL_refusesTables 558 = .ok (.invokestatic 121, 3) := by decide +kernel
theorem dL_refusesTables_561 : decode cL_refusesTables 561 = .ok (.ldc 99, 2) := by decide +kernel
theorem dL_refusesTables_563 : decode cL_refusesTables 563 = .ok (.if_icmp .ne 55, 3) := by decide +kernel
theorem dL_refusesTables_566 : decode cL_refusesTables 566 = .ok (.aload_n 0, 1) := by decide +kernel
theorem dL_refusesTables_567 : decode cL_refusesTables 567 = .ok (.bipush 21, 2) := by decide +kernel
theorem dL_refusesTables_569 : decode cL_refusesTables 569 = .ok (.iconst 3, 1) := by decide +kernel
theorem dL_refusesTables_570 : decode cL_refusesTables 570 = .ok (.iconst 3, 1) := by decide +kernel
theorem dL_refusesTables_571 : decode cL_refusesTables 571 = .ok (.iload_n 1, 1) := by decide +kernel
theorem dL_refusesTables_572 : decode cL_refusesTables 572 = .ok (.ifCond .ne 7, 3) := by decide +kernel
theorem dL_refusesTables_575 : decode cL_refusesTables 575 = .ok (.iconst (-1), 1) := by decide +kernel
theorem dL_refusesTables_576 : decode cL_refusesTables 576 = .ok (.goto 6, 3) := by decide +kernel
theorem dL_refusesTables_579 : decode cL_refusesTables 579 = .ok (.sipush (-500), 3) := by decide +kernel
theorem dL_refusesTables_582 : decode cL_refusesTables 582 = .ok (.iconst 0, 1) := by decide +kernel
theorem dL_refusesTables_583 : decode cL_refusesTables 583 = .ok (.iconst 0, 1) := by decide +kernel
theorem dL_refusesTables_584 : decode cL_refusesTables 584 = .ok (.invokestatic 125, 3) := by decide +kernel
theorem dL_refusesTables_587 : decode cL_refusesTables 587 = .ok (.invokestatic 121, 3) := by decide +kernel
theorem dL_refusesTables_590 : decode cL_refusesTables 590 = .ok (.ldc 102, 2) := by decide +kernel
theorem dL_refusesTables_592 : decode cL_refusesTables 592 = .ok (.if_icmp .ne 26, 3) := by decide +kernel
theorem dL_refusesTables_595 : decode cL_refusesTables 595 = .ok (.aload_n 0, 1) := by decide +kernel
theorem dL_refusesTables_596 : decode cL_refusesTables 596 = .ok (.bipush 22, 2) := by decide +kernel
theorem dL_refusesTables_598 : decode cL_refusesTables 598 = .ok (.iload_n 3, 1) := by decide +kernel
theorem dL_refusesTables_599 : decode cL_refusesTables 599 = .ok (.iconst 0, 1) := by decide +kernel
theorem dL_refusesTables_600 : decode cL_refusesTables 600 = .ok (.iconst 0, 1) := by decide +kernel
theorem dL_refusesTables_601 : decode cL_refusesTables 601 = .ok (.iconst 0, 1) := by decide +kernel
theorem dL_refusesTables_602 : decode cL_refusesTables 602 = .ok (.iconst 0, 1) := by decide +kernel
theorem dL_refusesTables_603 : decode cL_refusesTables 603 = .ok (.invokestatic 125, 3) := by decide +kernel
theorem dL_refusesTables_606 : decode cL_refusesTables 606 = .ok (.invokestatic 121, 3) := by decide +kernel
theorem dL_refusesTables_609 : decode cL_refusesTables 609 = .ok (.ldc 99, 2) := by decide +kernel
theorem dL_refusesTables_611 : decode cL_refusesTables 611 = .ok (.if_icmp .ne 7, 3) := by decide +kernel
theorem dL_refusesTables_614 : decode cL_refusesTables 614 = .ok (.iconst 1, 1) := by decide +kernel
theorem dL_refusesTables_615 : decode cL_refusesTables 615 = .ok (.goto 4, 3) := by decide +kernel
