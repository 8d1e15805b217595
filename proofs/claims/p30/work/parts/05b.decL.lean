theorem dL_refusesTables_618 : decode cL_refusesTables 618 = .ok (.iconst 0, 1) := by decide +kernel
theorem dL_refusesTables_619 : decode cL_refusesTables 619 = .ok (.ireturn, 1) := by decide +kernel
theorem dL_refusesFilters_0 : decode cL_refusesFilters 0 = .ok (.iload_n 1, 1) := by decide +kernel
theorem dL_refusesFilters_1 : decode cL_refusesFilters 1 = .ok (.iconst 0, 1) := by decide +kernel
theorem dL_refusesFilters_2 : decode cL_refusesFilters 2 = .ok (.iconst 1, 1) := by decide +kernel
theorem dL_refusesFilters_3 : decode cL_refusesFilters 3 = .ok (.invokestatic 113, 3) := by decide +kernel
theorem dL_refusesFilters_6 : decode cL_refusesFilters 6 = .ok (.istore_n 2, 1) := by decide +kernel
theorem dL_refusesFilters_7 : decode cL_refusesFilters 7 = .ok (.iload_n 1, 1) := by decide +kernel
theorem dL_refusesFilters_8 : decode cL_refusesFilters 8 = .ok (.iconst 0, 1) := by decide +kernel
theorem dL_refusesFilters_9 : decode cL_refusesFilters 9 = .ok (.iconst 5, 1) := by decide +kernel
theorem dL_refusesFilters_10 : decode cL_refusesFilters 10 = .ok (.invokestatic 113, 3) := by decide +kernel
theorem dL_refusesFilters_13 : decode cL_refusesFilters 13 = .ok (.istore_n 3, 1) := by decide +kernel
theorem dL_refusesFilters_14 : decode cL_refusesFilters 14 = .ok (.iload_n 1, 1) := by decide +kernel
theorem dL_refusesFilters_15 : decode cL_refusesFilters 15 = .ok (.iconst 0, 1) := by decide +kernel
theorem dL_refusesFilters_16 : decode cL_refusesFilters 16 = .ok (.iconst 5, 1) := by decide +kernel
theorem dL_refusesFilters_17 : decode cL_refusesFilters 17 = .ok (.invokestatic 118, 3) := by decide +kernel
theorem dL_refusesFilters_20 : decode cL_refusesFilters 20 = .ok (.istore 4, 2) := by decide +kernel
theorem dL_refusesFilters_22 : decode cL_refusesFilters 22 = .ok (.aload_n 0, 1) := by decide +kernel
theorem dL_refusesFilters_23 : decode cL_refusesFilters 23 = .ok (.iconst 3, 1) := by decide +kernel
theorem dL_refusesFilters_24 : decode cL_refusesFilters 24 = .ok (.iload_n 3, 1) := by decide +kernel
theorem dL_refusesFilters_25 : decode cL_refusesFilters 25 = .ok (.iconst 0, 1) := by decide +kernel
theorem dL_refusesFilters_26 : decode cL_refusesFilters 26 = .ok (.lconst 0, 1) := by decide +kernel
theorem dL_refusesFilters_27 : decode cL_refusesFilters 27 = .ok (.invokestatic 121, 3) := by decide +kernel
theorem dL_refusesFilters_30 : decode cL_refusesFilters 30 = .ok (.ldc 99, 2) := by decide +kernel
theorem dL_refusesFilters_32 : decode cL_refusesFilters 32 = .ok (.if_icmp .ne 317, 3) := by decide +kernel
theorem dL_refusesFilters_35 : decode cL_refusesFilters 35 = .ok (.aload_n 0, 1) := by decide +kernel
theorem dL_refusesFilters_36 : decode cL_refusesFilters 36 = .ok (.iconst 3, 1) := by decide +kernel
theorem dL_refusesFilters_37 : decode cL_refusesFilters 37 = .ok (.iconst 5, 1) := by decide +kernel
theorem dL_refusesFilters_38 : decode cL_refusesFilters 38 = .ok (.iconst 0, 1) := by decide +kernel
theorem dL_refusesFilters_39 : decode cL_refusesFilters 39 = .ok (.lconst 0, 1) := by decide +kernel
theorem dL_refusesFilters_40 : decode cL_refusesFilters 40 = .ok (.invokestatic 121, 3) := by decide +kernel
theorem dL_refusesFilters_43 : decode cL_refusesFilters 43 = .ok (.ldc 102, 2) := by decide +kernel
theorem dL_refusesFilters_45 : decode cL_refusesFilters 45 = .ok (.if_icmp .ne 304, 3) := by decide +kernel
theorem dL_refusesFilters_48 : decode cL_refusesFilters 48 = .ok (.aload_n 0, 1) := by decide +kernel
theorem dL_refusesFilters_49 : decode cL_refusesFilters 49 = .ok (.iconst 4, 1) := by decide +kernel
theorem dL_refusesFilters_50 : decode cL_refusesFilters 50 = .ok (.iload_n 3, 1) := by decide +kernel
theorem dL_refusesFilters_51 : decode cL_refusesFilters 51 = .ok (.iconst 0, 1) := by decide +kernel
theorem dL_refusesFilters_52 : decode cL_refusesFilters 52 = .ok (.iconst 0, 1) := by decide +kernel
theorem dL_refusesFilters_53 : decode cL_refusesFilters 53 = .ok (.bipush 9, 2) := by decide +kernel
theorem dL_refusesFilters_55 : decode cL_refusesFilters 55 = .ok (.iconst 0, 1) := by decide +kernel
theorem dL_refusesFilters_56 : decode cL_refusesFilters 56 = .ok (.invokestatic 125, 3) := by decide +kernel
theorem dL_refusesFilters_59 : decode cL_refusesFilters 59 = .ok (.invokestatic 121, 3) := by decide +kernel
theorem dL_refusesFilters_62 : decode cL_refusesFilters 62 = .ok (.ldc 99, 2) := by decide +kernel
theorem dL_refusesFilters_64 : decode cL_refusesFilters 64 = .ok (.if_icmp .ne 285, 3) := by decide +kernel
theorem dL_refusesFilters_67 : decode cL_refusesFilters 67 = .ok (.aload_n 0, 1) := by decide +kernel
theorem dL_refusesFilters_68 : decode cL_refusesFilters 68 = .ok (.iconst 4, 1) := by decide +kernel
theorem dL_refusesFilters_69 : decode cL_refusesFilters 69 = .ok (.iconst 0, 1) := by decide +kernel
theorem dL_refusesFilters_70 : decode cL_refusesFilters 70 = .ok (.iload_n 3, 1) := by decide +kernel
theorem dL_refusesFilters_71 : decode cL_refusesFilters 71 = .ok (.iconst 0, 1) := by decide +kernel
theorem dL_refusesFilters_72 : decode cL_refusesFilters 72 = .ok (.bipush 9, 2) := by decide +kernel
theorem dL_refusesFilters_74 : decode cL_refusesFilters 74 = .ok (.iconst 0, 1) := by decide +kernel
theorem dL_refusesFilters_75 : decode cL_refusesFilters 75 = .ok (.invokestatic 125, 3) := by decide +kernel
theorem dL_refusesFilters_78 : decode cL_refusesFilters 78 = .ok (.invokestatic 121, 3) := by decide +kernel
theorem dL_refusesFilters_81 : decode cL_refusesFilters 81 = .ok (.ldc 99, 2) := by decide +kernel
theorem dL_refusesFilters_83 : decode cL_refusesFilters 83 = .ok (.if_icmp .ne 266, 3) := by decide +kernel
theorem dL_refusesFilters_86 : decode cL_refusesFilters 86 = .ok (.aload_n 0, 1) := by decide +kernel
theorem dL_refusesFilters_87 : decode cL_refusesFilters 87 = .ok (.iconst 4, 1) := by decide +kernel
theorem dL_refusesFilters_88 : decode cL_refusesFilters 88 = .ok (.iconst 0, 1) := by decide +kernel
theorem dL_refusesFilters_89 : decode cL_refusesFilters 89 = .ok (.iconst 0, 1) := by decide +kernel
theorem dL_refusesFilters_90 : decode cL_refusesFilters 90 = .ok (.iload 4, 2) := by decide +kernel
theorem dL_refusesFilters_92 : decode cL_refusesFilters 92 = .ok (.iconst 0, 1) := by decide +kernel
theorem dL_refusesFilters_93 : decode cL_refusesFilters 93 = .ok (.iconst 0, 1) := by decide +kernel
theorem dL_refusesFilters_94 : decode cL_refusesFilters 94 = .ok (.invokestatic 125, 3) := by decide +kernel
theorem dL_refusesFilters_97 : decode cL_refusesFilters 97 = .ok (.invokestatic 121, 3) := by decide +kernel
theorem dL_refusesFilters_100 : decode cL_refusesFilters 100 = .ok (.ldc 99, 2) := by decide +kernel
theorem dL_refusesFilters_102 : decode cL_refusesFilters 102 = .ok (.if_icmp .ne 247, 3) := by decide +kernel
theorem dL_refusesFilters_105 : decode cL_refusesFilters 105 = .ok (.aload_n 0, 1) := by decide +kernel
theorem dL_refusesFilters_106 : decode cL_refusesFilters 106 = .ok (.iconst 4, 1) := by decide +kernel
theorem dL_refusesFilters_107 : decode cL_refusesFilters 107 = .ok (.iconst 0, 1) := by decide +kernel
theorem dL_refusesFilters_108 : decode cL_refusesFilters 108 = .ok (.iconst 0, 1) := by decide +kernel
theorem dL_refusesFilters_109 : decode cL_refusesFilters 109 = .ok (.iconst 0, 1) := by decide +kernel
theorem dL_refusesFilters_110 : decode cL_refusesFilters 110 = .ok (.iload_n 1, 1) := by decide +kernel
theorem dL_refusesFilters_111 : decode cL_refusesFilters 111 = .ok (.iconst 0, 1) := by decide +kernel
theorem dL_refusesFilters_112 : decode cL_refusesFilters 112 = .ok (.iconst 2, 1) := by decide +kernel
theorem dL_refusesFilters_113 : decode cL_refusesFilters 113 = .ok (.invokestatic 118, 3) := by decide +kernel
theorem dL_refusesFilters_116 : decode cL_refusesFilters 116 = .ok (.iconst 0, 1) := by decide +kernel
theorem dL_refusesFilters_117 : decode cL_refusesFilters 117 = .ok (.invokestatic 125, 3) := by decide +kernel
theorem dL_refusesFilters_120 : decode cL_refusesFilters 120 = .ok (.invokestatic 121, 3) := by decide +kernel
theorem dL_refusesFilters_123 : decode cL_refusesFilters 123 = .ok (.ldc 102, 2) := by decide +kernel
theorem dL_refusesFilters_125 : decode cL_refusesFilters 125 = .ok (.if_icmp .ne 224, 3) := by decide +kernel
theorem dL_refusesFilters_128 : decode cL_refusesFilters 128 = .ok (.aload_n 0, 1) := by decide +kernel
theorem dL_refusesFilters_129 : decode cL_refusesFilters 129 = .ok (.iconst 5, 1) := by decide +kernel
theorem dL_refusesFilters_130 : decode cL_refusesFilters 130 = .ok (.iload_n 2, 1) := by decide +kernel
theorem dL_refusesFilters_131 : decode cL_refusesFilters 131 = .ok (.iconst 0, 1) := by decide +kernel
theorem dL_refusesFilters_132 : decode cL_refusesFilters 132 = .ok (.lconst 0, 1) := by decide +kernel
theorem dL_refusesFilters_133 : decode cL_refusesFilters 133 = .ok (.invokestatic 121, 3) := by decide +kernel
theorem dL_refusesFilters_136 : decode cL_refusesFilters 136 = .ok (.ldc 99, 2) := by decide +kernel
theorem dL_refusesFilters_138 : decode cL_refusesFilters 138 = .ok (.if_icmp .ne 211, 3) := by decide +kernel
theorem dL_refusesFilters_141 : decode cL_refusesFilters 141 = .ok (.aload_n 0, 1) := by decide +kernel
theorem dL_refusesFilters_142 : decode cL_refusesFilters 142 = .ok (.iconst 5, 1) := by decide +kernel
theorem dL_refusesFilters_143 : decode cL_refusesFilters 143 = .ok (.iconst 0, 1) := by decide +kernel
theorem dL_refusesFilters_144 : decode cL_refusesFilters 144 = .ok (.iload_n 1, 1) := by decide +kernel
theorem dL_refusesFilters_145 : decode cL_refusesFilters 145 = .ok (.ifCond .ne 7, 3) := by decide +kernel
theorem dL_refusesFilters_148 : decode cL_refusesFilters 148 = .ok (.iconst (-1), 1) := by decide +kernel
theorem dL_refusesFilters_149 : decode cL_refusesFilters 149 = .ok (.goto 25, 3) := by decide +kernel
theorem dL_refusesFilters_152 : decode cL_refusesFilters 152 = .ok (.iload_n 1, 1) := by decide +kernel
theorem dL_refusesFilters_153 : decode cL_refusesFilters 153 = .ok (.iconst 1, 1) := by decide +kernel
theorem dL_refusesFilters_154 : decode cL_refusesFilters 154 = .ok (.if_icmp .ne 8, 3) := by decide +kernel
theorem dL_refusesFilters_157 : decode cL_refusesFilters 157 = .ok (.bipush 6, 2) := by decide +kernel
theorem dL_refusesFilters_159 : decode cL_refusesFilters 159 = .ok (.goto 15, 3) := by decide +kernel
theorem dL_refusesFilters_162 : decode cL_refusesFilters 162 = .ok (.iload_n 1, 1) := by decide +kernel
theorem dL_refusesFilters_163 : decode cL_refusesFilters 163 = .ok (.iconst 2, 1) := by decide +kernel
theorem dL_refusesFilters_164 : decode cL_refusesFilters 164 = .ok (.if_icmp .ne 8, 3) := by decide +kernel
theorem dL_refusesFilters_167 : decode cL_refusesFilters 167 = .ok (.bipush (-3), 2) := by decide +kernel
theorem dL_refusesFilters_169 : decode cL_refusesFilters 169 = .ok (.goto 5, 3) := by decide +kernel
theorem dL_refusesFilters_172 : decode cL_refusesFilters 172 = .ok (.ldc 7, 2) := by decide +kernel
theorem dL_refusesFilters_174 : decode cL_refusesFilters 174 = .ok (.lconst 0, 1) := by decide +kernel
theorem dL_refusesFilters_175 : decode cL_refusesFilters 175 = .ok (.invokestatic 121, 3) := by decide +kernel
theorem dL_refusesFilters_178 : decode cL_refusesFilters 178 = .ok (.ldc 99, 2) := by decide +kernel
theorem dL_refusesFilters_180 : decode cL_refusesFilters 180 = .ok (.if_icmp .ne 169, 3) := by decide +kernel
theorem dL_refusesFilters_183 : decode cL_refusesFilters 183 = .ok (.aload_n 0, 1) := by decide +kernel
theorem dL_refusesFilters_184 : decode cL_refusesFilters 184 = .ok (.bipush 6, 2) := by decide +kernel
theorem dL_refusesFilters_186 : decode cL_refusesFilters 186 = .ok (.iload_n 2, 1) := by decide +kernel
theorem dL_refusesFilters_187 : decode cL_refusesFilters 187 = .ok (.iconst 0, 1) := by decide +kernel
theorem dL_refusesFilters_188 : decode cL_refusesFilters 188 = .ok (.lconst 0, 1) := by decide +kernel
theorem dL_refusesFilters_189 : decode cL_refusesFilters 189 = .ok (.invokestatic 121, 3) := by decide +kernel
theorem dL_refusesFilters_192 : decode cL_refusesFilters 192 = .ok (.ldc 99, 2) := by decide +kernel
theorem dL_refusesFilters_194 : decode cL_refusesFilters 194 = .ok (.if_icmp .ne 155, 3) := by decide +kernel
theorem dL_refusesFilters_197 : decode cL_refusesFilters 197 = .ok (.aload_n 0, 1) := by decide +kernel
theorem dL_refusesFilters_198 : decode cL_refusesFilters 198 = .ok (.bipush 6, 2) := by decide +kernel
theorem dL_refusesFilters_200 : decode cL_refusesFilters 200 = .ok (.iconst 0, 1) := by decide +kernel
theorem dL_refusesFilters_201 : decode cL_refusesFilters 201 = .ok (.iload_n 3, 1) := by decide +kernel
theorem dL_refusesFilters_202 : decode cL_refusesFilters 202 = .ok (.lconst 0, 1) := by decide +kernel
theorem dL_refusesFilters_203 : decode cL_refusesFilters 203 = .ok (.invokestatic 121, 3) := by decide +kernel
theorem dL_refusesFilters_206 : decode cL_refusesFilters 206 = .ok (.ldc 99, 2) := by decide +kernel
theorem dL_refusesFilters_208 : decode cL_refusesFilters 208 = .ok (.if_icmp .ne 141, 3) := by decide +kernel
theorem dL_refusesFilters_211 : decode cL_refusesFilters 211 = .ok (.aload_n 0, 1) := by decide +kernel
theorem dL_refusesFilters_212 : decode cL_refusesFilters 212 = .ok (.bipush 7, 2) := by decide +kernel
theorem dL_refusesFilters_214 : decode cL_refusesFilters 214 = .ok (.iload_n 2, 1) := by decide +kernel
theorem dL_refusesFilters_215 : decode cL_refusesFilters 215 = .ok (.iconst 0, 1) := by decide +kernel
theorem dL_refusesFilters_216 : decode cL_refusesFilters 216 = .ok (.lconst 0, 1) := by decide +kernel
theorem dL_refusesFilters_217 : decode cL_refusesFilters 217 = .ok (.invokestatic 121, 3) := by decide +kernel
theorem dL_refusesFilters_220 : decode cL_refusesFilters 220 = .ok (.ldc 99, 2) := by decide +kernel
theorem dL_refusesFilters_222 : decode cL_refusesFilters 222 = .ok (.if_icmp .ne 127, 3) := by decide +kernel
theorem dL_refusesFilters_225 : decode cL_refusesFilters 225 = .ok (.aload_n 0, 1) := by decide +kernel
theorem dL_refusesFilters_226 : decode cL_refusesFilters 226 = .ok (.bipush 7, 2) := by decide +kernel
theorem dL_refusesFilters_228 : decode cL_refusesFilters 228 = .ok (.iconst 0, 1) := by decide +kernel
theorem dL_refusesFilters_229 : decode cL_refusesFilters 229 = .ok (.iload_n 3, 1) := by decide +kernel
theorem dL_refusesFilters_230 : decode cL_refusesFilters 230 = .ok (.lconst 0, 1) := by decide +kernel
theorem dL_refusesFilters_231 : decode cL_refusesFilters 231 = .ok (.invokestatic 121, 3) := by decide +kernel
theorem dL_refusesFilters_234 : decode cL_refusesFilters 234 = .ok (.ldc 99, 2) := by decide +kernel
theorem dL_refusesFilters_236 : decode cL_refusesFilters 236 = .ok (.if_icmp .ne 113, 3) := by decide +kernel
theorem dL_refusesFilters_239 : decode cL_refusesFilters 239 = .ok (.aload_n 0, 1) := by decide +kernel
theorem dL_refusesFilters_240 : decode cL_refusesFilters 240 = .ok (.bipush 7, 2) := by decide +kernel
theorem dL_refusesFilters_242 : decode cL_refusesFilters 242 = .ok (.iconst 0, 1) := by decide +kernel
theorem dL_refusesFilters_243 : decode cL_refusesFilters 243 = .ok (.iconst 5, 1) := by decide +kernel
theorem dL_refusesFilters_244 : decode cL_refusesFilters 244 = .ok (.iload_n 1, 1) := by decide +kernel
theorem dL_refusesFilters_245 : decode cL_refusesFilters 245 = .ok (.iconst 0, 1) := by decide +kernel
theorem dL_refusesFilters_246 : decode cL_refusesFilters 246 = .ok (.iconst 3, 1) := by decide +kernel
theorem dL_refusesFilters_247 : decode cL_refusesFilters 247 = .ok (.invokestatic 118, 3) := by decide +kernel
theorem dL_refusesFilters_250 : decode cL_refusesFilters 250 = .ok (.sipush 400, 3) := by decide +kernel
theorem dL_refusesFilters_253 : decode cL_refusesFilters 253 = .ok (.iconst 0, 1) := by decide +kernel
theorem dL_refusesFilters_254 : decode cL_refusesFilters 254 = .ok (.invokestatic 125, 3) := by decide +kernel
theorem dL_refusesFilters_257 : decode cL_refusesFilters 257 = .ok (.invokestatic 121, 3) := by decide +kernel
theorem dL_refusesFilters_260 : decode cL_refusesFilters 260 = .ok (.ldc 99, 2) := by decide +kernel
theorem dL_refusesFilters_262 : decode cL_refusesFilters 262 = .ok (.if_icmp .ne 87, 3) := by decide +kernel
theorem dL_refusesFilters_265 : decode cL_refusesFilters 265 = .ok (.aload_n 0, 1) := by decide +kernel
theorem dL_refusesFilters_266 : decode cL_refusesFilters 266 = .ok (.bipush 7, 2) := by decide +kernel
theorem dL_refusesFilters_268 : decode cL_refusesFilters 268 = .ok (.iconst 0, 1) := by decide +kernel
theorem dL_refusesFilters_269 : decode cL_refusesFilters 269 = .ok (.iconst 5, 1) := by decide +kernel
theorem dL_refusesFilters_270 : decode cL_refusesFilters 270 = .ok (.iconst 0, 1) := by decide +kernel
theorem dL_refusesFilters_271 : decode cL_refusesFilters 271 = .ok (.iload_n 1, 1) := by decide +kernel
theorem dL_refusesFilters_272 : decode cL_refusesFilters 272 = .ok (.iconst (-1), 1) := by decide +kernel
theorem dL_refusesFilters_273 : decode cL_refusesFilters 273 = .ok (.bipush 99, 2) := by decide +kernel
theorem dL_refusesFilters_275 : decode cL_refusesFilters 275 = .ok (.invokestatic 118, 3) := by decide +kernel
theorem dL_refusesFilters_278 : decode cL_refusesFilters 278 = .ok (.iconst 0, 1) := by decide +kernel
theorem dL_refusesFilters_279 : decode cL_refusesFilters 279 = .ok (.invokestatic 125, 3) := by decide +kernel
theorem dL_refusesFilters_282 : decode cL_refusesFilters 282 = .ok (.invokestatic 121, 3) := by decide +kernel
theorem dL_refusesFilters_285 : decode cL_refusesFilters 285 = .ok (.ldc 102, 2) := by decide +kernel
theorem dL_refusesFilters_287 : decode cL_refusesFilters 287 = .ok (.if_icmp .ne 62, 3) := by decide +kernel
theorem dL_refusesFilters_290 : decode cL_refusesFilters 290 = .ok (.aload_n 0, 1) := by decide +kernel
theorem dL_refusesFilters_291 : decode cL_refusesFilters 291 = .ok (.bipush 8, 2) := by decide +kernel
theorem dL_refusesFilters_293 : decode cL_refusesFilters 293 = .ok (.iload_n 1, 1) := by decide +kernel
theorem dL_refusesFilters_294 : decode cL_refusesFilters 294 = .ok (.bipush 33, 2) := by decide +kernel
theorem dL_refusesFilters_296 : decode cL_refusesFilters 296 = .ok (.bipush 126, 2) := by decide +kernel
theorem dL_refusesFilters_298 : decode cL_refusesFilters 298 = .ok (.invokestatic 113, 3) := by decide +kernel
theorem dL_refusesFilters_301 : decode cL_refusesFilters 301 = .ok (.iconst 0, 1) := by decide +kernel
theorem dL_refusesFilters_302 : decode cL_refusesFilters 302 = .ok (.lconst 0, 1) := by decide +kernel
theorem dL_refusesFilters_303 : decode cL_refusesFilters 303 = .ok (.invokestatic 121, 3) := by decide +kernel
theorem dL_refusesFilters_306 : decode cL_refusesFilters 306 = .ok (.ldc 102, 2) := by decide +kernel
theorem dL_refusesFilters_308 : decode cL_refusesFilters 308 = .ok (.if_icmp .ne 41, 3) := by decide +kernel
theorem dL_refusesFilters_311 : decode cL_refusesFilters 311 = .ok (.aload_n 0, 1) := by decide +kernel
theorem dL_refusesFilters_312 : decode cL_refusesFilters 312 = .ok (.bipush 10, 2) := by decide +kernel
theorem dL_refusesFilters_314 : decode cL_refusesFilters 314 = .ok (.iload_n 1, 1) := by decide +kernel
theorem dL_refusesFilters_315 : decode cL_refusesFilters 315 = .ok (.iconst 0, 1) := by decide +kernel
theorem dL_refusesFilters_316 : decode cL_refusesFilters 316 = .ok (.iconst 1, 1) := by decide +kernel
theorem dL_refusesFilters_317 : decode cL_refusesFilters 317 = .ok (.invokestatic 113, 3) := by decide +kernel
theorem dL_refusesFilters_320 : decode cL_refusesFilters 320 = .ok (.iconst 0, 1) := by decide +kernel
theorem dL_refusesFilters_321 : decode cL_refusesFilters 321 = .ok (.lconst 0, 1) := by decide +kernel
theorem dL_refusesFilters_322 : decode cL_refusesFilters 322 = .ok (.invokestatic 121, 3) := by decide +kernel
theorem dL_refusesFilters_325 : decode cL_refusesFilters 325 = .ok (.ldc 102, 2) := by decide +kernel
theorem dL_refusesFilters_327 : decode cL_refusesFilters 327 = .ok (.if_icmp .ne 22, 3) := by decide +kernel
theorem dL_refusesFilters_330 : decode cL_refusesFilters 330 = .ok (.aload_n 0, 1) := by decide +kernel
theorem dL_refusesFilters_331 : decode cL_refusesFilters 331 = .ok (.bipush 11, 2) := by decide +kernel
theorem dL_refusesFilters_333 : decode cL_refusesFilters 333 = .ok (.iload_n 1, 1) := by decide +kernel
theorem dL_refusesFilters_334 : decode cL_refusesFilters 334 = .ok (.iconst 0, 1) := by decide +kernel
theorem dL_refusesFilters_335 : decode cL_refusesFilters 335 = .ok (.iconst 1, 1) := by decide +kernel
theorem dL_refusesFilters_336 : decode cL_refusesFilters 336 = .ok (.invokestatic 113, 3) := by decide +kernel
theorem dL_refusesFilters_339 : decode cL_refusesFilters 339 = .ok (.iconst 0, 1) := by decide +kernel
theorem dL_refusesFilters_340 : decode cL_refusesFilters 340 = .ok (.lconst 0, 1) := by decide +kernel
theorem dL_refusesFilters_341 : decode cL_refusesFilters 341 = .ok (.invokestatic 121, 3) := by decide +kernel
theorem dL_refusesFilters_344 : decode cL_refusesFilters 344 = .ok (.ldc 102, 2) := by decide +kernel
theorem dL_refusesFilters_346 : decode cL_refusesFilters 346 = .ok (.if_icmp .eq 5, 3) := by decide +kernel
theorem dL_refusesFilters_349 : decode cL_refusesFilters 349 = .ok (.iconst 0, 1) := by decide +kernel
theorem dL_refusesFilters_350 : decode cL_refusesFilters 350 = .ok (.ireturn, 1) := by decide +kernel
theorem dL_refusesFilters_351 : decode cL_refusesFilters 351 = .ok (.aload_n 0, 1) := by decide +kernel
theorem dL_refusesFilters_352 : decode cL_refusesFilters 352 = .ok (.bipush 15, 2) := by decide +kernel
theorem dL_refusesFilters_354 : decode cL_refusesFilters 354 = .ok (.iload_n 2, 1) := by decide +kernel
theorem dL_refusesFilters_355 : decode cL_refusesFilters 355 = .ok (.iconst 0, 1) := by decide +kernel
theorem dL_refusesFilters_356 : decode cL_refusesFilters 356 = .ok (.iconst 0, 1) := by decide +kernel
theorem dL_refusesFilters_357 : decode cL_refusesFilters 357 = .ok (.iconst 0, 1) := by decide +kernel
theorem dL_refusesFilters_358 : decode cL_refusesFilters 358 = .ok (.iconst 0, 1) := by decide +kernel
theorem dL_refusesFilters_359 : decode cL_refusesFilters 359 = .ok (.invokestatic 125, 3) := by decide +kernel
theorem dL_refusesFilters_362 : decode cL_refusesFilters 362 = .ok (.invokestatic 121, 3) := by decide +kernel
theorem dL_refusesFilters_365 : decode cL_refusesFilters 365 = .ok (.ldc 99, 2) := by decide +kernel
theorem dL_refusesFilters_367 : decode cL_refusesFilters 367 = .ok (.if_icmp .ne 320, 3) := by decide +kernel
theorem dL_refusesFilters_370 : decode cL_refusesFilters 370 = .ok (.aload_n 0, 1) := by decide +kernel
theorem dL_refusesFilters_371 : decode cL_refusesFilters 371 = .ok (.bipush 16, 2) := by decide +kernel
theorem dL_refusesFilters_373 : decode cL_refusesFilters 373 = .ok (.iload_n 2, 1) := by decide +kernel
theorem dL_refusesFilters_374 : decode cL_refusesFilters 374 = .ok (.iconst 0, 1) := by decide +kernel
theorem dL_refusesFilters_375 : decode cL_refusesFilters 375 = .ok (.bipush 9, 2) := by decide +kernel
theorem dL_refusesFilters_377 : decode cL_refusesFilters 377 = .ok (.bipush 9, 2) := by decide +kernel
theorem dL_refusesFilters_379 : decode cL_refusesFilters 379 = .ok (.iconst 0, 1) := by decide +kernel
theorem dL_refusesFilters_380 : decode cL_refusesFilters 380 = .ok (.invokestatic 125, 3) := by decide +kernel
theorem dL_refusesFilters_383 : decode cL_refusesFilters 383 = .ok (.invokestatic 121, 3) := by decide +kernel
theorem dL_refusesFilters_386 : decode cL_refusesFilters 386 = .ok (.ldc 99, 2) := by decide +kernel
theorem dL_refusesFilters_388 : decode cL_refusesFilters 388 = .ok (.if_icmp .ne 299, 3) := by decide +kernel
theorem dL_refusesFilters_391 : decode cL_refusesFilters 391 = .ok (.aload_n 0, 1) := by decide +kernel
theorem dL_refusesFilters_392 : decode cL_refusesFilters 392 = .ok (.bipush 16, 2) := by decide +kernel
theorem dL_refusesFilters_394 : decode cL_refusesFilters 394 = .ok (.iconst 0, 1) := by decide +kernel
theorem dL_refusesFilters_395 : decode cL_refusesFilters 395 = .ok (.iload_n 3, 1) := by decide +kernel
theorem dL_refusesFilters_396 : decode cL_refusesFilters 396 = .ok (.bipush 9, 2) := by decide +kernel
theorem dL_refusesFilters_398 : decode cL_refusesFilters 398 = .ok (.bipush 9, 2) := by decide +kernel
theorem dL_refusesFilters_400 : decode cL_refusesFilters 400 = .ok (.iconst 0, 1) := by decide +kernel
theorem dL_refusesFilters_401 : decode cL_refusesFilters 401 = .ok (.invokestatic 125, 3) := by decide +kernel
theorem dL_refusesFilters_404 : decode cL_refusesFilters 404 = .ok (.invokestatic 121, 3) := by decide +kernel
theorem dL_refusesFilters_407 : decode cL_refusesFilters 407 = .ok (.ldc 99, 2) := by decide +kernel
theorem dL_refusesFilters_409 : decode cL_refusesFilters 409 = .ok (.if_icmp .ne 278, 3) := by decide +kernel
theorem dL_refusesFilters_412 : decode cL_refusesFilters 412 = .ok (.aload_n 0, 1) := by decide +kernel
theorem dL_refusesFilters_413 : decode cL_refusesFilters 413 = .ok (.bipush 16, 2) := by decide +kernel
theorem dL_refusesFilters_415 : decode cL_refusesFilters 415 = .ok (.iconst 0, 1) := by decide +kernel
theorem dL_refusesFilters_416 : decode cL_refusesFilters 416 = .ok (.iconst 0, 1) := by decide +kernel
theorem dL_refusesFilters_417 : decode cL_refusesFilters 417 = .ok (.iload_n 1, 1) := by decide +kernel
theorem dL_refusesFilters_418 : decode cL_refusesFilters 418 = .ok (.iconst 0, 1) := by decide +kernel
theorem dL_refusesFilters_419 : decode cL_refusesFilters 419 = .ok (.iconst 2, 1) := by decide +kernel
theorem dL_refusesFilters_420 : decode cL_refusesFilters 420 = .ok (.invokestatic 118, 3) := by decide +kernel
theorem dL_refusesFilters_423 : decode cL_refusesFilters 423 = .ok (.iconst 0, 1) := by decide +kernel
theorem dL_refusesFilters_424 : decode cL_refusesFilters 424 = .ok (.iconst 0, 1) := by decide +kernel
theorem dL_refusesFilters_425 : decode cL_refusesFilters 425 = .ok (.invokestatic 125, 3) := by decide +kernel
theorem dL_refusesFilters_428 : decode cL_refusesFilters 428 = .ok (.invokestatic 121, 3) := by decide +kernel
theorem dL_refusesFilters_431 : decode cL_refusesFilters 431 = .ok (.ldc 102, 2) := by decide +kernel
theorem dL_refusesFilters_433 : decode cL_refusesFilters 433 = .ok (.if_icmp .ne 254, 3) := by decide +kernel
theorem dL_refusesFilters_436 : decode cL_refusesFilters 436 = .ok (.aload_n 0, 1) := by decide +kernel
theorem dL_refusesFilters_437 : decode cL_refusesFilters 437 = .ok (.bipush 16, 2) := by decide +kernel
theorem dL_refusesFilters_439 : decode cL_refusesFilters 439 = .ok (.iconst 0, 1) := by decide +kernel
theorem dL_refusesFilters_440 : decode cL_refusesFilters 440 = .ok (.iconst 0, 1) := by decide +kernel
theorem dL_refusesFilters_441 : decode cL_refusesFilters 441 = .ok (.iconst 0, 1) := by decide +kernel
theorem dL_refusesFilters_442 : decode cL_refusesFilters 442 = .ok (.iload_n 1, 1) := by decide +kernel
theorem dL_refusesFilters_443 : decode cL_refusesFilters 443 = .ok (.iconst 0, 1) := by decide +kernel
theorem dL_refusesFilters_444 : decode cL_refusesFilters 444 = .ok (.iconst 1, 1) := by decide +kernel
theorem dL_refusesFilters_445 : decode cL_refusesFilters 445 = .ok (.invokestatic 118, 3) := by decide +kernel
theorem dL_refusesFilters_448 : decode cL_refusesFilters 448 = .ok (.iconst 0, 1) := by decide +kernel
theorem dL_refusesFilters_449 : decode cL_refusesFilters 449 = .ok (.invokestatic 125, 3) := by decide +kernel
theorem dL_refusesFilters_452 : decode cL_refusesFilters 452 = .ok (.invokestatic 121, 3) := by decide +kernel
theorem dL_refusesFilters_455 : decode cL_refusesFilters 455 = .ok (.ldc 102, 2) := by decide +kernel
theorem dL_refusesFilters_457 : decode cL_refusesFilters 457 = .ok (.if_icmp .ne 230, 3) := by decide +kernel
theorem dL_refusesFilters_460 : decode cL_refusesFilters 460 = .ok (.aload_n 0, 1) := by decide +kernel
theorem dL_refusesFilters_461 : decode cL_refusesFilters 461 = .ok (.bipush 17, 2) := by decide +kernel
theorem dL_refusesFilters_463 : decode cL_refusesFilters 463 = .ok (.iload_n 3, 1) := by decide +kernel
theorem dL_refusesFilters_464 : decode cL_refusesFilters 464 = .ok (.bipush 9, 2) := by decide +kernel
theorem dL_refusesFilters_466 : decode cL_refusesFilters 466 = .ok (.lconst 0, 1) := by decide +kernel
theorem dL_refusesFilters_467 : decode cL_refusesFilters 467 = .ok (.invokestatic 121, 3) := by decide +kernel
theorem dL_refusesFilters_470 : decode cL_refusesFilters 470 = .ok (.ldc 99, 2) := by decide +kernel
theorem dL_refusesFilters_472 : decode cL_refusesFilters 472 = .ok (.if_icmp .ne 215, 3) := by decide +kernel
theorem dL_refusesFilters_475 : decode cL_refusesFilters 475 = .ok (.aload_n 0, 1) := by decide +kernel
theorem dL_refusesFilters_476 : decode cL_refusesFilters 476 = .ok (.bipush 17, 2) := by decide +kernel
theorem dL_refusesFilters_478 : decode cL_refusesFilters 478 = .ok (.iconst 0, 1) := by decide +kernel
theorem dL_refusesFilters_479 : decode cL_refusesFilters 479 = .ok (.iload_n 1, 1) := by decide +kernel
theorem dL_refusesFilters_480 : decode cL_refusesFilters 480 = .ok (.iconst 0, 1) := by decide +kernel
theorem dL_refusesFilters_481 : decode cL_refusesFilters 481 = .ok (.iconst 4, 1) := by decide +kernel
theorem dL_refusesFilters_482 : decode cL_refusesFilters 482 = .ok (.invokestatic 113, 3) := by decide +kernel
theorem dL_refusesFilters_485 : decode cL_refusesFilters 485 = .ok (.lconst 0, 1) := by decide +kernel
theorem dL_refusesFilters_486 : decode cL_refusesFilters 486 = .ok (.invokestatic 121, 3) := by decide +kernel
theorem dL_refusesFilters_489 : decode cL_refusesFilters 489 = .ok (.ldc 102, 2) := by decide +kernel
theorem dL_refusesFilters_491 : decode cL_refusesFilters 491 = .ok (.if_icmp .ne 196, 3) := by decide +kernel
theorem dL_refusesFilters_494 : decode cL_refusesFilters 494 = .ok (.aload_n 0, 1) := by decide +kernel
theorem dL_refusesFilters_495 : decode cL_refusesFilters 495 = .ok (.bipush 18, 2) := by decide +kernel
theorem dL_refusesFilters_497 : decode cL_refusesFilters 497 = .ok (.iload_n 3, 1) := by decide +kernel
theorem dL_refusesFilters_498 : decode cL_refusesFilters 498 = .ok (.iconst (-1), 1) := by decide +kernel
theorem dL_refusesFilters_499 : decode cL_refusesFilters 499 = .ok (.lconst 0, 1) := by decide +kernel
theorem dL_refusesFilters_500 : decode cL_refusesFilters 500 = .ok (.invokestatic 121, 3) := by decide +kernel
theorem dL_refusesFilters_503 : decode cL_refusesFilters 503 = .ok (.ldc 99, 2) := by decide +kernel
theorem dL_refusesFilters_505 : decode cL_refusesFilters 505 = .ok (.if_icmp .ne 182, 3) := by decide +kernel
theorem dL_refusesFilters_508 : decode cL_refusesFilters 508 = .ok (.aload_n 0, 1) := by decide +kernel
theorem dL_refusesFilters_509 : decode cL_refusesFilters 509 = .ok (.bipush 18, 2) := by decide +kernel
theorem dL_refusesFilters_511 : decode cL_refusesFilters 511 = .ok (.iconst 0, 1) := by decide +kernel
theorem dL_refusesFilters_512 : decode cL_refusesFilters 512 = .ok (.iload_n 1, 1) := by decide +kernel
theorem dL_refusesFilters_513 : decode cL_refusesFilters 513 = .ok (.iconst 2, 1) := by decide +kernel
theorem dL_refusesFilters_514 : decode cL_refusesFilters 514 = .ok (.if_icmp .ne 8, 3) := by decide +kernel
theorem dL_refusesFilters_517 : decode cL_refusesFilters 517 = .ok (.ldc 112, 2) := by decide +kernel
theorem dL_refusesFilters_519 : decode cL_refusesFilters 519 = .ok (.goto 4, 3) := by decide +kernel
theorem dL_refusesFilters_522 : decode cL_refusesFilters 522 = .ok (.iconst (-1), 1) := by decide +kernel
theorem dL_refusesFilters_523 : decode cL_refusesFilters 523 = .ok (.lconst 0, 1) := by decide +kernel
theorem dL_refusesFilters_524 : decode cL_refusesFilters 524 = .ok (.invokestatic 121, 3) := by decide +kernel
theorem dL_refusesFilters_527 : decode cL_refusesFilters 527 = .ok (.ldc 102, 2) := by decide +kernel
theorem dL_refusesFilters_529 : decode cL_refusesFilters 529 = .ok (.if_icmp .ne 158, 3) := by decide +kernel
theorem dL_refusesFilters_532 : decode cL_refusesFilters 532 = .ok (.aload_n 0, 1) := by decide +kernel
theorem dL_refusesFilters_533 : decode cL_refusesFilters 533 = .ok (.bipush 19, 2) := by decide +kernel
theorem dL_refusesFilters_535 : decode cL_refusesFilters 535 = .ok (.iload_n 2, 1) := by decide +kernel
theorem dL_refusesFilters_536 : decode cL_refusesFilters 536 = .ok (.iconst 0, 1) := by decide +kernel
theorem dL_refusesFilters_537 : decode cL_refusesFilters 537 = .ok (.iconst 0, 1) := by decide +kernel
theorem dL_refusesFilters_538 : decode cL_refusesFilters 538 = .ok (.bipush 9, 2) := by decide +kernel
theorem dL_refusesFilters_540 : decode cL_refusesFilters 540 = .ok (.iconst 0, 1) := by decide +kernel
theorem dL_refusesFilters_541 : decode cL_refusesFilters 541 = .ok (.invokestatic 125, 3) := by decide +kernel
theorem dL_refusesFilters_544 : decode cL_refusesFilters 544 = .ok (.invokestatic 121, 3) := by decide +kernel
theorem dL_refusesFilters_547 : decode cL_refusesFilters 547 = .ok (.ldc 99, 2) := by decide +kernel
theorem dL_refusesFilters_549 : decode cL_refusesFilters 549 = .ok (.if_icmp .ne 138, 3) := by decide +kernel
theorem dL_refusesFilters_552 : decode cL_refusesFilters 552 = .ok (.aload_n 0, 1) := by decide +kernel
theorem dL_refusesFilters_553 : decode cL_refusesFilters 553 = .ok (.bipush 19, 2) := by decide +kernel
theorem dL_refusesFilters_555 : decode cL_refusesFilters 555 = .ok (.iconst 0, 1) := by decide +kernel
theorem dL_refusesFilters_556 : decode cL_refusesFilters 556 = .ok (.iload_n 3, 1) := by decide +kernel
theorem dL_refusesFilters_557 : decode cL_refusesFilters 557 = .ok (.iconst 0, 1) := by decide +kernel
theorem dL_refusesFilters_558 : decode cL_refusesFilters 558 = .ok (.bipush 9, 2) := by decide +kernel
theorem dL_refusesFilters_560 : decode cL_refusesFilters 560 = .ok (.iconst 0, 1) := by decide +kernel
theorem dL_refusesFilters_561 : decode cL_refusesFilters 561 = .ok (.invokestatic 125, 3) := by decide +kernel
theorem dL_refusesFilters_564 : decode cL_refusesFilters 564 = .ok (.invokestatic 121, 3) := by decide +kernel
theorem dL_refusesFilters_567 : decode cL_refusesFilters 567 = .ok (.ldc 99, 2) := by decide +kernel
theorem dL_refusesFilters_569 : decode cL_refusesFilters 569 = .ok (.if_icmp .ne 118, 3) := by decide +kernel
theorem dL_refusesFilters_572 : decode cL_refusesFilters 572 = .ok (.aload_n 0, 1) := by decide +kernel
theorem dL_refusesFilters_573 : decode cL_refusesFilters 573 = .ok (.bipush 19, 2) := by decide +kernel
theorem dL_refusesFilters_575 : decode cL_refusesFilters 575 = .ok (.iconst 0, 1) := by decide +kernel
theorem dL_refusesFilters_576 : decode cL_refusesFilters 576 = .ok (.iconst 0, 1) := by decide +kernel
theorem dL_refusesFilters_577 : decode cL_refusesFilters 577 = .ok (.iload 4, 2) := by decide +kernel
theorem dL_refusesFilters_579 : decode cL_refusesFilters 579 = .ok (.iconst 0, 1) := by decide +kernel
theorem dL_refusesFilters_580 : decode cL_refusesFilters 580 = .ok (.iconst 0, 1) := by decide +kernel
theorem dL_refusesFilters_581 : decode cL_refusesFilters 581 = .ok (.invokestatic 125, 3) := by decide +kernel
theorem dL_refusesFilters_584 : decode cL_refusesFilters 584 = .ok (.invokestatic 121, 3) := by decide +kernel
theorem dL_refusesFilters_587 : decode cL_refusesFilters 587 = .ok (.ldc 99, 2) := by decide +kernel
theorem dL_refusesFilters_589 : decode cL_refusesFilters 589 = .ok (.if_icmp .ne 98, 3) := by decide +kernel
theorem dL_refusesFilters_592 : decode cL_refusesFilters 592 = .ok (.aload_n 0, 1) := by decide +kernel
theorem dL_refusesFilters_593 : decode cL_refusesFilters 593 = .ok (.bipush 19, 2) := by decide +kernel
theorem dL_refusesFilters_595 : decode cL_refusesFilters 595 = .ok (.iconst 0, 1) := by decide +kernel
theorem dL_refusesFilters_596 : decode cL_refusesFilters 596 = .ok (.iconst 0, 1) := by decide +kernel
theorem dL_refusesFilters_597 : decode cL_refusesFilters 597 = .ok (.iconst 0, 1) := by decide +kernel
theorem dL_refusesFilters_598 : decode cL_refusesFilters 598 = .ok (.iload_n 1, 1) := by decide +kernel
theorem dL_refusesFilters_599 : decode cL_refusesFilters 599 = .ok (.iconst 0, 1) := by decide +kernel
theorem dL_refusesFilters_600 : decode cL_refusesFilters 600 = .ok (.iconst 2, 1) := by decide +kernel
theorem dL_refusesFilters_601 : decode cL_refusesFilters 601 = .ok (.invokestatic 118, 3) := by decide +kernel
theorem dL_refusesFilters_604 : decode cL_refusesFilters 604 = .ok (.iconst 0, 1) := by decide +kernel
theorem dL_refusesFilters_605 : decode cL_refusesFilters 605 = .ok (.invokestatic 125, 3) := by decide +kernel
theorem dL_refusesFilters_608 : decode cL_refusesFilters 608 = .ok (.invokestatic 121, 3) := by decide +kernel
theorem dL_refusesFilters_611 : decode cL_refusesFilters 611 = .ok (.ldc 102, 2) := by decide +kernel
theorem dL_refusesFilters_613 : decode cL_refusesFilters 613 = .ok (.if_icmp .ne 74, 3) := by decide +kernel
theorem dL_refusesFilters_616 : decode cL_refusesFilters 616 = .ok (.aload_n 0, 1) := by decide +kernel
theorem dL_refusesFilters_617 : decode cL_refusesFilters 617 = .ok (.bipush 20, 2) := by decide +kernel
theorem dL_refusesFilters_619 : decode cL_refusesFilters 619 = .ok (.iload_n 2, 1) := by decide +kernel
theorem dL_refusesFilters_620 : decode cL_refusesFilters 620 = .ok (.iconst 0, 1) := by decide +kernel
theorem dL_refusesFilters_621 : decode cL_refusesFilters 621 = .ok (.iconst 0, 1) := by decide +kernel
theorem dL_refusesFilters_622 : decode cL_refusesFilters 622 = .ok (.iconst 0, 1) := by decide +kernel
theorem dL_refusesFilters_623 : decode cL_refusesFilters 623 = .ok (.iconst 0, 1) := by decide +kernel
theorem dL_refusesFilters_624 : decode cL_refusesFilters 624 = .ok (.invokestatic 125, 3) := by decide +kernel
theorem dL_refusesFilters_627 : decode cL_refusesFilters 627 = .ok (.invokestatic 121, 3) := by decide +kernel
theorem dL_refusesFilters_630 : decode cL_refusesFilters 630 = .ok (.ldc 99, 2) := by decide +kernel
theorem dL_refusesFilters_632 : decode cL_refusesFilters 632 = .ok (.if_icmp .ne 55, 3) := by decide +kernel
theorem dL_refusesFilters_635 : decode cL_refusesFilters 635 = .ok (.aload_n 0, 1) := by decide +kernel
theorem dL_refusesFilters_636 : decode cL_refusesFilters 636 = .ok (.bipush 23, 2) := by decide +kernel
theorem dL_refusesFilters_638 : decode cL_refusesFilters 638 = .ok (.iload_n 1, 1) := by decide +kernel
theorem dL_refusesFilters_639 : decode cL_refusesFilters 639 = .ok (.iconst 0, 1) := by decide +kernel
theorem dL_refusesFilters_640 : decode cL_refusesFilters 640 = .ok (.bipush 7, 2) := by decide +kernel
theorem dL_refusesFilters_642 : decode cL_refusesFilters 642 = .ok (.invokestatic 113, 3) := by decide +kernel
theorem dL_refusesFilters_645 : decode cL_refusesFilters 645 = .ok (.iconst 0, 1) := by decide +kernel
theorem dL_refusesFilters_646 : decode cL_refusesFilters 646 = .ok (.lconst 0, 1) := by decide +kernel
theorem dL_refusesFilters_647 : decode cL_refusesFilters 647 = .ok (.invokestatic 121, 3) := by decide +kernel
theorem dL_refusesFilters_650 : decode cL_refusesFilters 650 = .ok (.ldc 102, 2) := by decide +kernel
theorem dL_refusesFilters_652 : decode cL_refusesFilters 652 = .ok (.if_icmp .ne 35, 3) := by decide +kernel
theorem dL_refusesFilters_655 : decode cL_refusesFilters 655 = .ok (.aload_n 0, 1) := by decide +kernel
theorem dL_refusesFilters_656 : decode cL_refusesFilters 656 = .ok (.bipush 24, 2) := by decide +kernel
theorem dL_refusesFilters_658 : decode cL_refusesFilters 658 = .ok (.iload_n 2, 1) := by decide +kernel
theorem dL_refusesFilters_659 : decode cL_refusesFilters 659 = .ok (.iconst 0, 1) := by decide +kernel
theorem dL_refusesFilters_660 : decode cL_refusesFilters 660 = .ok (.lconst 0, 1) := by decide +kernel
theorem dL_refusesFilters_661 : decode cL_refusesFilters 661 = .ok (.invokestatic 121, 3) := by decide +kernel
theorem dL_refusesFilters_664 : decode cL_refusesFilters 664 = .ok (.ldc 99, 2) := by decide +kernel
theorem dL_refusesFilters_666 : decode cL_refusesFilters 666 = .ok (.if_icmp .ne 21, 3) := by decide +kernel
theorem dL_refusesFilters_669 : decode cL_refusesFilters 669 = .ok (.aload_n 0, 1) := by decide +kernel
theorem dL_refusesFilters_670 : decode cL_refusesFilters 670 = .ok (.bipush 24, 2) := by decide +kernel
theorem dL_refusesFilters_672 : decode cL_refusesFilters 672 = .ok (.iconst 0, 1) := by decide +kernel
theorem dL_refusesFilters_673 : decode cL_refusesFilters 673 = .ok (.iload_n 3, 1) := by decide +kernel
theorem dL_refusesFilters_674 : decode cL_refusesFilters 674 = .ok (.lconst 0, 1) := by decide +kernel
theorem dL_refusesFilters_675 : decode cL_refusesFilters 675 = .ok (.invokestatic 121, 3) := by decide +kernel
theorem dL_refusesFilters_678 : decode cL_refusesFilters 678 = .ok (.ldc 99, 2) := by decide +kernel
theorem dL_refusesFilters_680 : decode cL_refusesFilters 680 = .ok (.if_icmp .ne 7, 3) := by decide +kernel
theorem dL_refusesFilters_683 : decode cL_refusesFilters 683 = .ok (.iconst 1, 1) := by decide +kernel
theorem dL_refusesFilters_684 : decode cL_refusesFilters 684 = .ok (.goto 4, 3) := by decide +kernel
theorem dL_refusesFilters_687 : decode cL_refusesFilters 687 = .ok (.iconst 0, 1) := by decide +kernel
theorem dL_refusesFilters_688 : decode cL_refusesFilters 688 = .ok (.ireturn, 1) := by decide +kernel
theorem dL_refused_0 : decode cL_refused 0 = .ok (.aload_n 0, 1) := by decide +kernel
theorem dL_refused_1 : decode cL_refused 1 = .ok (.invokestatic 129, 3) := by decide +kernel
theorem dL_refused_4 : decode cL_refused 4 = .ok (.lstore_n 1, 1) := by decide +kernel
theorem dL_refused_5 : decode cL_refused 5 = .ok (.aload_n 0, 1) := by decide +kernel
theorem dL_refused_6 : decode cL_refused 6 = .ok (.bipush 6, 2) := by decide +kernel
theorem dL_refused_8 : decode cL_refused 8 = .ok (.invokevirtual 90, 3) := by decide +kernel
theorem dL_refused_11 : decode cL_refused 11 = .ok (.istore_n 3, 1) := by decide +kernel
theorem dL_refused_12 : decode cL_refused 12 = .ok (.iconst 0, 1) := by decide +kernel
theorem dL_refused_13 : decode cL_refused 13 = .ok (.istore 4, 2) := by decide +kernel
theorem dL_refused_15 : decode cL_refused 15 = .ok (.iload 4, 2) := by decide +kernel
theorem dL_refused_17 : decode cL_refused 17 = .ok (.iconst 4, 1) := by decide +kernel
theorem dL_refused_18 : decode cL_refused 18 = .ok (.if_icmp .ge 29, 3) := by decide +kernel
theorem dL_refused_21 : decode cL_refused 21 = .ok (.aload_n 0, 1) := by decide +kernel
theorem dL_refused_22 : decode cL_refused 22 = .ok (.iload 4, 2) := by decide +kernel
theorem dL_refused_24 : decode cL_refused 24 = .ok (.invokestatic 133, 3) := by decide +kernel
theorem dL_refused_27 : decode cL_refused 27 = .ok (.ifCond .eq 12, 3) := by decide +kernel
theorem dL_refused_30 : decode cL_refused 30 = .ok (.aload_n 0, 1) := by decide +kernel
theorem dL_refused_31 : decode cL_refused 31 = .ok (.iload 4, 2) := by decide +kernel
theorem dL_refused_33 : decode cL_refused 33 = .ok (.invokestatic 137, 3) := by decide +kernel
theorem dL_refused_36 : decode cL_refused 36 = .ok (.ifCond .ne 5, 3) := by decide +kernel
theorem dL_refused_39 : decode cL_refused 39 = .ok (.iconst 0, 1) := by decide +kernel
theorem dL_refused_40 : decode cL_refused 40 = .ok (.ireturn, 1) := by decide +kernel
theorem dL_refused_41 : decode cL_refused 41 = .ok (.iinc 4 1, 3) := by decide +kernel
theorem dL_refused_44 : decode cL_refused 44 = .ok (.goto (-29), 3) := by decide +kernel
theorem dL_refused_47 : decode cL_refused 47 = .ok (.aload_n 0, 1) := by decide +kernel
theorem dL_refused_48 : decode cL_refused 48 = .ok (.invokestatic 129, 3) := by decide +kernel
theorem dL_refused_51 : decode cL_refused 51 = .ok (.lload_n 1, 1) := by decide +kernel
theorem dL_refused_52 : decode cL_refused 52 = .ok (.lcmp, 1) := by decide +kernel
theorem dL_refused_53 : decode cL_refused 53 = .ok (.ifCond .ne 17, 3) := by decide +kernel
theorem dL_refused_56 : decode cL_refused 56 = .ok (.aload_n 0, 1) := by decide +kernel
theorem dL_refused_57 : decode cL_refused 57 = .ok (.bipush 6, 2) := by decide +kernel
theorem dL_refused_59 : decode cL_refused 59 = .ok (.invokevirtual 90, 3) := by decide +kernel
theorem dL_refused_62 : decode cL_refused 62 = .ok (.iload_n 3, 1) := by decide +kernel
theorem dL_refused_63 : decode cL_refused 63 = .ok (.if_icmp .ne 7, 3) := by decide +kernel
theorem dL_refused_66 : decode cL_refused 66 = .ok (.iconst 1, 1) := by decide +kernel
theorem dL_refused_67 : decode cL_refused 67 = .ok (.goto 4, 3) := by decide +kernel
theorem dL_refused_70 : decode cL_refused 70 = .ok (.iconst 0, 1) := by decide +kernel
theorem dL_refused_71 : decode cL_refused 71 = .ok (.ireturn, 1) := by decide +kernel
theorem dL_types_0 : decode cL_types 0 = .ok (.iconst 1, 1) := by decide +kernel
theorem dL_types_1 : decode cL_types 1 = .ok (.istore_n 3, 1) := by decide +kernel
theorem dL_types_2 : decode cL_types 2 = .ok (.bipush 56, 2) := by decide +kernel
theorem dL_types_4 : decode cL_types 4 = .ok (.istore 4, 2) := by decide +kernel
theorem dL_types_6 : decode cL_types 6 = .ok (.iload 4, 2) := by decide +kernel
theorem dL_types_8 : decode cL_types 8 = .ok (.ifCond .lt 44, 3) := by decide +kernel
theorem dL_types_11 : decode cL_types 11 = .ok (.lload_n 1, 1) := by decide +kernel
theorem dL_types_12 : decode cL_types 12 = .ok (.iload 4, 2) := by decide +kernel
theorem dL_types_14 : decode cL_types 14 = .ok (.lshr, 1) := by decide +kernel
theorem dL_types_15 : decode cL_types 15 = .ok (.ldc2_w 140, 3) := by decide +kernel
theorem dL_types_18 : decode cL_types 18 = .ok (.land, 1) := by decide +kernel
theorem dL_types_19 : decode cL_types 19 = .ok (.l2i, 1) := by decide +kernel
theorem dL_types_20 : decode cL_types 20 = .ok (.istore 5, 2) := by decide +kernel
theorem dL_types_22 : decode cL_types 22 = .ok (.iload_n 3, 1) := by decide +kernel
theorem dL_types_23 : decode cL_types 23 = .ok (.ifCond .eq 21, 3) := by decide +kernel
theorem dL_types_26 : decode cL_types 26 = .ok (.iload 5, 2) := by decide +kernel
theorem dL_types_28 : decode cL_types 28 = .ok (.ifCond .eq 12, 3) := by decide +kernel
theorem dL_types_31 : decode cL_types 31 = .ok (.aload_n 0, 1) := by decide +kernel
theorem dL_types_32 : decode cL_types 32 = .ok (.iload 5, 2) := by decide +kernel
theorem dL_types_34 : decode cL_types 34 = .ok (.invokevirtual 43, 3) := by decide +kernel
theorem dL_types_37 : decode cL_types 37 = .ok (.ifCond .le 7, 3) := by decide +kernel
theorem dL_types_40 : decode cL_types 40 = .ok (.iconst 1, 1) := by decide +kernel
theorem dL_types_41 : decode cL_types 41 = .ok (.goto 4, 3) := by decide +kernel
theorem dL_types_44 : decode cL_types 44 = .ok (.iconst 0, 1) := by decide +kernel
theorem dL_types_45 : decode cL_types 45 = .ok (.istore_n 3, 1) := by decide +kernel
theorem dL_types_46 : decode cL_types 46 = .ok (.iinc 4 (-8), 3) := by decide +kernel
theorem dL_types_49 : decode cL_types 49 = .ok (.goto (-43), 3) := by decide +kernel
theorem dL_types_52 : decode cL_types 52 = .ok (.iload_n 3, 1) := by decide +kernel
theorem dL_types_53 : decode cL_types 53 = .ok (.ireturn, 1) := by decide +kernel
theorem dL_defines_0 : decode cL_defines 0 = .ok (.aload_n 0, 1) := by decide +kernel
theorem dL_defines_1 : decode cL_defines 1 = .ok (.invokevirtual 142, 3) := by decide +kernel
theorem dL_defines_4 : decode cL_defines 4 = .ok (.ifCond .lt 41, 3) := by decide +kernel
theorem dL_defines_7 : decode cL_defines 7 = .ok (.aload_n 0, 1) := by decide +kernel
theorem dL_defines_8 : decode cL_defines 8 = .ok (.lload_n 2, 1) := by decide +kernel
theorem dL_defines_9 : decode cL_defines 9 = .ok (.invokestatic 145, 3) := by decide +kernel
theorem dL_defines_12 : decode cL_defines 12 = .ok (.ifCond .eq 33, 3) := by decide +kernel
theorem dL_defines_15 : decode cL_defines 15 = .ok (.aload_n 0, 1) := by decide +kernel
theorem dL_defines_16 : decode cL_defines 16 = .ok (.lload 4, 2) := by decide +kernel
theorem dL_defines_18 : decode cL_defines 18 = .ok (.invokestatic 145, 3) := by decide +kernel
theorem dL_defines_21 : decode cL_defines 21 = .ok (.ifCond .eq 24, 3) := by decide +kernel
theorem dL_defines_24 : decode cL_defines 24 = .ok (.aload_n 0, 1) := by decide +kernel
theorem dL_defines_25 : decode cL_defines 25 = .ok (.iload_n 1, 1) := by decide +kernel
theorem dL_defines_26 : decode cL_defines 26 = .ok (.invokevirtual 27, 3) := by decide +kernel
theorem dL_defines_29 : decode cL_defines 29 = .ok (.iload 6, 2) := by decide +kernel
theorem dL_defines_31 : decode cL_defines 31 = .ok (.if_icmp .ne 14, 3) := by decide +kernel
theorem dL_defines_34 : decode cL_defines 34 = .ok (.aload_n 0, 1) := by decide +kernel
theorem dL_defines_35 : decode cL_defines 35 = .ok (.invokevirtual 142, 3) := by decide +kernel
theorem dL_defines_38 : decode cL_defines 38 = .ok (.ifCond .ne 7, 3) := by decide +kernel
theorem dL_defines_41 : decode cL_defines 41 = .ok (.iconst 1, 1) := by decide +kernel
theorem dL_defines_42 : decode cL_defines 42 = .ok (.goto 4, 3) := by decide +kernel
theorem dL_defines_45 : decode cL_defines 45 = .ok (.iconst 0, 1) := by decide +kernel
theorem dL_defines_46 : decode cL_defines 46 = .ok (.ireturn, 1) := by decide +kernel
theorem dL_isWritten_0 : decode cL_isWritten 0 = .ok (.iconst 0, 1) := by decide +kernel
theorem dL_isWritten_1 : decode cL_isWritten 1 = .ok (.istore 6, 2) := by decide +kernel
theorem dL_isWritten_3 : decode cL_isWritten 3 = .ok (.iconst 0, 1) := by decide +kernel
theorem dL_isWritten_4 : decode cL_isWritten 4 = .ok (.istore 7, 2) := by decide +kernel
theorem dL_isWritten_6 : decode cL_isWritten 6 = .ok (.iload 7, 2) := by decide +kernel
theorem dL_isWritten_8 : decode cL_isWritten 8 = .ok (.bipush 16, 2) := by decide +kernel
theorem dL_isWritten_10 : decode cL_isWritten 10 = .ok (.if_icmp .ge 66, 3) := by decide +kernel
theorem dL_isWritten_13 : decode cL_isWritten 13 = .ok (.iload 7, 2) := by decide +kernel
theorem dL_isWritten_15 : decode cL_isWritten 15 = .ok (.bipush 8, 2) := by decide +kernel
theorem dL_isWritten_17 : decode cL_isWritten 17 = .ok (.if_icmp .ge 7, 3) := by decide +kernel
theorem dL_isWritten_20 : decode cL_isWritten 20 = .ok (.lload_n 2, 1) := by decide +kernel
theorem dL_isWritten_21 : decode cL_isWritten 21 = .ok (.goto 5, 3) := by decide +kernel
theorem dL_isWritten_24 : decode cL_isWritten 24 = .ok (.lload 4, 2) := by decide +kernel
theorem dL_isWritten_26 : decode cL_isWritten 26 = .ok (.bipush 8, 2) := by decide +kernel
theorem dL_isWritten_28 : decode cL_isWritten 28 = .ok (.bipush 7, 2) := by decide +kernel
theorem dL_isWritten_30 : decode cL_isWritten 30 = .ok (.iload 7, 2) := by decide +kernel
theorem dL_isWritten_32 : decode cL_isWritten 32 = .ok (.bipush 8, 2) := by decide +kernel
theorem dL_isWritten_34 : decode cL_isWritten 34 = .ok (.irem, 1) := by decide +kernel
theorem dL_isWritten_35 : decode cL_isWritten 35 = .ok (.isub, 1) := by decide +kernel
theorem dL_isWritten_36 : decode cL_isWritten 36 = .ok (.imul, 1) := by decide +kernel
theorem dL_isWritten_37 : decode cL_isWritten 37 = .ok (.lshr, 1) := by decide +kernel
theorem dL_isWritten_38 : decode cL_isWritten 38 = .ok (.ldc2_w 140, 3) := by decide +kernel
theorem dL_isWritten_41 : decode cL_isWritten 41 = .ok (.land, 1) := by decide +kernel
theorem dL_isWritten_42 : decode cL_isWritten 42 = .ok (.l2i, 1) := by decide +kernel
theorem dL_isWritten_43 : decode cL_isWritten 43 = .ok (.istore 8, 2) := by decide +kernel
theorem dL_isWritten_45 : decode cL_isWritten 45 = .ok (.iload 8, 2) := by decide +kernel
theorem dL_isWritten_47 : decode cL_isWritten 47 = .ok (.ifCond .ne 6, 3) := by decide +kernel
theorem dL_isWritten_50 : decode cL_isWritten 50 = .ok (.goto 20, 3) := by decide +kernel
theorem dL_isWritten_53 : decode cL_isWritten 53 = .ok (.aload_n 0, 1) := by decide +kernel
theorem dL_isWritten_54 : decode cL_isWritten 54 = .ok (.iload_n 1, 1) := by decide +kernel
theorem dL_isWritten_55 : decode cL_isWritten 55 = .ok (.iload 6, 2) := by decide +kernel
theorem dL_isWritten_57 : decode cL_isWritten 57 = .ok (.invokevirtual 75, 3) := by decide +kernel
theorem dL_isWritten_60 : decode cL_isWritten 60 = .ok (.iload 8, 2) := by decide +kernel
theorem dL_isWritten_62 : decode cL_isWritten 62 = .ok (.if_icmp .eq 5, 3) := by decide +kernel
theorem dL_isWritten_65 : decode cL_isWritten 65 = .ok (.iconst 0, 1) := by decide +kernel
theorem dL_isWritten_66 : decode cL_isWritten 66 = .ok (.ireturn, 1) := by decide +kernel
theorem dL_isWritten_67 : decode cL_isWritten 67 = .ok (.iinc 6 1, 3) := by decide +kernel
theorem dL_isWritten_70 : decode cL_isWritten 70 = .ok (.iinc 7 1, 3) := by decide +kernel
theorem dL_isWritten_73 : decode cL_isWritten 73 = .ok (.goto (-67), 3) := by decide +kernel
theorem dL_isWritten_76 : decode cL_isWritten 76 = .ok (.aload_n 0, 1) := by decide +kernel
theorem dL_isWritten_77 : decode cL_isWritten 77 = .ok (.iload_n 1, 1) := by decide +kernel
theorem dL_isWritten_78 : decode cL_isWritten 78 = .ok (.iload 6, 2) := by decide +kernel
theorem dL_isWritten_80 : decode cL_isWritten 80 = .ok (.invokevirtual 75, 3) := by decide +kernel
theorem dL_isWritten_83 : decode cL_isWritten 83 = .ok (.bipush (-2), 2) := by decide +kernel
theorem dL_isWritten_85 : decode cL_isWritten 85 = .ok (.if_icmp .ne 18, 3) := by decide +kernel
theorem dL_isWritten_88 : decode cL_isWritten 88 = .ok (.aload_n 0, 1) := by decide +kernel
theorem dL_isWritten_89 : decode cL_isWritten 89 = .ok (.iload_n 1, 1) := by decide +kernel
theorem dL_isWritten_90 : decode cL_isWritten 90 = .ok (.iconst 4, 1) := by decide +kernel
theorem dL_isWritten_91 : decode cL_isWritten 91 = .ok (.invokevirtual 72, 3) := by decide +kernel
theorem dL_isWritten_94 : decode cL_isWritten 94 = .ok (.iload 6, 2) := by decide +kernel
theorem dL_isWritten_96 : decode cL_isWritten 96 = .ok (.if_icmp .ne 7, 3) := by decide +kernel
theorem dL_isWritten_99 : decode cL_isWritten 99 = .ok (.iconst 1, 1) := by decide +kernel
theorem dL_isWritten_100 : decode cL_isWritten 100 = .ok (.goto 4, 3) := by decide +kernel
theorem dL_isWritten_103 : decode cL_isWritten 103 = .ok (.iconst 0, 1) := by decide +kernel
theorem dL_isWritten_104 : decode cL_isWritten 104 = .ok (.ireturn, 1) := by decide +kernel
theorem dL_rows_0 : decode cL_rows 0 = .ok (.new 14, 3) := by decide +kernel
theorem dL_rows_3 : decode cL_rows 3 = .ok (.dup, 1) := by decide +kernel
theorem dL_rows_4 : decode cL_rows 4 = .ok (.invokespecial 149, 3) := by decide +kernel
theorem dL_rows_7 : decode cL_rows 7 = .ok (.astore_n 0, 1) := by decide +kernel
theorem dL_rows_8 : decode cL_rows 8 = .ok (.aload_n 0, 1) := by decide +kernel
theorem dL_rows_9 : decode cL_rows 9 = .ok (.bipush 9, 2) := by decide +kernel
theorem dL_rows_11 : decode cL_rows 11 = .ok (.iconst 0, 1) := by decide +kernel
theorem dL_rows_12 : decode cL_rows 12 = .ok (.iconst 0, 1) := by decide +kernel
theorem dL_rows_13 : decode cL_rows 13 = .ok (.lconst 0, 1) := by decide +kernel
theorem dL_rows_14 : decode cL_rows 14 = .ok (.invokestatic 121, 3) := by decide +kernel
theorem dL_rows_17 : decode cL_rows 17 = .ok (.ldc 105, 2) := by decide +kernel
theorem dL_rows_19 : decode cL_rows 19 = .ok (.if_icmp .ne 426, 3) := by decide +kernel
theorem dL_rows_22 : decode cL_rows 22 = .ok (.aload_n 0, 1) := by decide +kernel
theorem dL_rows_23 : decode cL_rows 23 = .ok (.bipush 11, 2) := by decide +kernel
theorem dL_rows_25 : decode cL_rows 25 = .ok (.iconst 1, 1) := by decide +kernel
theorem dL_rows_26 : decode cL_rows 26 = .ok (.iconst 0, 1) := by decide +kernel
theorem dL_rows_27 : decode cL_rows 27 = .ok (.lconst 0, 1) := by decide +kernel
theorem dL_rows_28 : decode cL_rows 28 = .ok (.invokestatic 121, 3) := by decide +kernel
theorem dL_rows_31 : decode cL_rows 31 = .ok (.ldc 105, 2) := by decide +kernel
theorem dL_rows_33 : decode cL_rows 33 = .ok (.if_icmp .ne 412, 3) := by decide +kernel
theorem dL_rows_36 : decode cL_rows 36 = .ok (.aload_n 0, 1) := by decide +kernel
theorem dL_rows_37 : decode cL_rows 37 = .ok (.iconst 3, 1) := by decide +kernel
theorem dL_rows_38 : decode cL_rows 38 = .ok (.iconst 0, 1) := by decide +kernel
theorem dL_rows_39 : decode cL_rows 39 = .ok (.invokevirtual 72, 3) := by decide +kernel
theorem dL_rows_42 : decode cL_rows 42 = .ok (.bipush (-2), 2) := by decide +kernel
theorem dL_rows_44 : decode cL_rows 44 = .ok (.if_icmp .ne 401, 3) := by decide +kernel
theorem dL_rows_47 : decode cL_rows 47 = .ok (.aload_n 0, 1) := by decide +kernel
theorem dL_rows_48 : decode cL_rows 48 = .ok (.iconst 0, 1) := by decide +kernel
theorem dL_rows_49 : decode cL_rows 49 = .ok (.iconst 0, 1) := by decide +kernel
theorem dL_rows_50 : decode cL_rows 50 = .ok (.invokevirtual 75, 3) := by decide +kernel
theorem dL_rows_53 : decode cL_rows 53 = .ok (.bipush (-2), 2) := by decide +kernel
theorem dL_rows_55 : decode cL_rows 55 = .ok (.if_icmp .ne 390, 3) := by decide +kernel
theorem dL_rows_58 : decode cL_rows 58 = .ok (.aload_n 0, 1) := by decide +kernel
theorem dL_rows_59 : decode cL_rows 59 = .ok (.iconst 1, 1) := by decide +kernel
theorem dL_rows_60 : decode cL_rows 60 = .ok (.iconst 2, 1) := by decide +kernel
theorem dL_rows_61 : decode cL_rows 61 = .ok (.iconst 2, 1) := by decide +kernel
theorem dL_rows_62 : decode cL_rows 62 = .ok (.iconst 0, 1) := by decide +kernel
theorem dL_rows_63 : decode cL_rows 63 = .ok (.invokevirtual 69, 3) := by decide +kernel
theorem dL_rows_66 : decode cL_rows 66 = .ok (.bipush (-2), 2) := by decide +kernel
theorem dL_rows_68 : decode cL_rows 68 = .ok (.if_icmp .ne 377, 3) := by decide +kernel
theorem dL_rows_71 : decode cL_rows 71 = .ok (.aload_n 0, 1) := by decide +kernel
theorem dL_rows_72 : decode cL_rows 72 = .ok (.iconst 0, 1) := by decide +kernel
theorem dL_rows_73 : decode cL_rows 73 = .ok (.iconst 0, 1) := by decide +kernel
theorem dL_rows_74 : decode cL_rows 74 = .ok (.invokevirtual 93, 3) := by decide +kernel
theorem dL_rows_77 : decode cL_rows 77 = .ok (.dconst 0, 1) := by decide +kernel
theorem dL_rows_78 : decode cL_rows 78 = .ok (.dcmp .l, 1) := by decide +kernel
theorem dL_rows_79 : decode cL_rows 79 = .ok (.ifCond .ne 366, 3) := by decide +kernel
theorem dL_rows_82 : decode cL_rows 82 = .ok (.aload_n 0, 1) := by decide +kernel
theorem dL_rows_83 : decode cL_rows 83 = .ok (.iconst 0, 1) := by decide +kernel
theorem dL_rows_84 : decode cL_rows 84 = .ok (.iconst 0, 1) := by decide +kernel
theorem dL_rows_85 : decode cL_rows 85 = .ok (.iconst 3, 1) := by decide +kernel
theorem dL_rows_86 : decode cL_rows 86 = .ok (.invokevirtual 60, 3) := by decide +kernel
theorem dL_rows_89 : decode cL_rows 89 = .ok (.bipush (-2), 2) := by decide +kernel
theorem dL_rows_91 : decode cL_rows 91 = .ok (.if_icmp .ne 354, 3) := by decide +kernel
theorem dL_rows_94 : decode cL_rows 94 = .ok (.aload_n 0, 1) := by decide +kernel
theorem dL_rows_95 : decode cL_rows 95 = .ok (.iconst 0, 1) := by decide +kernel
theorem dL_rows_96 : decode cL_rows 96 = .ok (.iconst 0, 1) := by decide +kernel
theorem dL_rows_97 : decode cL_rows 97 = .ok (.bipush 6, 2) := by decide +kernel
theorem dL_rows_99 : decode cL_rows 99 = .ok (.invokevirtual 60, 3) := by decide +kernel
theorem dL_rows_102 : decode cL_rows 102 = .ok (.bipush (-2), 2) := by decide +kernel
theorem dL_rows_104 : decode cL_rows 104 = .ok (.if_icmp .ne 341, 3) := by decide +kernel
theorem dL_rows_107 : decode cL_rows 107 = .ok (.aload_n 0, 1) := by decide +kernel
theorem dL_rows_108 : decode cL_rows 108 = .ok (.iconst 1, 1) := by decide +kernel
theorem dL_rows_109 : decode cL_rows 109 = .ok (.iconst 3, 1) := by decide +kernel
theorem dL_rows_110 : decode cL_rows 110 = .ok (.iconst 0, 1) := by decide +kernel
theorem dL_rows_111 : decode cL_rows 111 = .ok (.iconst 0, 1) := by decide +kernel
theorem dL_rows_112 : decode cL_rows 112 = .ok (.invokevirtual 63, 3) := by decide +kernel
theorem dL_rows_115 : decode cL_rows 115 = .ok (.bipush (-2), 2) := by decide +kernel
theorem dL_rows_117 : decode cL_rows 117 = .ok (.if_icmp .ne 328, 3) := by decide +kernel
theorem dL_rows_120 : decode cL_rows 120 = .ok (.aload_n 0, 1) := by decide +kernel
theorem dL_rows_121 : decode cL_rows 121 = .ok (.iconst 0, 1) := by decide +kernel
theorem dL_rows_122 : decode cL_rows 122 = .ok (.iconst 0, 1) := by decide +kernel
theorem dL_rows_123 : decode cL_rows 123 = .ok (.iconst 0, 1) := by decide +kernel
theorem dL_rows_124 : decode cL_rows 124 = .ok (.invokevirtual 84, 3) := by decide +kernel
theorem dL_rows_127 : decode cL_rows 127 = .ok (.ifCond .ne 318, 3) := by decide +kernel
theorem dL_rows_130 : decode cL_rows 130 = .ok (.aload_n 0, 1) := by decide +kernel
theorem dL_rows_131 : decode cL_rows 131 = .ok (.iconst 3, 1) := by decide +kernel
theorem dL_rows_132 : decode cL_rows 132 = .ok (.iconst 3, 1) := by decide +kernel
theorem dL_rows_133 : decode cL_rows 133 = .ok (.iconst 3, 1) := by decide +kernel
theorem dL_rows_134 : decode cL_rows 134 = .ok (.invokevirtual 84, 3) := by decide +kernel
theorem dL_rows_137 : decode cL_rows 137 = .ok (.bipush (-2), 2) := by decide +kernel
theorem dL_rows_139 : decode cL_rows 139 = .ok (.if_icmp .ne 306, 3) := by decide +kernel
theorem dL_rows_142 : decode cL_rows 142 = .ok (.aload_n 0, 1) := by decide +kernel
theorem dL_rows_143 : decode cL_rows 143 = .ok (.iconst 0, 1) := by decide +kernel
theorem dL_rows_144 : decode cL_rows 144 = .ok (.iconst 0, 1) := by decide +kernel
theorem dL_rows_145 : decode cL_rows 145 = .ok (.iconst 0, 1) := by decide +kernel
theorem dL_rows_146 : decode cL_rows 146 = .ok (.iconst 0, 1) := by decide +kernel
theorem dL_rows_147 : decode cL_rows 147 = .ok (.invokevirtual 78, 3) := by decide +kernel
theorem dL_rows_150 : decode cL_rows 150 = .ok (.bipush (-2), 2) := by decide +kernel
theorem dL_rows_152 : decode cL_rows 152 = .ok (.if_icmp .ne 293, 3) := by decide +kernel
theorem dL_rows_155 : decode cL_rows 155 = .ok (.aload_n 0, 1) := by decide +kernel
theorem dL_rows_156 : decode cL_rows 156 = .ok (.iconst 4, 1) := by decide +kernel
theorem dL_rows_157 : decode cL_rows 157 = .ok (.iconst 0, 1) := by decide +kernel
theorem dL_rows_158 : decode cL_rows 158 = .ok (.iconst 1, 1) := by decide +kernel
theorem dL_rows_159 : decode cL_rows 159 = .ok (.iconst 1, 1) := by decide +kernel
theorem dL_rows_160 : decode cL_rows 160 = .ok (.iconst 0, 1) := by decide +kernel
theorem dL_rows_161 : decode cL_rows 161 = .ok (.iconst 0, 1) := by decide +kernel
theorem dL_rows_162 : decode cL_rows 162 = .ok (.invokestatic 125, 3) := by decide +kernel
theorem dL_rows_165 : decode cL_rows 165 = .ok (.invokestatic 121, 3) := by decide +kernel
theorem dL_rows_168 : decode cL_rows 168 = .ok (.ldc 105, 2) := by decide +kernel
theorem dL_rows_170 : decode cL_rows 170 = .ok (.if_icmp .ne 275, 3) := by decide +kernel
theorem dL_rows_173 : decode cL_rows 173 = .ok (.aload_n 0, 1) := by decide +kernel
theorem dL_rows_174 : decode cL_rows 174 = .ok (.iconst 5, 1) := by decide +kernel
theorem dL_rows_175 : decode cL_rows 175 = .ok (.iconst 0, 1) := by decide +kernel
theorem dL_rows_176 : decode cL_rows 176 = .ok (.iconst 0, 1) := by decide +kernel
theorem dL_rows_177 : decode cL_rows 177 = .ok (.lconst 0, 1) := by decide +kernel
theorem dL_rows_178 : decode cL_rows 178 = .ok (.invokestatic 121, 3) := by decide +kernel
theorem dL_rows_181 : decode cL_rows 181 = .ok (.ldc 105, 2) := by decide +kernel
theorem dL_rows_183 : decode cL_rows 183 = .ok (.if_icmp .ne 262, 3) := by decide +kernel
theorem dL_rows_186 : decode cL_rows 186 = .ok (.aload_n 0, 1) := by decide +kernel
theorem dL_rows_187 : decode cL_rows 187 = .ok (.bipush 6, 2) := by decide +kernel
theorem dL_rows_189 : decode cL_rows 189 = .ok (.iconst 0, 1) := by decide +kernel
theorem dL_rows_190 : decode cL_rows 190 = .ok (.iconst 0, 1) := by decide +kernel
theorem dL_rows_191 : decode cL_rows 191 = .ok (.lconst 0, 1) := by decide +kernel
theorem dL_rows_192 : decode cL_rows 192 = .ok (.invokestatic 121, 3) := by decide +kernel
theorem dL_rows_195 : decode cL_rows 195 = .ok (.ldc 105, 2) := by decide +kernel
theorem dL_rows_197 : decode cL_rows 197 = .ok (.if_icmp .ne 248, 3) := by decide +kernel
theorem dL_rows_200 : decode cL_rows 200 = .ok (.aload_n 0, 1) := by decide +kernel
theorem dL_rows_201 : decode cL_rows 201 = .ok (.bipush 7, 2) := by decide +kernel
theorem dL_rows_203 : decode cL_rows 203 = .ok (.iconst 0, 1) := by decide +kernel
theorem dL_rows_204 : decode cL_rows 204 = .ok (.iconst 0, 1) := by decide +kernel
theorem dL_rows_205 : decode cL_rows 205 = .ok (.iconst 0, 1) := by decide +kernel
theorem dL_rows_206 : decode cL_rows 206 = .ok (.iconst 0, 1) := by decide +kernel
theorem dL_rows_207 : decode cL_rows 207 = .ok (.iconst 0, 1) := by decide +kernel
theorem dL_rows_208 : decode cL_rows 208 = .ok (.invokestatic 125, 3) := by decide +kernel
theorem dL_rows_211 : decode cL_rows 211 = .ok (.invokestatic 121, 3) := by decide +kernel
theorem dL_rows_214 : decode cL_rows 214 = .ok (.ldc 105, 2) := by decide +kernel
theorem dL_rows_216 : decode cL_rows 216 = .ok (.if_icmp .ne 229, 3) := by decide +kernel
theorem dL_rows_219 : decode cL_rows 219 = .ok (.aload_n 0, 1) := by decide +kernel
theorem dL_rows_220 : decode cL_rows 220 = .ok (.iconst 1, 1) := by decide +kernel
theorem dL_rows_221 : decode cL_rows 221 = .ok (.bipush (-2), 2) := by decide +kernel
theorem dL_rows_223 : decode cL_rows 223 = .ok (.invokevirtual 34, 3) := by decide +kernel
theorem dL_rows_226 : decode cL_rows 226 = .ok (.ifCond .ne 219, 3) := by decide +kernel
theorem dL_rows_229 : decode cL_rows 229 = .ok (.aload_n 0, 1) := by decide +kernel
theorem dL_rows_230 : decode cL_rows 230 = .ok (.invokestatic 150, 3) := by decide +kernel
theorem dL_rows_233 : decode cL_rows 233 = .ok (.ifCond .eq 212, 3) := by decide +kernel
theorem dL_rows_236 : decode cL_rows 236 = .ok (.aload_n 0, 1) := by decide +kernel
theorem dL_rows_237 : decode cL_rows 237 = .ok (.iconst 0, 1) := by decide +kernel
theorem dL_rows_238 : decode cL_rows 238 = .ok (.iconst 5, 1) := by decide +kernel
theorem dL_rows_239 : decode cL_rows 239 = .ok (.iconst (-1), 1) := by decide +kernel
theorem dL_rows_240 : decode cL_rows 240 = .ok (.iconst 3, 1) := by decide +kernel
theorem dL_rows_241 : decode cL_rows 241 = .ok (.iconst 4, 1) := by decide +kernel
theorem dL_rows_242 : decode cL_rows 242 = .ok (.invokevirtual 13, 3) := by decide +kernel
theorem dL_rows_245 : decode cL_rows 245 = .ok (.ifCond .ne 200, 3) := by decide +kernel
theorem dL_rows_248 : decode cL_rows 248 = .ok (.aload_n 0, 1) := by decide +kernel
theorem dL_rows_249 : decode cL_rows 249 = .ok (.iconst 0, 1) := by decide +kernel
theorem dL_rows_250 : decode cL_rows 250 = .ok (.iconst 1, 1) := by decide +kernel
theorem dL_rows_251 : decode cL_rows 251 = .ok (.iconst 2, 1) := by decide +kernel
theorem dL_rows_252 : decode cL_rows 252 = .ok (.iconst (-1), 1) := by decide +kernel
theorem dL_rows_253 : decode cL_rows 253 = .ok (.iconst (-1), 1) := by decide +kernel
theorem dL_rows_254 : decode cL_rows 254 = .ok (.invokevirtual 13, 3) := by decide +kernel
theorem dL_rows_257 : decode cL_rows 257 = .ok (.iconst 1, 1) := by decide +kernel
theorem dL_rows_258 : decode cL_rows 258 = .ok (.if_icmp .ne 187, 3) := by decide +kernel
theorem dL_rows_261 : decode cL_rows 261 = .ok (.aload_n 0, 1) := by decide +kernel
theorem dL_rows_262 : decode cL_rows 262 = .ok (.iconst 1, 1) := by decide +kernel
theorem dL_rows_263 : decode cL_rows 263 = .ok (.iconst 5, 1) := by decide +kernel
theorem dL_rows_264 : decode cL_rows 264 = .ok (.iconst 5, 1) := by decide +kernel
theorem dL_rows_265 : decode cL_rows 265 = .ok (.iconst 5, 1) := by decide +kernel
theorem dL_rows_266 : decode cL_rows 266 = .ok (.iconst 5, 1) := by decide +kernel
theorem dL_rows_267 : decode cL_rows 267 = .ok (.invokevirtual 13, 3) := by decide +kernel
theorem dL_rows_270 : decode cL_rows 270 = .ok (.ifCond .ne 175, 3) := by decide +kernel
theorem dL_rows_273 : decode cL_rows 273 = .ok (.aload_n 0, 1) := by decide +kernel
theorem dL_rows_274 : decode cL_rows 274 = .ok (.iconst 1, 1) := by decide +kernel
theorem dL_rows_275 : decode cL_rows 275 = .ok (.iconst (-1), 1) := by decide +kernel
theorem dL_rows_276 : decode cL_rows 276 = .ok (.iconst 2, 1) := by decide +kernel
theorem dL_rows_277 : decode cL_rows 277 = .ok (.iconst 2, 1) := by decide +kernel
theorem dL_rows_278 : decode cL_rows 278 = .ok (.iconst 2, 1) := by decide +kernel
theorem dL_rows_279 : decode cL_rows 279 = .ok (.invokevirtual 13, 3) := by decide +kernel
theorem dL_rows_282 : decode cL_rows 282 = .ok (.iconst 1, 1) := by decide +kernel
theorem dL_rows_283 : decode cL_rows 283 = .ok (.if_icmp .ne 162, 3) := by decide +kernel
theorem dL_rows_286 : decode cL_rows 286 = .ok (.aload_n 0, 1) := by decide +kernel
theorem dL_rows_287 : decode cL_rows 287 = .ok (.iconst 0, 1) := by decide +kernel
theorem dL_rows_288 : decode cL_rows 288 = .ok (.ldc2_w 154, 3) := by decide +kernel
theorem dL_rows_291 : decode cL_rows 291 = .ok (.lconst 0, 1) := by decide +kernel
theorem dL_rows_292 : decode cL_rows 292 = .ok (.iconst 1, 1) := by decide +kernel
theorem dL_rows_293 : decode cL_rows 293 = .ok (.invokestatic 156, 3) := by decide +kernel
theorem dL_rows_296 : decode cL_rows 296 = .ok (.ifCond .eq 149, 3) := by decide +kernel
theorem dL_rows_299 : decode cL_rows 299 = .ok (.aload_n 0, 1) := by decide +kernel
theorem dL_rows_300 : decode cL_rows 300 = .ok (.iconst 0, 1) := by decide +kernel
theorem dL_rows_301 : decode cL_rows 301 = .ok (.iconst 0, 1) := by decide +kernel
theorem dL_rows_302 : decode cL_rows 302 = .ok (.iconst 0, 1) := by decide +kernel
theorem dL_rows_303 : decode cL_rows 303 = .ok (.invokevirtual 66, 3) := by decide +kernel
theorem dL_rows_306 : decode cL_rows 306 = .ok (.iconst 2, 1) := by decide +kernel
theorem dL_rows_307 : decode cL_rows 307 = .ok (.if_icmp .ne 138, 3) := by decide +kernel
theorem dL_rows_310 : decode cL_rows 310 = .ok (.aload_n 0, 1) := by decide +kernel
theorem dL_rows_311 : decode cL_rows 311 = .ok (.iconst 0, 1) := by decide +kernel
theorem dL_rows_312 : decode cL_rows 312 = .ok (.iconst 1, 1) := by decide +kernel
theorem dL_rows_313 : decode cL_rows 313 = .ok (.iconst 0, 1) := by decide +kernel
theorem dL_rows_314 : decode cL_rows 314 = .ok (.invokevirtual 66, 3) := by decide +kernel
theorem dL_rows_317 : decode cL_rows 317 = .ok (.ifCond .ne 128, 3) := by decide +kernel
theorem dL_rows_320 : decode cL_rows 320 = .ok (.aload_n 0, 1) := by decide +kernel
theorem dL_rows_321 : decode cL_rows 321 = .ok (.iconst 1, 1) := by decide +kernel
theorem dL_rows_322 : decode cL_rows 322 = .ok (.iconst 1, 1) := by decide +kernel
theorem dL_rows_323 : decode cL_rows 323 = .ok (.iconst 0, 1) := by decide +kernel
theorem dL_rows_324 : decode cL_rows 324 = .ok (.invokevirtual 66, 3) := by decide +kernel
theorem dL_rows_327 : decode cL_rows 327 = .ok (.iconst 1, 1) := by decide +kernel
theorem dL_rows_328 : decode cL_rows 328 = .ok (.if_icmp .ne 117, 3) := by decide +kernel
theorem dL_rows_331 : decode cL_rows 331 = .ok (.aload_n 0, 1) := by decide +kernel
theorem dL_rows_332 : decode cL_rows 332 = .ok (.iconst 1, 1) := by decide +kernel
theorem dL_rows_333 : decode cL_rows 333 = .ok (.ldc2_w 160, 3) := by decide +kernel
theorem dL_rows_336 : decode cL_rows 336 = .ok (.lconst 0, 1) := by decide +kernel
theorem dL_rows_337 : decode cL_rows 337 = .ok (.iconst 3, 1) := by decide +kernel
theorem dL_rows_338 : decode cL_rows 338 = .ok (.invokestatic 156, 3) := by decide +kernel
theorem dL_rows_341 : decode cL_rows 341 = .ok (.ifCond .eq 104, 3) := by decide +kernel
theorem dL_rows_344 : decode cL_rows 344 = .ok (.aload_n 0, 1) := by decide +kernel
theorem dL_rows_345 : decode cL_rows 345 = .ok (.iconst 0, 1) := by decide +kernel
theorem dL_rows_346 : decode cL_rows 346 = .ok (.iconst 0, 1) := by decide +kernel
theorem dL_rows_347 : decode cL_rows 347 = .ok (.iconst 1, 1) := by decide +kernel
theorem dL_rows_348 : decode cL_rows 348 = .ok (.invokevirtual 66, 3) := by decide +kernel
theorem dL_rows_351 : decode cL_rows 351 = .ok (.iconst 2, 1) := by decide +kernel
theorem dL_rows_352 : decode cL_rows 352 = .ok (.if_icmp .ne 93, 3) := by decide +kernel
theorem dL_rows_355 : decode cL_rows 355 = .ok (.aload_n 0, 1) := by decide +kernel
theorem dL_rows_356 : decode cL_rows 356 = .ok (.iconst 0, 1) := by decide +kernel
theorem dL_rows_357 : decode cL_rows 357 = .ok (.iconst 1, 1) := by decide +kernel
theorem dL_rows_358 : decode cL_rows 358 = .ok (.iconst 1, 1) := by decide +kernel
theorem dL_rows_359 : decode cL_rows 359 = .ok (.invokevirtual 66, 3) := by decide +kernel
theorem dL_rows_362 : decode cL_rows 362 = .ok (.iconst 1, 1) := by decide +kernel
theorem dL_rows_363 : decode cL_rows 363 = .ok (.if_icmp .ne 82, 3) := by decide +kernel
theorem dL_rows_366 : decode cL_rows 366 = .ok (.aload_n 0, 1) := by decide +kernel
theorem dL_rows_367 : decode cL_rows 367 = .ok (.iconst 0, 1) := by decide +kernel
theorem dL_rows_368 : decode cL_rows 368 = .ok (.iconst 1, 1) := by decide +kernel
theorem dL_rows_369 : decode cL_rows 369 = .ok (.iconst 1, 1) := by decide +kernel
theorem dL_rows_370 : decode cL_rows 370 = .ok (.iconst 0, 1) := by decide +kernel
theorem dL_rows_371 : decode cL_rows 371 = .ok (.invokevirtual 69, 3) := by decide +kernel
theorem dL_rows_374 : decode cL_rows 374 = .ok (.iconst 2, 1) := by decide +kernel
theorem dL_rows_375 : decode cL_rows 375 = .ok (.if_icmp .ne 70, 3) := by decide +kernel
theorem dL_rows_378 : decode cL_rows 378 = .ok (.aload_n 0, 1) := by decide +kernel
theorem dL_rows_379 : decode cL_rows 379 = .ok (.iconst 0, 1) := by decide +kernel
theorem dL_rows_380 : decode cL_rows 380 = .ok (.iconst 1, 1) := by decide +kernel
theorem dL_rows_381 : decode cL_rows 381 = .ok (.iconst 1, 1) := by decide +kernel
theorem dL_rows_382 : decode cL_rows 382 = .ok (.iconst 1, 1) := by decide +kernel
theorem dL_rows_383 : decode cL_rows 383 = .ok (.invokevirtual 69, 3) := by decide +kernel
theorem dL_rows_386 : decode cL_rows 386 = .ok (.iconst 2, 1) := by decide +kernel
theorem dL_rows_387 : decode cL_rows 387 = .ok (.if_icmp .ne 58, 3) := by decide +kernel
theorem dL_rows_390 : decode cL_rows 390 = .ok (.aload_n 0, 1) := by decide +kernel
theorem dL_rows_391 : decode cL_rows 391 = .ok (.iconst 1, 1) := by decide +kernel
theorem dL_rows_392 : decode cL_rows 392 = .ok (.iconst 1, 1) := by decide +kernel
theorem dL_rows_393 : decode cL_rows 393 = .ok (.iconst 0, 1) := by decide +kernel
theorem dL_rows_394 : decode cL_rows 394 = .ok (.iconst 1, 1) := by decide +kernel
theorem dL_rows_395 : decode cL_rows 395 = .ok (.invokevirtual 69, 3) := by decide +kernel
theorem dL_rows_398 : decode cL_rows 398 = .ok (.iconst 2, 1) := by decide +kernel
theorem dL_rows_399 : decode cL_rows 399 = .ok (.if_icmp .ne 46, 3) := by decide +kernel
theorem dL_rows_402 : decode cL_rows 402 = .ok (.aload_n 0, 1) := by decide +kernel
theorem dL_rows_403 : decode cL_rows 403 = .ok (.iconst 1, 1) := by decide +kernel
theorem dL_rows_404 : decode cL_rows 404 = .ok (.iconst 1, 1) := by decide +kernel
theorem dL_rows_405 : decode cL_rows 405 = .ok (.invokevirtual 72, 3) := by decide +kernel
theorem dL_rows_408 : decode cL_rows 408 = .ok (.iconst 2, 1) := by decide +kernel
theorem dL_rows_409 : decode cL_rows 409 = .ok (.if_icmp .ne 36, 3) := by decide +kernel
theorem dL_rows_412 : decode cL_rows 412 = .ok (.aload_n 0, 1) := by decide +kernel
theorem dL_rows_413 : decode cL_rows 413 = .ok (.iconst 1, 1) := by decide +kernel
theorem dL_rows_414 : decode cL_rows 414 = .ok (.iconst 2, 1) := by decide +kernel
theorem dL_rows_415 : decode cL_rows 415 = .ok (.invokevirtual 72, 3) := by decide +kernel
theorem dL_rows_418 : decode cL_rows 418 = .ok (.iconst 2, 1) := by decide +kernel
theorem dL_rows_419 : decode cL_rows 419 = .ok (.if_icmp .ne 26, 3) := by decide +kernel
theorem dL_rows_422 : decode cL_rows 422 = .ok (.aload_n 0, 1) := by decide +kernel
theorem dL_rows_423 : decode cL_rows 423 = .ok (.iconst 1, 1) := by decide +kernel
theorem dL_rows_424 : decode cL_rows 424 = .ok (.iconst 3, 1) := by decide +kernel
theorem dL_rows_425 : decode cL_rows 425 = .ok (.invokevirtual 72, 3) := by decide +kernel
theorem dL_rows_428 : decode cL_rows 428 = .ok (.bipush 6, 2) := by decide +kernel
theorem dL_rows_430 : decode cL_rows 430 = .ok (.if_icmp .ne 15, 3) := by decide +kernel
theorem dL_rows_433 : decode cL_rows 433 = .ok (.aload_n 0, 1) := by decide +kernel
theorem dL_rows_434 : decode cL_rows 434 = .ok (.iconst 1, 1) := by decide +kernel
theorem dL_rows_435 : decode cL_rows 435 = .ok (.ldc2_w 160, 3) := by decide +kernel
theorem dL_rows_438 : decode cL_rows 438 = .ok (.lconst 0, 1) := by decide +kernel
theorem dL_rows_439 : decode cL_rows 439 = .ok (.invokestatic 162, 3) := by decide +kernel
theorem dL_rows_442 : decode cL_rows 442 = .ok (.ifCond .ne 5, 3) := by decide +kernel
theorem dL_rows_445 : decode cL_rows 445 = .ok (.iconst 0, 1) := by decide +kernel
theorem dL_rows_446 : decode cL_rows 446 = .ok (.ireturn, 1) := by decide +kernel
theorem dL_rows_447 : decode cL_rows 447 = .ok (.aload_n 0, 1) := by decide +kernel
theorem dL_rows_448 : decode cL_rows 448 = .ok (.iconst 2, 1) := by decide +kernel
theorem dL_rows_449 : decode cL_rows 449 = .ok (.iconst 0, 1) := by decide +kernel
theorem dL_rows_450 : decode cL_rows 450 = .ok (.iconst 1, 1) := by decide +kernel
theorem dL_rows_451 : decode cL_rows 451 = .ok (.iconst 1, 1) := by decide +kernel
theorem dL_rows_452 : decode cL_rows 452 = .ok (.invokevirtual 31, 3) := by decide +kernel
theorem dL_rows_455 : decode cL_rows 455 = .ok (.iconst 5, 1) := by decide +kernel
theorem dL_rows_456 : decode cL_rows 456 = .ok (.if_icmp .ne 282, 3) := by decide +kernel
theorem dL_rows_459 : decode cL_rows 459 = .ok (.aload_n 0, 1) := by decide +kernel
theorem dL_rows_460 : decode cL_rows 460 = .ok (.iconst 2, 1) := by decide +kernel
