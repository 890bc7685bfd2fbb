theorem dL_dice_0 : decode cL_dice 0 = .ok (.iload_n 1, 1) := by decide +kernel
theorem dL_dice_1 : decode cL_dice 1 = .ok (.aload_n 0, 1) := by decide +kernel
theorem dL_dice_2 : decode cL_dice 2 = .ok (.arraylength, 1) := by decide +kernel
theorem dL_dice_3 : decode cL_dice 3 = .ok (.if_icmp .ge 9, 3) := by decide +kernel
theorem dL_dice_6 : decode cL_dice 6 = .ok (.aload_n 0, 1) := by decide +kernel
theorem dL_dice_7 : decode cL_dice 7 = .ok (.iload_n 1, 1) := by decide +kernel
theorem dL_dice_8 : decode cL_dice 8 = .ok (.iaload, 1) := by decide +kernel
theorem dL_dice_9 : decode cL_dice 9 = .ok (.goto 23, 3) := by decide +kernel
theorem dL_dice_12 : decode cL_dice 12 = .ok (.ldc 7, 2) := by decide +kernel
theorem dL_dice_14 : decode cL_dice 14 = .ok (.iload_n 1, 1) := by decide +kernel
theorem dL_dice_15 : decode cL_dice 15 = .ok (.sipush 331, 3) := by decide +kernel
theorem dL_dice_18 : decode cL_dice 18 = .ok (.iadd, 1) := by decide +kernel
theorem dL_dice_19 : decode cL_dice 19 = .ok (.imul, 1) := by decide +kernel
theorem dL_dice_20 : decode cL_dice 20 = .ok (.sipush 723, 3) := by decide +kernel
theorem dL_dice_23 : decode cL_dice 23 = .ok (.iload_n 1, 1) := by decide +kernel
theorem dL_dice_24 : decode cL_dice 24 = .ok (.imul, 1) := by decide +kernel
theorem dL_dice_25 : decode cL_dice 25 = .ok (.iload_n 1, 1) := by decide +kernel
theorem dL_dice_26 : decode cL_dice 26 = .ok (.imul, 1) := by decide +kernel
theorem dL_dice_27 : decode cL_dice 27 = .ok (.iadd, 1) := by decide +kernel
theorem dL_dice_28 : decode cL_dice 28 = .ok (.sipush 227, 3) := by decide +kernel
theorem dL_dice_31 : decode cL_dice 31 = .ok (.iadd, 1) := by decide +kernel
theorem dL_dice_32 : decode cL_dice 32 = .ok (.ldc 8, 2) := by decide +kernel
theorem dL_dice_34 : decode cL_dice 34 = .ok (.iand, 1) := by decide +kernel
theorem dL_dice_35 : decode cL_dice 35 = .ok (.ireturn, 1) := by decide +kernel
theorem dL_act_0 : decode cL_act 0 = .ok (.iload_n 1, 1) := by decide +kernel
theorem dL_act_1 : decode cL_act 1 = .ok (.ifCond .ne 11, 3) := by decide +kernel
theorem dL_act_4 : decode cL_act 4 = .ok (.aload_n 0, 1) := by decide +kernel
theorem dL_act_5 : decode cL_act 5 = .ok (.iload_n 2, 1) := by decide +kernel
theorem dL_act_6 : decode cL_act 6 = .ok (.invokevirtual 9, 3) := by decide +kernel
theorem dL_act_9 : decode cL_act 9 = .ok (.goto 461, 3) := by decide +kernel
theorem dL_act_12 : decode cL_act 12 = .ok (.iload_n 1, 1) := by decide +kernel
theorem dL_act_13 : decode cL_act 13 = .ok (.iconst 1, 1) := by decide +kernel
theorem dL_act_14 : decode cL_act 14 = .ok (.if_icmp .ne 12, 3) := by decide +kernel
theorem dL_act_17 : decode cL_act 17 = .ok (.aload_n 0, 1) := by decide +kernel
theorem dL_act_18 : decode cL_act 18 = .ok (.iload_n 2, 1) := by decide +kernel
theorem dL_act_19 : decode cL_act 19 = .ok (.iload_n 3, 1) := by decide +kernel
theorem dL_act_20 : decode cL_act 20 = .ok (.invokevirtual 15, 3) := by decide +kernel
theorem dL_act_23 : decode cL_act 23 = .ok (.goto 447, 3) := by decide +kernel
theorem dL_act_26 : decode cL_act 26 = .ok (.iload_n 1, 1) := by decide +kernel
theorem dL_act_27 : decode cL_act 27 = .ok (.iconst 2, 1) := by decide +kernel
theorem dL_act_28 : decode cL_act 28 = .ok (.if_icmp .ne 14, 3) := by decide +kernel
theorem dL_act_31 : decode cL_act 31 = .ok (.aload_n 0, 1) := by decide +kernel
theorem dL_act_32 : decode cL_act 32 = .ok (.iload_n 2, 1) := by decide +kernel
theorem dL_act_33 : decode cL_act 33 = .ok (.iload_n 3, 1) := by decide +kernel
theorem dL_act_34 : decode cL_act 34 = .ok (.iload 4, 2) := by decide +kernel
theorem dL_act_36 : decode cL_act 36 = .ok (.invokevirtual 19, 3) := by decide +kernel
theorem dL_act_39 : decode cL_act 39 = .ok (.goto 431, 3) := by decide +kernel
theorem dL_act_42 : decode cL_act 42 = .ok (.iload_n 1, 1) := by decide +kernel
theorem dL_act_43 : decode cL_act 43 = .ok (.iconst 3, 1) := by decide +kernel
theorem dL_act_44 : decode cL_act 44 = .ok (.if_icmp .ne 12, 3) := by decide +kernel
theorem dL_act_47 : decode cL_act 47 = .ok (.aload_n 0, 1) := by decide +kernel
theorem dL_act_48 : decode cL_act 48 = .ok (.iload_n 2, 1) := by decide +kernel
theorem dL_act_49 : decode cL_act 49 = .ok (.iload_n 3, 1) := by decide +kernel
theorem dL_act_50 : decode cL_act 50 = .ok (.invokevirtual 23, 3) := by decide +kernel
theorem dL_act_53 : decode cL_act 53 = .ok (.goto 417, 3) := by decide +kernel
theorem dL_act_56 : decode cL_act 56 = .ok (.iload_n 1, 1) := by decide +kernel
theorem dL_act_57 : decode cL_act 57 = .ok (.iconst 4, 1) := by decide +kernel
theorem dL_act_58 : decode cL_act 58 = .ok (.if_icmp .ne 11, 3) := by decide +kernel
theorem dL_act_61 : decode cL_act 61 = .ok (.aload_n 0, 1) := by decide +kernel
theorem dL_act_62 : decode cL_act 62 = .ok (.iload_n 2, 1) := by decide +kernel
theorem dL_act_63 : decode cL_act 63 = .ok (.invokevirtual 26, 3) := by decide +kernel
theorem dL_act_66 : decode cL_act 66 = .ok (.goto 404, 3) := by decide +kernel
theorem dL_act_69 : decode cL_act 69 = .ok (.iload_n 1, 1) := by decide +kernel
theorem dL_act_70 : decode cL_act 70 = .ok (.iconst 5, 1) := by decide +kernel
theorem dL_act_71 : decode cL_act 71 = .ok (.if_icmp .ne 12, 3) := by decide +kernel
theorem dL_act_74 : decode cL_act 74 = .ok (.aload_n 0, 1) := by decide +kernel
theorem dL_act_75 : decode cL_act 75 = .ok (.iload_n 2, 1) := by decide +kernel
theorem dL_act_76 : decode cL_act 76 = .ok (.iload_n 3, 1) := by decide +kernel
theorem dL_act_77 : decode cL_act 77 = .ok (.invokevirtual 29, 3) := by decide +kernel
theorem dL_act_80 : decode cL_act 80 = .ok (.goto 390, 3) := by decide +kernel
theorem dL_act_83 : decode cL_act 83 = .ok (.iload_n 1, 1) := by decide +kernel
theorem dL_act_84 : decode cL_act 84 = .ok (.bipush 6, 2) := by decide +kernel
theorem dL_act_86 : decode cL_act 86 = .ok (.if_icmp .ne 12, 3) := by decide +kernel
theorem dL_act_89 : decode cL_act 89 = .ok (.aload_n 0, 1) := by decide +kernel
theorem dL_act_90 : decode cL_act 90 = .ok (.iload_n 2, 1) := by decide +kernel
theorem dL_act_91 : decode cL_act 91 = .ok (.iload_n 3, 1) := by decide +kernel
theorem dL_act_92 : decode cL_act 92 = .ok (.invokevirtual 32, 3) := by decide +kernel
theorem dL_act_95 : decode cL_act 95 = .ok (.goto 375, 3) := by decide +kernel
theorem dL_act_98 : decode cL_act 98 = .ok (.iload_n 1, 1) := by decide +kernel
theorem dL_act_99 : decode cL_act 99 = .ok (.bipush 7, 2) := by decide +kernel
theorem dL_act_101 : decode cL_act 101 = .ok (.if_icmp .ne 12, 3) := by decide +kernel
theorem dL_act_104 : decode cL_act 104 = .ok (.aload_n 0, 1) := by decide +kernel
theorem dL_act_105 : decode cL_act 105 = .ok (.iload_n 2, 1) := by decide +kernel
theorem dL_act_106 : decode cL_act 106 = .ok (.iload_n 3, 1) := by decide +kernel
theorem dL_act_107 : decode cL_act 107 = .ok (.invokevirtual 35, 3) := by decide +kernel
theorem dL_act_110 : decode cL_act 110 = .ok (.goto 360, 3) := by decide +kernel
theorem dL_act_113 : decode cL_act 113 = .ok (.iload_n 1, 1) := by decide +kernel
theorem dL_act_114 : decode cL_act 114 = .ok (.bipush 8, 2) := by decide +kernel
theorem dL_act_116 : decode cL_act 116 = .ok (.if_icmp .ne 11, 3) := by decide +kernel
theorem dL_act_119 : decode cL_act 119 = .ok (.aload_n 0, 1) := by decide +kernel
theorem dL_act_120 : decode cL_act 120 = .ok (.iload_n 2, 1) := by decide +kernel
theorem dL_act_121 : decode cL_act 121 = .ok (.invokevirtual 38, 3) := by decide +kernel
theorem dL_act_124 : decode cL_act 124 = .ok (.goto 346, 3) := by decide +kernel
theorem dL_act_127 : decode cL_act 127 = .ok (.iload_n 1, 1) := by decide +kernel
theorem dL_act_128 : decode cL_act 128 = .ok (.bipush 9, 2) := by decide +kernel
theorem dL_act_130 : decode cL_act 130 = .ok (.if_icmp .ne 32, 3) := by decide +kernel
theorem dL_act_133 : decode cL_act 133 = .ok (.aload_n 0, 1) := by decide +kernel
theorem dL_act_134 : decode cL_act 134 = .ok (.iload_n 2, 1) := by decide +kernel
theorem dL_act_135 : decode cL_act 135 = .ok (.iload_n 3, 1) := by decide +kernel
theorem dL_act_136 : decode cL_act 136 = .ok (.iconst 1, 1) := by decide +kernel
theorem dL_act_137 : decode cL_act 137 = .ok (.if_icmp .ne 7, 3) := by decide +kernel
theorem dL_act_140 : decode cL_act 140 = .ok (.iconst 1, 1) := by decide +kernel
theorem dL_act_141 : decode cL_act 141 = .ok (.goto 4, 3) := by decide +kernel
theorem dL_act_144 : decode cL_act 144 = .ok (.iconst 0, 1) := by decide +kernel
theorem dL_act_145 : decode cL_act 145 = .ok (.iload 4, 2) := by decide +kernel
theorem dL_act_147 : decode cL_act 147 = .ok (.iconst 1, 1) := by decide +kernel
theorem dL_act_148 : decode cL_act 148 = .ok (.if_icmp .ne 7, 3) := by decide +kernel
theorem dL_act_151 : decode cL_act 151 = .ok (.iconst 1, 1) := by decide +kernel
theorem dL_act_152 : decode cL_act 152 = .ok (.goto 4, 3) := by decide +kernel
theorem dL_act_155 : decode cL_act 155 = .ok (.iconst 0, 1) := by decide +kernel
theorem dL_act_156 : decode cL_act 156 = .ok (.invokevirtual 41, 3) := by decide +kernel
theorem dL_act_159 : decode cL_act 159 = .ok (.goto 311, 3) := by decide +kernel
theorem dL_act_162 : decode cL_act 162 = .ok (.iload_n 1, 1) := by decide +kernel
theorem dL_act_163 : decode cL_act 163 = .ok (.bipush 10, 2) := by decide +kernel
theorem dL_act_165 : decode cL_act 165 = .ok (.if_icmp .ne 12, 3) := by decide +kernel
theorem dL_act_168 : decode cL_act 168 = .ok (.aload_n 0, 1) := by decide +kernel
theorem dL_act_169 : decode cL_act 169 = .ok (.iload_n 2, 1) := by decide +kernel
theorem dL_act_170 : decode cL_act 170 = .ok (.iload_n 3, 1) := by decide +kernel
theorem dL_act_171 : decode cL_act 171 = .ok (.invokevirtual 45, 3) := by decide +kernel
theorem dL_act_174 : decode cL_act 174 = .ok (.goto 296, 3) := by decide +kernel
theorem dL_act_177 : decode cL_act 177 = .ok (.iload_n 1, 1) := by decide +kernel
theorem dL_act_178 : decode cL_act 178 = .ok (.bipush 11, 2) := by decide +kernel
theorem dL_act_180 : decode cL_act 180 = .ok (.if_icmp .ne 23, 3) := by decide +kernel
theorem dL_act_183 : decode cL_act 183 = .ok (.aload_n 0, 1) := by decide +kernel
theorem dL_act_184 : decode cL_act 184 = .ok (.iload_n 2, 1) := by decide +kernel
theorem dL_act_185 : decode cL_act 185 = .ok (.iload_n 3, 1) := by decide +kernel
theorem dL_act_186 : decode cL_act 186 = .ok (.iload 4, 2) := by decide +kernel
theorem dL_act_188 : decode cL_act 188 = .ok (.iconst 1, 1) := by decide +kernel
theorem dL_act_189 : decode cL_act 189 = .ok (.if_icmp .ne 7, 3) := by decide +kernel
theorem dL_act_192 : decode cL_act 192 = .ok (.iconst 1, 1) := by decide +kernel
theorem dL_act_193 : decode cL_act 193 = .ok (.goto 4, 3) := by decide +kernel
theorem dL_act_196 : decode cL_act 196 = .ok (.iconst 0, 1) := by decide +kernel
theorem dL_act_197 : decode cL_act 197 = .ok (.invokevirtual 48, 3) := by decide +kernel
theorem dL_act_200 : decode cL_act 200 = .ok (.goto 270, 3) := by decide +kernel
theorem dL_act_203 : decode cL_act 203 = .ok (.iload_n 1, 1) := by decide +kernel
theorem dL_act_204 : decode cL_act 204 = .ok (.bipush 12, 2) := by decide +kernel
theorem dL_act_206 : decode cL_act 206 = .ok (.if_icmp .ne 12, 3) := by decide +kernel
theorem dL_act_209 : decode cL_act 209 = .ok (.aload_n 0, 1) := by decide +kernel
theorem dL_act_210 : decode cL_act 210 = .ok (.iload_n 2, 1) := by decide +kernel
theorem dL_act_211 : decode cL_act 211 = .ok (.iload_n 3, 1) := by decide +kernel
theorem dL_act_212 : decode cL_act 212 = .ok (.invokevirtual 52, 3) := by decide +kernel
theorem dL_act_215 : decode cL_act 215 = .ok (.goto 255, 3) := by decide +kernel
theorem dL_act_218 : decode cL_act 218 = .ok (.iload_n 1, 1) := by decide +kernel
theorem dL_act_219 : decode cL_act 219 = .ok (.bipush 13, 2) := by decide +kernel
theorem dL_act_221 : decode cL_act 221 = .ok (.if_icmp .ne 12, 3) := by decide +kernel
theorem dL_act_224 : decode cL_act 224 = .ok (.aload_n 0, 1) := by decide +kernel
theorem dL_act_225 : decode cL_act 225 = .ok (.iload_n 2, 1) := by decide +kernel
theorem dL_act_226 : decode cL_act 226 = .ok (.iload_n 3, 1) := by decide +kernel
theorem dL_act_227 : decode cL_act 227 = .ok (.invokevirtual 55, 3) := by decide +kernel
theorem dL_act_230 : decode cL_act 230 = .ok (.goto 240, 3) := by decide +kernel
theorem dL_act_233 : decode cL_act 233 = .ok (.iload_n 1, 1) := by decide +kernel
theorem dL_act_234 : decode cL_act 234 = .ok (.bipush 14, 2) := by decide +kernel
theorem dL_act_236 : decode cL_act 236 = .ok (.if_icmp .ne 25, 3) := by decide +kernel
theorem dL_act_239 : decode cL_act 239 = .ok (.aload_n 0, 1) := by decide +kernel
theorem dL_act_240 : decode cL_act 240 = .ok (.iload_n 2, 1) := by decide +kernel
theorem dL_act_241 : decode cL_act 241 = .ok (.iload_n 3, 1) := by decide +kernel
theorem dL_act_242 : decode cL_act 242 = .ok (.iload 4, 2) := by decide +kernel
theorem dL_act_244 : decode cL_act 244 = .ok (.iload 5, 2) := by decide +kernel
theorem dL_act_246 : decode cL_act 246 = .ok (.iconst 1, 1) := by decide +kernel
theorem dL_act_247 : decode cL_act 247 = .ok (.if_icmp .ne 7, 3) := by decide +kernel
theorem dL_act_250 : decode cL_act 250 = .ok (.iconst 1, 1) := by decide +kernel
theorem dL_act_251 : decode cL_act 251 = .ok (.goto 4, 3) := by decide +kernel
theorem dL_act_254 : decode cL_act 254 = .ok (.iconst 0, 1) := by decide +kernel
theorem dL_act_255 : decode cL_act 255 = .ok (.invokevirtual 58, 3) := by decide +kernel
theorem dL_act_258 : decode cL_act 258 = .ok (.goto 212, 3) := by decide +kernel
theorem dL_act_261 : decode cL_act 261 = .ok (.iload_n 1, 1) := by decide +kernel
theorem dL_act_262 : decode cL_act 262 = .ok (.bipush 15, 2) := by decide +kernel
theorem dL_act_264 : decode cL_act 264 = .ok (.if_icmp .ne 18, 3) := by decide +kernel
theorem dL_act_267 : decode cL_act 267 = .ok (.aload_n 0, 1) := by decide +kernel
theorem dL_act_268 : decode cL_act 268 = .ok (.iload_n 2, 1) := by decide +kernel
theorem dL_act_269 : decode cL_act 269 = .ok (.iload_n 3, 1) := by decide +kernel
theorem dL_act_270 : decode cL_act 270 = .ok (.iload 4, 2) := by decide +kernel
theorem dL_act_272 : decode cL_act 272 = .ok (.iload 5, 2) := by decide +kernel
theorem dL_act_274 : decode cL_act 274 = .ok (.iload 6, 2) := by decide +kernel
theorem dL_act_276 : decode cL_act 276 = .ok (.invokevirtual 62, 3) := by decide +kernel
theorem dL_act_279 : decode cL_act 279 = .ok (.goto 191, 3) := by decide +kernel
theorem dL_act_282 : decode cL_act 282 = .ok (.iload_n 1, 1) := by decide +kernel
theorem dL_act_283 : decode cL_act 283 = .ok (.bipush 16, 2) := by decide +kernel
theorem dL_act_285 : decode cL_act 285 = .ok (.if_icmp .ne 14, 3) := by decide +kernel
theorem dL_act_288 : decode cL_act 288 = .ok (.aload_n 0, 1) := by decide +kernel
theorem dL_act_289 : decode cL_act 289 = .ok (.iload_n 2, 1) := by decide +kernel
theorem dL_act_290 : decode cL_act 290 = .ok (.iload_n 3, 1) := by decide +kernel
theorem dL_act_291 : decode cL_act 291 = .ok (.iload 4, 2) := by decide +kernel
theorem dL_act_293 : decode cL_act 293 = .ok (.invokevirtual 66, 3) := by decide +kernel
theorem dL_act_296 : decode cL_act 296 = .ok (.goto 174, 3) := by decide +kernel
theorem dL_act_299 : decode cL_act 299 = .ok (.iload_n 1, 1) := by decide +kernel
theorem dL_act_300 : decode cL_act 300 = .ok (.bipush 17, 2) := by decide +kernel
theorem dL_act_302 : decode cL_act 302 = .ok (.if_icmp .ne 14, 3) := by decide +kernel
theorem dL_act_305 : decode cL_act 305 = .ok (.aload_n 0, 1) := by decide +kernel
theorem dL_act_306 : decode cL_act 306 = .ok (.iload_n 2, 1) := by decide +kernel
theorem dL_act_307 : decode cL_act 307 = .ok (.iload_n 3, 1) := by decide +kernel
theorem dL_act_308 : decode cL_act 308 = .ok (.iload 4, 2) := by decide +kernel
theorem dL_act_310 : decode cL_act 310 = .ok (.invokevirtual 69, 3) := by decide +kernel
theorem dL_act_313 : decode cL_act 313 = .ok (.goto 157, 3) := by decide +kernel
theorem dL_act_316 : decode cL_act 316 = .ok (.iload_n 1, 1) := by decide +kernel
theorem dL_act_317 : decode cL_act 317 = .ok (.bipush 18, 2) := by decide +kernel
theorem dL_act_319 : decode cL_act 319 = .ok (.if_icmp .ne 11, 3) := by decide +kernel
theorem dL_act_322 : decode cL_act 322 = .ok (.aload_n 0, 1) := by decide +kernel
theorem dL_act_323 : decode cL_act 323 = .ok (.iload_n 2, 1) := by decide +kernel
theorem dL_act_324 : decode cL_act 324 = .ok (.invokevirtual 72, 3) := by decide +kernel
theorem dL_act_327 : decode cL_act 327 = .ok (.goto 143, 3) := by decide +kernel
theorem dL_act_330 : decode cL_act 330 = .ok (.iload_n 1, 1) := by decide +kernel
theorem dL_act_331 : decode cL_act 331 = .ok (.bipush 19, 2) := by decide +kernel
theorem dL_act_333 : decode cL_act 333 = .ok (.if_icmp .ne 12, 3) := by decide +kernel
theorem dL_act_336 : decode cL_act 336 = .ok (.aload_n 0, 1) := by decide +kernel
theorem dL_act_337 : decode cL_act 337 = .ok (.iload_n 2, 1) := by decide +kernel
theorem dL_act_338 : decode cL_act 338 = .ok (.iload_n 3, 1) := by decide +kernel
theorem dL_act_339 : decode cL_act 339 = .ok (.invokevirtual 75, 3) := by decide +kernel
theorem dL_act_342 : decode cL_act 342 = .ok (.goto 128, 3) := by decide +kernel
theorem dL_act_345 : decode cL_act 345 = .ok (.iload_n 1, 1) := by decide +kernel
theorem dL_act_346 : decode cL_act 346 = .ok (.bipush 20, 2) := by decide +kernel
theorem dL_act_348 : decode cL_act 348 = .ok (.if_icmp .ne 12, 3) := by decide +kernel
theorem dL_act_351 : decode cL_act 351 = .ok (.aload_n 0, 1) := by decide +kernel
theorem dL_act_352 : decode cL_act 352 = .ok (.iload_n 2, 1) := by decide +kernel
theorem dL_act_353 : decode cL_act 353 = .ok (.iload_n 3, 1) := by decide +kernel
theorem dL_act_354 : decode cL_act 354 = .ok (.invokevirtual 78, 3) := by decide +kernel
theorem dL_act_357 : decode cL_act 357 = .ok (.goto 113, 3) := by decide +kernel
theorem dL_act_360 : decode cL_act 360 = .ok (.iload_n 1, 1) := by decide +kernel
theorem dL_act_361 : decode cL_act 361 = .ok (.bipush 21, 2) := by decide +kernel
theorem dL_act_363 : decode cL_act 363 = .ok (.if_icmp .ne 20, 3) := by decide +kernel
theorem dL_act_366 : decode cL_act 366 = .ok (.aload_n 0, 1) := by decide +kernel
theorem dL_act_367 : decode cL_act 367 = .ok (.iload_n 2, 1) := by decide +kernel
theorem dL_act_368 : decode cL_act 368 = .ok (.iload_n 3, 1) := by decide +kernel
theorem dL_act_369 : decode cL_act 369 = .ok (.invokevirtual 81, 3) := by decide +kernel
theorem dL_act_372 : decode cL_act 372 = .ok (.ifCond .eq 7, 3) := by decide +kernel
theorem dL_act_375 : decode cL_act 375 = .ok (.iconst 1, 1) := by decide +kernel
theorem dL_act_376 : decode cL_act 376 = .ok (.goto 94, 3) := by decide +kernel
theorem dL_act_379 : decode cL_act 379 = .ok (.iconst 0, 1) := by decide +kernel
theorem dL_act_380 : decode cL_act 380 = .ok (.goto 90, 3) := by decide +kernel
theorem dL_act_383 : decode cL_act 383 = .ok (.iload_n 1, 1) := by decide +kernel
theorem dL_act_384 : decode cL_act 384 = .ok (.bipush 22, 2) := by decide +kernel
theorem dL_act_386 : decode cL_act 386 = .ok (.if_icmp .ne 11, 3) := by decide +kernel
theorem dL_act_389 : decode cL_act 389 = .ok (.aload_n 0, 1) := by decide +kernel
theorem dL_act_390 : decode cL_act 390 = .ok (.iload_n 2, 1) := by decide +kernel
theorem dL_act_391 : decode cL_act 391 = .ok (.invokevirtual 85, 3) := by decide +kernel
theorem dL_act_394 : decode cL_act 394 = .ok (.goto 76, 3) := by decide +kernel
theorem dL_act_397 : decode cL_act 397 = .ok (.iload_n 1, 1) := by decide +kernel
theorem dL_act_398 : decode cL_act 398 = .ok (.bipush 23, 2) := by decide +kernel
theorem dL_act_400 : decode cL_act 400 = .ok (.if_icmp .ne 11, 3) := by decide +kernel
theorem dL_act_403 : decode cL_act 403 = .ok (.aload_n 0, 1) := by decide +kernel
theorem dL_act_404 : decode cL_act 404 = .ok (.iload_n 2, 1) := by decide +kernel
theorem dL_act_405 : decode cL_act 405 = .ok (.invokevirtual 88, 3) := by decide +kernel
theorem dL_act_408 : decode cL_act 408 = .ok (.goto 62, 3) := by decide +kernel
theorem dL_act_411 : decode cL_act 411 = .ok (.iload_n 1, 1) := by decide +kernel
theorem dL_act_412 : decode cL_act 412 = .ok (.bipush 24, 2) := by decide +kernel
theorem dL_act_414 : decode cL_act 414 = .ok (.if_icmp .ne 31, 3) := by decide +kernel
theorem dL_act_417 : decode cL_act 417 = .ok (.aload_n 0, 1) := by decide +kernel
theorem dL_act_418 : decode cL_act 418 = .ok (.iload_n 2, 1) := by decide +kernel
theorem dL_act_419 : decode cL_act 419 = .ok (.iload_n 3, 1) := by decide +kernel
theorem dL_act_420 : decode cL_act 420 = .ok (.iload 4, 2) := by decide +kernel
theorem dL_act_422 : decode cL_act 422 = .ok (.iconst 1, 1) := by decide +kernel
theorem dL_act_423 : decode cL_act 423 = .ok (.if_icmp .ne 7, 3) := by decide +kernel
theorem dL_act_426 : decode cL_act 426 = .ok (.iconst 1, 1) := by decide +kernel
theorem dL_act_427 : decode cL_act 427 = .ok (.goto 4, 3) := by decide +kernel
theorem dL_act_430 : decode cL_act 430 = .ok (.iconst 0, 1) := by decide +kernel
theorem dL_act_431 : decode cL_act 431 = .ok (.invokevirtual 91, 3) := by decide +kernel
theorem dL_act_434 : decode cL_act 434 = .ok (.ifCond .eq 7, 3) := by decide +kernel
theorem dL_act_437 : decode cL_act 437 = .ok (.iconst 1, 1) := by decide +kernel
theorem dL_act_438 : decode cL_act 438 = .ok (.goto 32, 3) := by decide +kernel
theorem dL_act_441 : decode cL_act 441 = .ok (.iconst 0, 1) := by decide +kernel
theorem dL_act_442 : decode cL_act 442 = .ok (.goto 28, 3) := by decide +kernel
theorem dL_act_445 : decode cL_act 445 = .ok (.aload_n 0, 1) := by decide +kernel
theorem dL_act_446 : decode cL_act 446 = .ok (.iload_n 2, 1) := by decide +kernel
theorem dL_act_447 : decode cL_act 447 = .ok (.iload_n 3, 1) := by decide +kernel
theorem dL_act_448 : decode cL_act 448 = .ok (.iload 4, 2) := by decide +kernel
theorem dL_act_450 : decode cL_act 450 = .ok (.iconst 1, 1) := by decide +kernel
theorem dL_act_451 : decode cL_act 451 = .ok (.if_icmp .ne 7, 3) := by decide +kernel
theorem dL_act_454 : decode cL_act 454 = .ok (.iconst 1, 1) := by decide +kernel
theorem dL_act_455 : decode cL_act 455 = .ok (.goto 4, 3) := by decide +kernel
theorem dL_act_458 : decode cL_act 458 = .ok (.iconst 0, 1) := by decide +kernel
theorem dL_act_459 : decode cL_act 459 = .ok (.invokevirtual 95, 3) := by decide +kernel
theorem dL_act_462 : decode cL_act 462 = .ok (.ifCond .eq 7, 3) := by decide +kernel
theorem dL_act_465 : decode cL_act 465 = .ok (.iconst 1, 1) := by decide +kernel
theorem dL_act_466 : decode cL_act 466 = .ok (.goto 4, 3) := by decide +kernel
theorem dL_act_469 : decode cL_act 469 = .ok (.iconst 0, 1) := by decide +kernel
theorem dL_act_470 : decode cL_act 470 = .ok (.ireturn, 1) := by decide +kernel
theorem dL_act_471 : decode cL_act 471 = .ok (.astore 7, 2) := by decide +kernel
theorem dL_act_473 : decode cL_act 473 = .ok (.sipush (-1261), 3) := by decide +kernel
theorem dL_act_476 : decode cL_act 476 = .ok (.ireturn, 1) := by decide +kernel
theorem dL_act_477 : decode cL_act 477 = .ok (.astore 7, 2) := by decide +kernel
theorem dL_act_479 : decode cL_act 479 = .ok (.sipush (-1262), 3) := by decide +kernel
theorem dL_act_482 : decode cL_act 482 = .ok (.ireturn, 1) := by decide +kernel
theorem dL_act_483 : decode cL_act 483 = .ok (.astore 7, 2) := by decide +kernel
theorem dL_act_485 : decode cL_act 485 = .ok (.sipush (-1263), 3) := by decide +kernel
theorem dL_act_488 : decode cL_act 488 = .ok (.ireturn, 1) := by decide +kernel
theorem dL_commented_0 : decode cL_commented 0 = .ok (.aload_n 0, 1) := by decide +kernel
theorem dL_commented_1 : decode cL_commented 1 = .ok (.iload_n 1, 1) := by decide +kernel
theorem dL_commented_2 : decode cL_commented 2 = .ok (.iload_n 2, 1) := by decide +kernel
theorem dL_commented_3 : decode cL_commented 3 = .ok (.iload_n 3, 1) := by decide +kernel
theorem dL_commented_4 : decode cL_commented 4 = .ok (.iload 4, 2) := by decide +kernel
theorem dL_commented_6 : decode cL_commented 6 = .ok (.iload 5, 2) := by decide +kernel
theorem dL_commented_8 : decode cL_commented 8 = .ok (.iload 6, 2) := by decide +kernel
theorem dL_commented_10 : decode cL_commented 10 = .ok (.iload 5, 2) := by decide +kernel
theorem dL_commented_12 : decode cL_commented 12 = .ok (.iconst 2, 1) := by decide +kernel
theorem dL_commented_13 : decode cL_commented 13 = .ok (.irem, 1) := by decide +kernel
theorem dL_commented_14 : decode cL_commented 14 = .ok (.ifCond .ne 7, 3) := by decide +kernel
theorem dL_commented_17 : decode cL_commented 17 = .ok (.iconst 1, 1) := by decide +kernel
theorem dL_commented_18 : decode cL_commented 18 = .ok (.goto 4, 3) := by decide +kernel
theorem dL_commented_21 : decode cL_commented 21 = .ok (.iconst 0, 1) := by decide +kernel
theorem dL_commented_22 : decode cL_commented 22 = .ok (.invokevirtual 104, 3) := by decide +kernel
theorem dL_commented_25 : decode cL_commented 25 = .ok (.ireturn, 1) := by decide +kernel
theorem dL_commented_26 : decode cL_commented 26 = .ok (.astore 7, 2) := by decide +kernel
theorem dL_commented_28 : decode cL_commented 28 = .ok (.sipush (-1261), 3) := by decide +kernel
theorem dL_commented_31 : decode cL_commented 31 = .ok (.ireturn, 1) := by decide +kernel
theorem dL_commented_32 : decode cL_commented 32 = .ok (.astore 7, 2) := by decide +kernel
theorem dL_commented_34 : decode cL_commented 34 = .ok (.sipush (-1262), 3) := by decide +kernel
theorem dL_commented_37 : decode cL_commented 37 = .ok (.ireturn, 1) := by decide +kernel
theorem dL_commented_38 : decode cL_commented 38 = .ok (.astore 7, 2) := by decide +kernel
theorem dL_commented_40 : decode cL_commented 40 = .ok (.sipush (-1263), 3) := by decide +kernel
theorem dL_commented_43 : decode cL_commented 43 = .ok (.ireturn, 1) := by decide +kernel
theorem dL_found_0 : decode cL_found 0 = .ok (.aload_n 0, 1) := by decide +kernel
theorem dL_found_1 : decode cL_found 1 = .ok (.iload_n 1, 1) := by decide +kernel
theorem dL_found_2 : decode cL_found 2 = .ok (.iload_n 2, 1) := by decide +kernel
theorem dL_found_3 : decode cL_found 3 = .ok (.iload_n 3, 1) := by decide +kernel
theorem dL_found_4 : decode cL_found 4 = .ok (.iload 4, 2) := by decide +kernel
theorem dL_found_6 : decode cL_found 6 = .ok (.iload 5, 2) := by decide +kernel
theorem dL_found_8 : decode cL_found 8 = .ok (.iload 6, 2) := by decide +kernel
theorem dL_found_10 : decode cL_found 10 = .ok (.invokevirtual 108, 3) := by decide +kernel
theorem dL_found_13 : decode cL_found 13 = .ok (.ireturn, 1) := by decide +kernel
theorem dL_found_14 : decode cL_found 14 = .ok (.astore 7, 2) := by decide +kernel
theorem dL_found_16 : decode cL_found 16 = .ok (.sipush (-1261), 3) := by decide +kernel
theorem dL_found_19 : decode cL_found 19 = .ok (.ireturn, 1) := by decide +kernel
theorem dL_found_20 : decode cL_found 20 = .ok (.astore 7, 2) := by decide +kernel
theorem dL_found_22 : decode cL_found 22 = .ok (.sipush (-1262), 3) := by decide +kernel
theorem dL_found_25 : decode cL_found 25 = .ok (.ireturn, 1) := by decide +kernel
theorem dL_of_0 : decode cL_of 0 = .ok (.iload_n 1, 1) := by decide +kernel
theorem dL_of_1 : decode cL_of 1 = .ok (.ifCond .ne 14, 3) := by decide +kernel
theorem dL_of_4 : decode cL_of 4 = .ok (.aload_n 0, 1) := by decide +kernel
theorem dL_of_5 : decode cL_of 5 = .ok (.iload_n 2, 1) := by decide +kernel
theorem dL_of_6 : decode cL_of 6 = .ok (.iload_n 3, 1) := by decide +kernel
theorem dL_of_7 : decode cL_of 7 = .ok (.iload 4, 2) := by decide +kernel
theorem dL_of_9 : decode cL_of 9 = .ok (.invokevirtual 112, 3) := by decide +kernel
theorem dL_of_12 : decode cL_of 12 = .ok (.goto 305, 3) := by decide +kernel
theorem dL_of_15 : decode cL_of 15 = .ok (.iload_n 1, 1) := by decide +kernel
theorem dL_of_16 : decode cL_of 16 = .ok (.iconst 1, 1) := by decide +kernel
theorem dL_of_17 : decode cL_of 17 = .ok (.if_icmp .ne 11, 3) := by decide +kernel
theorem dL_of_20 : decode cL_of 20 = .ok (.aload_n 0, 1) := by decide +kernel
theorem dL_of_21 : decode cL_of 21 = .ok (.iload_n 2, 1) := by decide +kernel
theorem dL_of_22 : decode cL_of 22 = .ok (.invokevirtual 115, 3) := by decide +kernel
theorem dL_of_25 : decode cL_of 25 = .ok (.goto 292, 3) := by decide +kernel
theorem dL_of_28 : decode cL_of 28 = .ok (.iload_n 1, 1) := by decide +kernel
theorem dL_of_29 : decode cL_of 29 = .ok (.iconst 2, 1) := by decide +kernel
theorem dL_of_30 : decode cL_of 30 = .ok (.if_icmp .ne 11, 3) := by decide +kernel
theorem dL_of_33 : decode cL_of 33 = .ok (.aload_n 0, 1) := by decide +kernel
theorem dL_of_34 : decode cL_of 34 = .ok (.iload_n 2, 1) := by decide +kernel
theorem dL_of_35 : decode cL_of 35 = .ok (.invokevirtual 118, 3) := by decide +kernel
theorem dL_of_38 : decode cL_of 38 = .ok (.goto 279, 3) := by decide +kernel
theorem dL_of_41 : decode cL_of 41 = .ok (.iload_n 1, 1) := by decide +kernel
theorem dL_of_42 : decode cL_of 42 = .ok (.iconst 3, 1) := by decide +kernel
theorem dL_of_43 : decode cL_of 43 = .ok (.if_icmp .ne 11, 3) := by decide +kernel
theorem dL_of_46 : decode cL_of 46 = .ok (.aload_n 0, 1) := by decide +kernel
theorem dL_of_47 : decode cL_of 47 = .ok (.iload_n 2, 1) := by decide +kernel
theorem dL_of_48 : decode cL_of 48 = .ok (.invokevirtual 121, 3) := by decide +kernel
theorem dL_of_51 : decode cL_of 51 = .ok (.goto 266, 3) := by decide +kernel
theorem dL_of_54 : decode cL_of 54 = .ok (.iload_n 1, 1) := by decide +kernel
theorem dL_of_55 : decode cL_of 55 = .ok (.iconst 4, 1) := by decide +kernel
theorem dL_of_56 : decode cL_of 56 = .ok (.if_icmp .ne 11, 3) := by decide +kernel
theorem dL_of_59 : decode cL_of 59 = .ok (.aload_n 0, 1) := by decide +kernel
theorem dL_of_60 : decode cL_of 60 = .ok (.iload_n 2, 1) := by decide +kernel
theorem dL_of_61 : decode cL_of 61 = .ok (.invokevirtual 124, 3) := by decide +kernel
theorem dL_of_64 : decode cL_of 64 = .ok (.goto 253, 3) := by decide +kernel
theorem dL_of_67 : decode cL_of 67 = .ok (.iload_n 1, 1) := by decide +kernel
theorem dL_of_68 : decode cL_of 68 = .ok (.iconst 5, 1) := by decide +kernel
theorem dL_of_69 : decode cL_of 69 = .ok (.if_icmp .ne 11, 3) := by decide +kernel
theorem dL_of_72 : decode cL_of 72 = .ok (.aload_n 0, 1) := by decide +kernel
theorem dL_of_73 : decode cL_of 73 = .ok (.iload_n 2, 1) := by decide +kernel
theorem dL_of_74 : decode cL_of 74 = .ok (.invokevirtual 127, 3) := by decide +kernel
theorem dL_of_77 : decode cL_of 77 = .ok (.goto 240, 3) := by decide +kernel
theorem dL_of_80 : decode cL_of 80 = .ok (.iload_n 1, 1) := by decide +kernel
theorem dL_of_81 : decode cL_of 81 = .ok (.bipush 6, 2) := by decide +kernel
theorem dL_of_83 : decode cL_of 83 = .ok (.if_icmp .ne 12, 3) := by decide +kernel
theorem dL_of_86 : decode cL_of 86 = .ok (.aload_n 0, 1) := by decide +kernel
theorem dL_of_87 : decode cL_of 87 = .ok (.iload_n 2, 1) := by decide +kernel
theorem dL_of_88 : decode cL_of 88 = .ok (.iload_n 3, 1) := by decide +kernel
theorem dL_of_89 : decode cL_of 89 = .ok (.invokevirtual 130, 3) := by decide +kernel
theorem dL_of_92 : decode cL_of 92 = .ok (.goto 225, 3) := by decide +kernel
theorem dL_of_95 : decode cL_of 95 = .ok (.iload_n 1, 1) := by decide +kernel
theorem dL_of_96 : decode cL_of 96 = .ok (.bipush 7, 2) := by decide +kernel
theorem dL_of_98 : decode cL_of 98 = .ok (.if_icmp .ne 12, 3) := by decide +kernel
theorem dL_of_101 : decode cL_of 101 = .ok (.aload_n 0, 1) := by decide +kernel
theorem dL_of_102 : decode cL_of 102 = .ok (.iload_n 2, 1) := by decide +kernel
theorem dL_of_103 : decode cL_of 103 = .ok (.iload_n 3, 1) := by decide +kernel
theorem dL_of_104 : decode cL_of 104 = .ok (.invokevirtual 133, 3) := by decide +kernel
theorem dL_of_107 : decode cL_of 107 = .ok (.goto 210, 3) := by decide +kernel
theorem dL_of_110 : decode cL_of 110 = .ok (.iload_n 1, 1) := by decide +kernel
theorem dL_of_111 : decode cL_of 111 = .ok (.bipush 8, 2) := by decide +kernel
theorem dL_of_113 : decode cL_of 113 = .ok (.if_icmp .ne 11, 3) := by decide +kernel
theorem dL_of_116 : decode cL_of 116 = .ok (.aload_n 0, 1) := by decide +kernel
theorem dL_of_117 : decode cL_of 117 = .ok (.iload_n 2, 1) := by decide +kernel
theorem dL_of_118 : decode cL_of 118 = .ok (.invokevirtual 136, 3) := by decide +kernel
theorem dL_of_121 : decode cL_of 121 = .ok (.goto 196, 3) := by decide +kernel
theorem dL_of_124 : decode cL_of 124 = .ok (.iload_n 1, 1) := by decide +kernel
theorem dL_of_125 : decode cL_of 125 = .ok (.bipush 9, 2) := by decide +kernel
theorem dL_of_127 : decode cL_of 127 = .ok (.if_icmp .ne 12, 3) := by decide +kernel
theorem dL_of_130 : decode cL_of 130 = .ok (.aload_n 0, 1) := by decide +kernel
theorem dL_of_131 : decode cL_of 131 = .ok (.iload_n 2, 1) := by decide +kernel
theorem dL_of_132 : decode cL_of 132 = .ok (.iload_n 3, 1) := by decide +kernel
theorem dL_of_133 : decode cL_of 133 = .ok (.invokevirtual 139, 3) := by decide +kernel
theorem dL_of_136 : decode cL_of 136 = .ok (.goto 181, 3) := by decide +kernel
theorem dL_of_139 : decode cL_of 139 = .ok (.iload_n 1, 1) := by decide +kernel
theorem dL_of_140 : decode cL_of 140 = .ok (.bipush 10, 2) := by decide +kernel
theorem dL_of_142 : decode cL_of 142 = .ok (.if_icmp .ne 16, 3) := by decide +kernel
theorem dL_of_145 : decode cL_of 145 = .ok (.aload_n 0, 1) := by decide +kernel
theorem dL_of_146 : decode cL_of 146 = .ok (.iload_n 2, 1) := by decide +kernel
theorem dL_of_147 : decode cL_of 147 = .ok (.iload_n 3, 1) := by decide +kernel
theorem dL_of_148 : decode cL_of 148 = .ok (.iload 4, 2) := by decide +kernel
theorem dL_of_150 : decode cL_of 150 = .ok (.iload 5, 2) := by decide +kernel
theorem dL_of_152 : decode cL_of 152 = .ok (.invokevirtual 142, 3) := by decide +kernel
theorem dL_of_155 : decode cL_of 155 = .ok (.goto 162, 3) := by decide +kernel
theorem dL_of_158 : decode cL_of 158 = .ok (.iload_n 1, 1) := by decide +kernel
theorem dL_of_159 : decode cL_of 159 = .ok (.bipush 11, 2) := by decide +kernel
theorem dL_of_161 : decode cL_of 161 = .ok (.if_icmp .ne 11, 3) := by decide +kernel
theorem dL_of_164 : decode cL_of 164 = .ok (.aload_n 0, 1) := by decide +kernel
theorem dL_of_165 : decode cL_of 165 = .ok (.iload_n 2, 1) := by decide +kernel
theorem dL_of_166 : decode cL_of 166 = .ok (.invokevirtual 146, 3) := by decide +kernel
theorem dL_of_169 : decode cL_of 169 = .ok (.goto 148, 3) := by decide +kernel
theorem dL_of_172 : decode cL_of 172 = .ok (.iload_n 1, 1) := by decide +kernel
theorem dL_of_173 : decode cL_of 173 = .ok (.bipush 12, 2) := by decide +kernel
theorem dL_of_175 : decode cL_of 175 = .ok (.if_icmp .ne 11, 3) := by decide +kernel
theorem dL_of_178 : decode cL_of 178 = .ok (.aload_n 0, 1) := by decide +kernel
theorem dL_of_179 : decode cL_of 179 = .ok (.iload_n 2, 1) := by decide +kernel
theorem dL_of_180 : decode cL_of 180 = .ok (.invokevirtual 149, 3) := by decide +kernel
theorem dL_of_183 : decode cL_of 183 = .ok (.goto 134, 3) := by decide +kernel
theorem dL_of_186 : decode cL_of 186 = .ok (.iload_n 1, 1) := by decide +kernel
theorem dL_of_187 : decode cL_of 187 = .ok (.bipush 13, 2) := by decide +kernel
theorem dL_of_189 : decode cL_of 189 = .ok (.if_icmp .ne 11, 3) := by decide +kernel
theorem dL_of_192 : decode cL_of 192 = .ok (.aload_n 0, 1) := by decide +kernel
theorem dL_of_193 : decode cL_of 193 = .ok (.iload_n 2, 1) := by decide +kernel
theorem dL_of_194 : decode cL_of 194 = .ok (.invokevirtual 152, 3) := by decide +kernel
theorem dL_of_197 : decode cL_of 197 = .ok (.goto 120, 3) := by decide +kernel
theorem dL_of_200 : decode cL_of 200 = .ok (.iload_n 1, 1) := by decide +kernel
theorem dL_of_201 : decode cL_of 201 = .ok (.bipush 14, 2) := by decide +kernel
theorem dL_of_203 : decode cL_of 203 = .ok (.if_icmp .ne 11, 3) := by decide +kernel
theorem dL_of_206 : decode cL_of 206 = .ok (.aload_n 0, 1) := by decide +kernel
theorem dL_of_207 : decode cL_of 207 = .ok (.iload_n 2, 1) := by decide +kernel
theorem dL_of_208 : decode cL_of 208 = .ok (.invokevirtual 155, 3) := by decide +kernel
theorem dL_of_211 : decode cL_of 211 = .ok (.goto 106, 3) := by decide +kernel
theorem dL_of_214 : decode cL_of 214 = .ok (.iload_n 1, 1) := by decide +kernel
theorem dL_of_215 : decode cL_of 215 = .ok (.bipush 15, 2) := by decide +kernel
theorem dL_of_217 : decode cL_of 217 = .ok (.if_icmp .ne 11, 3) := by decide +kernel
theorem dL_of_220 : decode cL_of 220 = .ok (.aload_n 0, 1) := by decide +kernel
theorem dL_of_221 : decode cL_of 221 = .ok (.iload_n 2, 1) := by decide +kernel
theorem dL_of_222 : decode cL_of 222 = .ok (.invokevirtual 158, 3) := by decide +kernel
theorem dL_of_225 : decode cL_of 225 = .ok (.goto 92, 3) := by decide +kernel
theorem dL_of_228 : decode cL_of 228 = .ok (.iload_n 1, 1) := by decide +kernel
theorem dL_of_229 : decode cL_of 229 = .ok (.bipush 16, 2) := by decide +kernel
theorem dL_of_231 : decode cL_of 231 = .ok (.if_icmp .ne 11, 3) := by decide +kernel
theorem dL_of_234 : decode cL_of 234 = .ok (.aload_n 0, 1) := by decide +kernel
theorem dL_of_235 : decode cL_of 235 = .ok (.iload_n 2, 1) := by decide +kernel
theorem dL_of_236 : decode cL_of 236 = .ok (.invokevirtual 161, 3) := by decide +kernel
theorem dL_of_239 : decode cL_of 239 = .ok (.goto 78, 3) := by decide +kernel
theorem dL_of_242 : decode cL_of 242 = .ok (.iload_n 1, 1) := by decide +kernel
theorem dL_of_243 : decode cL_of 243 = .ok (.bipush 17, 2) := by decide +kernel
theorem dL_of_245 : decode cL_of 245 = .ok (.if_icmp .ne 11, 3) := by decide +kernel
theorem dL_of_248 : decode cL_of 248 = .ok (.aload_n 0, 1) := by decide +kernel
theorem dL_of_249 : decode cL_of 249 = .ok (.iload_n 2, 1) := by decide +kernel
theorem dL_of_250 : decode cL_of 250 = .ok (.invokevirtual 164, 3) := by decide +kernel
theorem dL_of_253 : decode cL_of 253 = .ok (.goto 64, 3) := by decide +kernel
theorem dL_of_256 : decode cL_of 256 = .ok (.iload_n 1, 1) := by decide +kernel
theorem dL_of_257 : decode cL_of 257 = .ok (.bipush 18, 2) := by decide +kernel
theorem dL_of_259 : decode cL_of 259 = .ok (.if_icmp .ne 11, 3) := by decide +kernel
theorem dL_of_262 : decode cL_of 262 = .ok (.aload_n 0, 1) := by decide +kernel
theorem dL_of_263 : decode cL_of 263 = .ok (.iload_n 2, 1) := by decide +kernel
theorem dL_of_264 : decode cL_of 264 = .ok (.invokevirtual 167, 3) := by decide +kernel
theorem dL_of_267 : decode cL_of 267 = .ok (.goto 50, 3) := by decide +kernel
theorem dL_of_270 : decode cL_of 270 = .ok (.iload_n 1, 1) := by decide +kernel
theorem dL_of_271 : decode cL_of 271 = .ok (.bipush 19, 2) := by decide +kernel
theorem dL_of_273 : decode cL_of 273 = .ok (.if_icmp .ne 12, 3) := by decide +kernel
theorem dL_of_276 : decode cL_of 276 = .ok (.aload_n 0, 1) := by decide +kernel
theorem dL_of_277 : decode cL_of 277 = .ok (.iload_n 2, 1) := by decide +kernel
theorem dL_of_278 : decode cL_of 278 = .ok (.iload_n 3, 1) := by decide +kernel
theorem dL_of_279 : decode cL_of 279 = .ok (.invokevirtual 170, 3) := by decide +kernel
theorem dL_of_282 : decode cL_of 282 = .ok (.goto 35, 3) := by decide +kernel
theorem dL_of_285 : decode cL_of 285 = .ok (.iload_n 1, 1) := by decide +kernel
theorem dL_of_286 : decode cL_of 286 = .ok (.bipush 20, 2) := by decide +kernel
theorem dL_of_288 : decode cL_of 288 = .ok (.if_icmp .ne 17, 3) := by decide +kernel
theorem dL_of_291 : decode cL_of 291 = .ok (.aload_n 0, 1) := by decide +kernel
theorem dL_of_292 : decode cL_of 292 = .ok (.iload_n 2, 1) := by decide +kernel
theorem dL_of_293 : decode cL_of 293 = .ok (.iload_n 3, 1) := by decide +kernel
theorem dL_of_294 : decode cL_of 294 = .ok (.iload 4, 2) := by decide +kernel
theorem dL_of_296 : decode cL_of 296 = .ok (.iload 5, 2) := by decide +kernel
theorem dL_of_298 : decode cL_of 298 = .ok (.iconst 0, 1) := by decide +kernel
theorem dL_of_299 : decode cL_of 299 = .ok (.invokevirtual 173, 3) := by decide +kernel
theorem dL_of_302 : decode cL_of 302 = .ok (.goto 15, 3) := by decide +kernel
theorem dL_of_305 : decode cL_of 305 = .ok (.aload_n 0, 1) := by decide +kernel
theorem dL_of_306 : decode cL_of 306 = .ok (.iload_n 2, 1) := by decide +kernel
theorem dL_of_307 : decode cL_of 307 = .ok (.iload_n 3, 1) := by decide +kernel
theorem dL_of_308 : decode cL_of 308 = .ok (.iload 4, 2) := by decide +kernel
theorem dL_of_310 : decode cL_of 310 = .ok (.iconst 0, 1) := by decide +kernel
theorem dL_of_311 : decode cL_of 311 = .ok (.iconst 1, 1) := by decide +kernel
theorem dL_of_312 : decode cL_of 312 = .ok (.iload 5, 2) := by decide +kernel
theorem dL_of_314 : decode cL_of 314 = .ok (.invokevirtual 177, 3) := by decide +kernel
theorem dL_of_317 : decode cL_of 317 = .ok (.ireturn, 1) := by decide +kernel
theorem dL_of_318 : decode cL_of 318 = .ok (.astore 6, 2) := by decide +kernel
theorem dL_of_320 : decode cL_of 320 = .ok (.sipush (-1261), 3) := by decide +kernel
theorem dL_of_323 : decode cL_of 323 = .ok (.ireturn, 1) := by decide +kernel
theorem dL_of_324 : decode cL_of 324 = .ok (.astore 6, 2) := by decide +kernel
theorem dL_of_326 : decode cL_of 326 = .ok (.sipush (-1262), 3) := by decide +kernel
theorem dL_of_329 : decode cL_of 329 = .ok (.ireturn, 1) := by decide +kernel
theorem dL_of_330 : decode cL_of 330 = .ok (.astore 6, 2) := by decide +kernel
theorem dL_of_332 : decode cL_of 332 = .ok (.sipush (-1263), 3) := by decide +kernel
theorem dL_of_335 : decode cL_of 335 = .ok (.ireturn, 1) := by decide +kernel
theorem dL_size_0 : decode cL_size 0 = .ok (.iconst 0, 1) := by decide +kernel
theorem dL_size_1 : decode cL_size 1 = .ok (.istore_n 3, 1) := by decide +kernel
theorem dL_size_2 : decode cL_size 2 = .ok (.aload_n 0, 1) := by decide +kernel
theorem dL_size_3 : decode cL_size 3 = .ok (.iload_n 1, 1) := by decide +kernel
theorem dL_size_4 : decode cL_size 4 = .ok (.iload_n 2, 1) := by decide +kernel
theorem dL_size_5 : decode cL_size 5 = .ok (.iload_n 3, 1) := by decide +kernel
theorem dL_size_6 : decode cL_size 6 = .ok (.invokevirtual 112, 3) := by decide +kernel
theorem dL_size_9 : decode cL_size 9 = .ok (.ifCond .lt 9, 3) := by decide +kernel
theorem dL_size_12 : decode cL_size 12 = .ok (.iinc 3 1, 3) := by decide +kernel
theorem dL_size_15 : decode cL_size 15 = .ok (.goto (-13), 3) := by decide +kernel
theorem dL_size_18 : decode cL_size 18 = .ok (.iload_n 3, 1) := by decide +kernel
theorem dL_size_19 : decode cL_size 19 = .ok (.ireturn, 1) := by decide +kernel
theorem dL_now_0 : decode cL_now 0 = .ok (.aload_n 0, 1) := by decide +kernel
theorem dL_now_1 : decode cL_now 1 = .ok (.iload_n 1, 1) := by decide +kernel
theorem dL_now_2 : decode cL_now 2 = .ok (.aload_n 0, 1) := by decide +kernel
theorem dL_now_3 : decode cL_now 3 = .ok (.iload_n 1, 1) := by decide +kernel
theorem dL_now_4 : decode cL_now 4 = .ok (.invokevirtual 127, 3) := by decide +kernel
theorem dL_now_7 : decode cL_now 7 = .ok (.iconst 1, 1) := by decide +kernel
theorem dL_now_8 : decode cL_now 8 = .ok (.isub, 1) := by decide +kernel
theorem dL_now_9 : decode cL_now 9 = .ok (.invokevirtual 130, 3) := by decide +kernel
theorem dL_now_12 : decode cL_now 12 = .ok (.ireturn, 1) := by decide +kernel
theorem dL_all_0 : decode cL_all 0 = .ok (.aload_n 0, 1) := by decide +kernel
theorem dL_all_1 : decode cL_all 1 = .ok (.invokevirtual 181, 3) := by decide +kernel
theorem dL_all_4 : decode cL_all 4 = .ok (.i2l, 1) := by decide +kernel
theorem dL_all_5 : decode cL_all 5 = .ok (.ldc2_w 185, 3) := by decide +kernel
theorem dL_all_8 : decode cL_all 8 = .ok (.aload_n 0, 1) := by decide +kernel
theorem dL_all_9 : decode cL_all 9 = .ok (.invokevirtual 187, 3) := by decide +kernel
theorem dL_all_12 : decode cL_all 12 = .ok (.i2l, 1) := by decide +kernel
theorem dL_all_13 : decode cL_all 13 = .ok (.lmul, 1) := by decide +kernel
theorem dL_all_14 : decode cL_all 14 = .ok (.ladd, 1) := by decide +kernel
theorem dL_all_15 : decode cL_all 15 = .ok (.ldc2_w 190, 3) := by decide +kernel
theorem dL_all_18 : decode cL_all 18 = .ok (.aload_n 0, 1) := by decide +kernel
theorem dL_all_19 : decode cL_all 19 = .ok (.invokevirtual 192, 3) := by decide +kernel
theorem dL_all_22 : decode cL_all 22 = .ok (.i2l, 1) := by decide +kernel
theorem dL_all_23 : decode cL_all 23 = .ok (.lmul, 1) := by decide +kernel
theorem dL_all_24 : decode cL_all 24 = .ok (.ladd, 1) := by decide +kernel
theorem dL_all_25 : decode cL_all 25 = .ok (.ldc2_w 195, 3) := by decide +kernel
theorem dL_all_28 : decode cL_all 28 = .ok (.aload_n 0, 1) := by decide +kernel
theorem dL_all_29 : decode cL_all 29 = .ok (.iconst 0, 1) := by decide +kernel
theorem dL_all_30 : decode cL_all 30 = .ok (.invokevirtual 118, 3) := by decide +kernel
theorem dL_all_33 : decode cL_all 33 = .ok (.i2l, 1) := by decide +kernel
theorem dL_all_34 : decode cL_all 34 = .ok (.lmul, 1) := by decide +kernel
theorem dL_all_35 : decode cL_all 35 = .ok (.ladd, 1) := by decide +kernel
theorem dL_all_36 : decode cL_all 36 = .ok (.ldc2_w 197, 3) := by decide +kernel
theorem dL_all_39 : decode cL_all 39 = .ok (.aload_n 0, 1) := by decide +kernel
theorem dL_all_40 : decode cL_all 40 = .ok (.iconst 1, 1) := by decide +kernel
theorem dL_all_41 : decode cL_all 41 = .ok (.invokevirtual 118, 3) := by decide +kernel
theorem dL_all_44 : decode cL_all 44 = .ok (.i2l, 1) := by decide +kernel
theorem dL_all_45 : decode cL_all 45 = .ok (.lmul, 1) := by decide +kernel
theorem dL_all_46 : decode cL_all 46 = .ok (.ladd, 1) := by decide +kernel
theorem dL_all_47 : decode cL_all 47 = .ok (.lstore_n 1, 1) := by decide +kernel
theorem dL_all_48 : decode cL_all 48 = .ok (.iconst 0, 1) := by decide +kernel
theorem dL_all_49 : decode cL_all 49 = .ok (.istore_n 3, 1) := by decide +kernel
theorem dL_all_50 : decode cL_all 50 = .ok (.iload_n 3, 1) := by decide +kernel
theorem dL_all_51 : decode cL_all 51 = .ok (.aload_n 0, 1) := by decide +kernel
theorem dL_all_52 : decode cL_all 52 = .ok (.invokevirtual 187, 3) := by decide +kernel
theorem dL_all_55 : decode cL_all 55 = .ok (.if_icmp .ge 66, 3) := by decide +kernel
theorem dL_all_58 : decode cL_all 58 = .ok (.ldc2_w 199, 3) := by decide +kernel
theorem dL_all_61 : decode cL_all 61 = .ok (.lload_n 1, 1) := by decide +kernel
theorem dL_all_62 : decode cL_all 62 = .ok (.lmul, 1) := by decide +kernel
theorem dL_all_63 : decode cL_all 63 = .ok (.aload_n 0, 1) := by decide +kernel
theorem dL_all_64 : decode cL_all 64 = .ok (.iload_n 3, 1) := by decide +kernel
theorem dL_all_65 : decode cL_all 65 = .ok (.invokevirtual 124, 3) := by decide +kernel
theorem dL_all_68 : decode cL_all 68 = .ok (.i2l, 1) := by decide +kernel
theorem dL_all_69 : decode cL_all 69 = .ok (.ladd, 1) := by decide +kernel
theorem dL_all_70 : decode cL_all 70 = .ok (.ldc2_w 201, 3) := by decide +kernel
theorem dL_all_73 : decode cL_all 73 = .ok (.aload_n 0, 1) := by decide +kernel
theorem dL_all_74 : decode cL_all 74 = .ok (.iload_n 3, 1) := by decide +kernel
theorem dL_all_75 : decode cL_all 75 = .ok (.invokevirtual 127, 3) := by decide +kernel
theorem dL_all_78 : decode cL_all 78 = .ok (.i2l, 1) := by decide +kernel
theorem dL_all_79 : decode cL_all 79 = .ok (.lmul, 1) := by decide +kernel
theorem dL_all_80 : decode cL_all 80 = .ok (.ladd, 1) := by decide +kernel
theorem dL_all_81 : decode cL_all 81 = .ok (.ldc2_w 185, 3) := by decide +kernel
theorem dL_all_84 : decode cL_all 84 = .ok (.aload_n 0, 1) := by decide +kernel
theorem dL_all_85 : decode cL_all 85 = .ok (.iload_n 3, 1) := by decide +kernel
theorem dL_all_86 : decode cL_all 86 = .ok (.invokevirtual 146, 3) := by decide +kernel
theorem dL_all_89 : decode cL_all 89 = .ok (.i2l, 1) := by decide +kernel
theorem dL_all_90 : decode cL_all 90 = .ok (.lmul, 1) := by decide +kernel
theorem dL_all_91 : decode cL_all 91 = .ok (.ladd, 1) := by decide +kernel
theorem dL_all_92 : decode cL_all 92 = .ok (.ldc2_w 190, 3) := by decide +kernel
theorem dL_all_95 : decode cL_all 95 = .ok (.aload_n 0, 1) := by decide +kernel
theorem dL_all_96 : decode cL_all 96 = .ok (.iload_n 3, 1) := by decide +kernel
theorem dL_all_97 : decode cL_all 97 = .ok (.invokevirtual 152, 3) := by decide +kernel
theorem dL_all_100 : decode cL_all 100 = .ok (.i2l, 1) := by decide +kernel
theorem dL_all_101 : decode cL_all 101 = .ok (.lmul, 1) := by decide +kernel
theorem dL_all_102 : decode cL_all 102 = .ok (.ladd, 1) := by decide +kernel
theorem dL_all_103 : decode cL_all 103 = .ok (.ldc2_w 195, 3) := by decide +kernel
theorem dL_all_106 : decode cL_all 106 = .ok (.aload_n 0, 1) := by decide +kernel
theorem dL_all_107 : decode cL_all 107 = .ok (.iload_n 3, 1) := by decide +kernel
theorem dL_all_108 : decode cL_all 108 = .ok (.invokevirtual 155, 3) := by decide +kernel
theorem dL_all_111 : decode cL_all 111 = .ok (.i2l, 1) := by decide +kernel
theorem dL_all_112 : decode cL_all 112 = .ok (.lmul, 1) := by decide +kernel
theorem dL_all_113 : decode cL_all 113 = .ok (.ladd, 1) := by decide +kernel
theorem dL_all_114 : decode cL_all 114 = .ok (.lstore_n 1, 1) := by decide +kernel
theorem dL_all_115 : decode cL_all 115 = .ok (.iinc 3 1, 3) := by decide +kernel
theorem dL_all_118 : decode cL_all 118 = .ok (.goto (-68), 3) := by decide +kernel
theorem dL_all_121 : decode cL_all 121 = .ok (.iconst 0, 1) := by decide +kernel
theorem dL_all_122 : decode cL_all 122 = .ok (.istore_n 3, 1) := by decide +kernel
theorem dL_all_123 : decode cL_all 123 = .ok (.iload_n 3, 1) := by decide +kernel
theorem dL_all_124 : decode cL_all 124 = .ok (.bipush 6, 2) := by decide +kernel
theorem dL_all_126 : decode cL_all 126 = .ok (.if_icmp .ge 52, 3) := by decide +kernel
theorem dL_all_129 : decode cL_all 129 = .ok (.ldc2_w 185, 3) := by decide +kernel
theorem dL_all_132 : decode cL_all 132 = .ok (.lload_n 1, 1) := by decide +kernel
theorem dL_all_133 : decode cL_all 133 = .ok (.lmul, 1) := by decide +kernel
theorem dL_all_134 : decode cL_all 134 = .ok (.aload_n 0, 1) := by decide +kernel
theorem dL_all_135 : decode cL_all 135 = .ok (.iload_n 3, 1) := by decide +kernel
theorem dL_all_136 : decode cL_all 136 = .ok (.invokevirtual 158, 3) := by decide +kernel
theorem dL_all_139 : decode cL_all 139 = .ok (.i2l, 1) := by decide +kernel
theorem dL_all_140 : decode cL_all 140 = .ok (.ladd, 1) := by decide +kernel
theorem dL_all_141 : decode cL_all 141 = .ok (.ldc2_w 201, 3) := by decide +kernel
theorem dL_all_144 : decode cL_all 144 = .ok (.aload_n 0, 1) := by decide +kernel
theorem dL_all_145 : decode cL_all 145 = .ok (.iconst (-1), 1) := by decide +kernel
theorem dL_all_146 : decode cL_all 146 = .ok (.iload_n 3, 1) := by decide +kernel
theorem dL_all_147 : decode cL_all 147 = .ok (.iconst 4, 1) := by decide +kernel
theorem dL_all_148 : decode cL_all 148 = .ok (.irem, 1) := by decide +kernel
theorem dL_all_149 : decode cL_all 149 = .ok (.invokestatic 203, 3) := by decide +kernel
theorem dL_all_152 : decode cL_all 152 = .ok (.i2l, 1) := by decide +kernel
theorem dL_all_153 : decode cL_all 153 = .ok (.lmul, 1) := by decide +kernel
theorem dL_all_154 : decode cL_all 154 = .ok (.ladd, 1) := by decide +kernel
theorem dL_all_155 : decode cL_all 155 = .ok (.ldc2_w 209, 3) := by decide +kernel
theorem dL_all_158 : decode cL_all 158 = .ok (.aload_n 0, 1) := by decide +kernel
theorem dL_all_159 : decode cL_all 159 = .ok (.iload_n 3, 1) := by decide +kernel
theorem dL_all_160 : decode cL_all 160 = .ok (.iconst 2, 1) := by decide +kernel
theorem dL_all_161 : decode cL_all 161 = .ok (.irem, 1) := by decide +kernel
theorem dL_all_162 : decode cL_all 162 = .ok (.iload_n 3, 1) := by decide +kernel
theorem dL_all_163 : decode cL_all 163 = .ok (.iconst 4, 1) := by decide +kernel
theorem dL_all_164 : decode cL_all 164 = .ok (.irem, 1) := by decide +kernel
theorem dL_all_165 : decode cL_all 165 = .ok (.invokevirtual 139, 3) := by decide +kernel
theorem dL_all_168 : decode cL_all 168 = .ok (.i2l, 1) := by decide +kernel
theorem dL_all_169 : decode cL_all 169 = .ok (.lmul, 1) := by decide +kernel
theorem dL_all_170 : decode cL_all 170 = .ok (.ladd, 1) := by decide +kernel
theorem dL_all_171 : decode cL_all 171 = .ok (.lstore_n 1, 1) := by decide +kernel
theorem dL_all_172 : decode cL_all 172 = .ok (.iinc 3 1, 3) := by decide +kernel
theorem dL_all_175 : decode cL_all 175 = .ok (.goto (-52), 3) := by decide +kernel
theorem dL_all_178 : decode cL_all 178 = .ok (.lload_n 1, 1) := by decide +kernel
theorem dL_all_179 : decode cL_all 179 = .ok (.lreturn, 1) := by decide +kernel
theorem dL_most_0 : decode cL_most 0 = .ok (.aload_n 0, 1) := by decide +kernel
theorem dL_most_1 : decode cL_most 1 = .ok (.iload_n 2, 1) := by decide +kernel
theorem dL_most_2 : decode cL_most 2 = .ok (.iload_n 3, 1) := by decide +kernel
theorem dL_most_3 : decode cL_most 3 = .ok (.invokestatic 203, 3) := by decide +kernel
theorem dL_most_6 : decode cL_most 6 = .ok (.istore 4, 2) := by decide +kernel
theorem dL_most_8 : decode cL_most 8 = .ok (.lconst 0, 1) := by decide +kernel
theorem dL_most_9 : decode cL_most 9 = .ok (.lstore 5, 2) := by decide +kernel
theorem dL_most_11 : decode cL_most 11 = .ok (.aload_n 0, 1) := by decide +kernel
theorem dL_most_12 : decode cL_most 12 = .ok (.iload_n 1, 1) := by decide +kernel
theorem dL_most_13 : decode cL_most 13 = .ok (.iload_n 3, 1) := by decide +kernel
theorem dL_most_14 : decode cL_most 14 = .ok (.invokestatic 203, 3) := by decide +kernel
theorem dL_most_17 : decode cL_most 17 = .ok (.iconst 1, 1) := by decide +kernel
theorem dL_most_18 : decode cL_most 18 = .ok (.isub, 1) := by decide +kernel
theorem dL_most_19 : decode cL_most 19 = .ok (.istore 7, 2) := by decide +kernel
theorem dL_most_21 : decode cL_most 21 = .ok (.iload 7, 2) := by decide +kernel
theorem dL_most_23 : decode cL_most 23 = .ok (.ifCond .lt 143, 3) := by decide +kernel
theorem dL_most_26 : decode cL_most 26 = .ok (.lconst 0, 1) := by decide +kernel
theorem dL_most_27 : decode cL_most 27 = .ok (.lstore 8, 2) := by decide +kernel
theorem dL_most_29 : decode cL_most 29 = .ok (.iload 4, 2) := by decide +kernel
theorem dL_most_31 : decode cL_most 31 = .ok (.iconst 1, 1) := by decide +kernel
theorem dL_most_32 : decode cL_most 32 = .ok (.isub, 1) := by decide +kernel
theorem dL_most_33 : decode cL_most 33 = .ok (.istore 10, 2) := by decide +kernel
theorem dL_most_35 : decode cL_most 35 = .ok (.iload 10, 2) := by decide +kernel
theorem dL_most_37 : decode cL_most 37 = .ok (.ifCond .lt 119, 3) := by decide +kernel
theorem dL_most_40 : decode cL_most 40 = .ok (.aload_n 0, 1) := by decide +kernel
theorem dL_most_41 : decode cL_most 41 = .ok (.iload_n 1, 1) := by decide +kernel
theorem dL_most_42 : decode cL_most 42 = .ok (.iload_n 3, 1) := by decide +kernel
theorem dL_most_43 : decode cL_most 43 = .ok (.iload 7, 2) := by decide +kernel
theorem dL_most_45 : decode cL_most 45 = .ok (.invokevirtual 112, 3) := by decide +kernel
theorem dL_most_48 : decode cL_most 48 = .ok (.aload_n 0, 1) := by decide +kernel
theorem dL_most_49 : decode cL_most 49 = .ok (.iload_n 2, 1) := by decide +kernel
theorem dL_most_50 : decode cL_most 50 = .ok (.iload_n 3, 1) := by decide +kernel
theorem dL_most_51 : decode cL_most 51 = .ok (.iload 10, 2) := by decide +kernel
theorem dL_most_53 : decode cL_most 53 = .ok (.invokevirtual 112, 3) := by decide +kernel
theorem dL_most_56 : decode cL_most 56 = .ok (.if_icmp .ne 21, 3) := by decide +kernel
theorem dL_most_59 : decode cL_most 59 = .ok (.lconst 1, 1) := by decide +kernel
theorem dL_most_60 : decode cL_most 60 = .ok (.lload 5, 2) := by decide +kernel
theorem dL_most_62 : decode cL_most 62 = .ok (.iconst 4, 1) := by decide +kernel
theorem dL_most_63 : decode cL_most 63 = .ok (.iload 10, 2) := by decide +kernel
theorem dL_most_65 : decode cL_most 65 = .ok (.imul, 1) := by decide +kernel
theorem dL_most_66 : decode cL_most 66 = .ok (.iconst 4, 1) := by decide +kernel
theorem dL_most_67 : decode cL_most 67 = .ok (.iadd, 1) := by decide +kernel
theorem dL_most_68 : decode cL_most 68 = .ok (.lshr, 1) := by decide +kernel
theorem dL_most_69 : decode cL_most 69 = .ok (.ldc2_w 211, 3) := by decide +kernel
theorem dL_most_72 : decode cL_most 72 = .ok (.land, 1) := by decide +kernel
theorem dL_most_73 : decode cL_most 73 = .ok (.ladd, 1) := by decide +kernel
theorem dL_most_74 : decode cL_most 74 = .ok (.goto 4, 3) := by decide +kernel
theorem dL_most_77 : decode cL_most 77 = .ok (.lconst 0, 1) := by decide +kernel
theorem dL_most_78 : decode cL_most 78 = .ok (.lstore 11, 2) := by decide +kernel
theorem dL_most_80 : decode cL_most 80 = .ok (.lload 5, 2) := by decide +kernel
theorem dL_most_82 : decode cL_most 82 = .ok (.iconst 4, 1) := by decide +kernel
theorem dL_most_83 : decode cL_most 83 = .ok (.iload 10, 2) := by decide +kernel
theorem dL_most_85 : decode cL_most 85 = .ok (.imul, 1) := by decide +kernel
theorem dL_most_86 : decode cL_most 86 = .ok (.lshr, 1) := by decide +kernel
theorem dL_most_87 : decode cL_most 87 = .ok (.ldc2_w 211, 3) := by decide +kernel
theorem dL_most_90 : decode cL_most 90 = .ok (.land, 1) := by decide +kernel
theorem dL_most_91 : decode cL_most 91 = .ok (.lstore 13, 2) := by decide +kernel
theorem dL_most_93 : decode cL_most 93 = .ok (.lload 8, 2) := by decide +kernel
theorem dL_most_95 : decode cL_most 95 = .ok (.iconst 4, 1) := by decide +kernel
theorem dL_most_96 : decode cL_most 96 = .ok (.iload 10, 2) := by decide +kernel
theorem dL_most_98 : decode cL_most 98 = .ok (.imul, 1) := by decide +kernel
theorem dL_most_99 : decode cL_most 99 = .ok (.iconst 4, 1) := by decide +kernel
theorem dL_most_100 : decode cL_most 100 = .ok (.iadd, 1) := by decide +kernel
theorem dL_most_101 : decode cL_most 101 = .ok (.lshr, 1) := by decide +kernel
theorem dL_most_102 : decode cL_most 102 = .ok (.ldc2_w 211, 3) := by decide +kernel
theorem dL_most_105 : decode cL_most 105 = .ok (.land, 1) := by decide +kernel
theorem dL_most_106 : decode cL_most 106 = .ok (.lstore 15, 2) := by decide +kernel
theorem dL_most_108 : decode cL_most 108 = .ok (.lload 11, 2) := by decide +kernel
theorem dL_most_110 : decode cL_most 110 = .ok (.lload 13, 2) := by decide +kernel
theorem dL_most_112 : decode cL_most 112 = .ok (.lcmp, 1) := by decide +kernel
theorem dL_most_113 : decode cL_most 113 = .ok (.ifCond .le 8, 3) := by decide +kernel
theorem dL_most_116 : decode cL_most 116 = .ok (.lload 11, 2) := by decide +kernel
theorem dL_most_118 : decode cL_most 118 = .ok (.goto 5, 3) := by decide +kernel
theorem dL_most_121 : decode cL_most 121 = .ok (.lload 13, 2) := by decide +kernel
theorem dL_most_123 : decode cL_most 123 = .ok (.lstore 11, 2) := by decide +kernel
theorem dL_most_125 : decode cL_most 125 = .ok (.lload 8, 2) := by decide +kernel
theorem dL_most_127 : decode cL_most 127 = .ok (.lload 11, 2) := by decide +kernel
theorem dL_most_129 : decode cL_most 129 = .ok (.lload 15, 2) := by decide +kernel
theorem dL_most_131 : decode cL_most 131 = .ok (.lcmp, 1) := by decide +kernel
theorem dL_most_132 : decode cL_most 132 = .ok (.ifCond .le 8, 3) := by decide +kernel
theorem dL_most_135 : decode cL_most 135 = .ok (.lload 11, 2) := by decide +kernel
theorem dL_most_137 : decode cL_most 137 = .ok (.goto 5, 3) := by decide +kernel
theorem dL_most_140 : decode cL_most 140 = .ok (.lload 15, 2) := by decide +kernel
theorem dL_most_142 : decode cL_most 142 = .ok (.iconst 4, 1) := by decide +kernel
theorem dL_most_143 : decode cL_most 143 = .ok (.iload 10, 2) := by decide +kernel
theorem dL_most_145 : decode cL_most 145 = .ok (.imul, 1) := by decide +kernel
theorem dL_most_146 : decode cL_most 146 = .ok (.lshl, 1) := by decide +kernel
theorem dL_most_147 : decode cL_most 147 = .ok (.lor, 1) := by decide +kernel
theorem dL_most_148 : decode cL_most 148 = .ok (.lstore 8, 2) := by decide +kernel
theorem dL_most_150 : decode cL_most 150 = .ok (.iinc 10 (-1), 3) := by decide +kernel
theorem dL_most_153 : decode cL_most 153 = .ok (.goto (-118), 3) := by decide +kernel
theorem dL_most_156 : decode cL_most 156 = .ok (.lload 8, 2) := by decide +kernel
theorem dL_most_158 : decode cL_most 158 = .ok (.lstore 5, 2) := by decide +kernel
theorem dL_most_160 : decode cL_most 160 = .ok (.iinc 7 (-1), 3) := by decide +kernel
theorem dL_most_163 : decode cL_most 163 = .ok (.goto (-142), 3) := by decide +kernel
theorem dL_most_166 : decode cL_most 166 = .ok (.lload 5, 2) := by decide +kernel
theorem dL_most_168 : decode cL_most 168 = .ok (.ldc2_w 211, 3) := by decide +kernel
theorem dL_most_171 : decode cL_most 171 = .ok (.land, 1) := by decide +kernel
theorem dL_most_172 : decode cL_most 172 = .ok (.l2i, 1) := by decide +kernel
theorem dL_most_173 : decode cL_most 173 = .ok (.ireturn, 1) := by decide +kernel
theorem dL_areHunks_0 : decode cL_areHunks 0 = .ok (.aload_n 0, 1) := by decide +kernel
theorem dL_areHunks_1 : decode cL_areHunks 1 = .ok (.iload_n 1, 1) := by decide +kernel
theorem dL_areHunks_2 : decode cL_areHunks 2 = .ok (.iload_n 2, 1) := by decide +kernel
theorem dL_areHunks_3 : decode cL_areHunks 3 = .ok (.invokevirtual 130, 3) := by decide +kernel
theorem dL_areHunks_6 : decode cL_areHunks 6 = .ok (.istore 5, 2) := by decide +kernel
theorem dL_areHunks_8 : decode cL_areHunks 8 = .ok (.aload_n 0, 1) := by decide +kernel
theorem dL_areHunks_9 : decode cL_areHunks 9 = .ok (.iload_n 1, 1) := by decide +kernel
theorem dL_areHunks_10 : decode cL_areHunks 10 = .ok (.iload_n 3, 1) := by decide +kernel
theorem dL_areHunks_11 : decode cL_areHunks 11 = .ok (.invokevirtual 130, 3) := by decide +kernel
theorem dL_areHunks_14 : decode cL_areHunks 14 = .ok (.istore 6, 2) := by decide +kernel
theorem dL_areHunks_16 : decode cL_areHunks 16 = .ok (.aload_n 0, 1) := by decide +kernel
theorem dL_areHunks_17 : decode cL_areHunks 17 = .ok (.iload_n 1, 1) := by decide +kernel
theorem dL_areHunks_18 : decode cL_areHunks 18 = .ok (.iload_n 2, 1) := by decide +kernel
theorem dL_areHunks_19 : decode cL_areHunks 19 = .ok (.iload_n 3, 1) := by decide +kernel
theorem dL_areHunks_20 : decode cL_areHunks 20 = .ok (.iload 4, 2) := by decide +kernel
theorem dL_areHunks_22 : decode cL_areHunks 22 = .ok (.iconst 0, 1) := by decide +kernel
theorem dL_areHunks_23 : decode cL_areHunks 23 = .ok (.invokevirtual 173, 3) := by decide +kernel
theorem dL_areHunks_26 : decode cL_areHunks 26 = .ok (.istore 7, 2) := by decide +kernel
theorem dL_areHunks_28 : decode cL_areHunks 28 = .ok (.aload_n 0, 1) := by decide +kernel
theorem dL_areHunks_29 : decode cL_areHunks 29 = .ok (.iload 5, 2) := by decide +kernel
theorem dL_areHunks_31 : decode cL_areHunks 31 = .ok (.invokevirtual 115, 3) := by decide +kernel
theorem dL_areHunks_34 : decode cL_areHunks 34 = .ok (.aload_n 0, 1) := by decide +kernel
theorem dL_areHunks_35 : decode cL_areHunks 35 = .ok (.iload 6, 2) := by decide +kernel
theorem dL_areHunks_37 : decode cL_areHunks 37 = .ok (.invokevirtual 115, 3) := by decide +kernel
theorem dL_areHunks_40 : decode cL_areHunks 40 = .ok (.if_icmp .ne 7, 3) := by decide +kernel
theorem dL_areHunks_43 : decode cL_areHunks 43 = .ok (.iconst 1, 1) := by decide +kernel
theorem dL_areHunks_44 : decode cL_areHunks 44 = .ok (.goto 4, 3) := by decide +kernel
theorem dL_areHunks_47 : decode cL_areHunks 47 = .ok (.iconst 0, 1) := by decide +kernel
theorem dL_areHunks_48 : decode cL_areHunks 48 = .ok (.istore 8, 2) := by decide +kernel
theorem dL_areHunks_50 : decode cL_areHunks 50 = .ok (.iconst 0, 1) := by decide +kernel
theorem dL_areHunks_51 : decode cL_areHunks 51 = .ok (.istore 9, 2) := by decide +kernel
theorem dL_areHunks_53 : decode cL_areHunks 53 = .ok (.iconst 0, 1) := by decide +kernel
theorem dL_areHunks_54 : decode cL_areHunks 54 = .ok (.istore 10, 2) := by decide +kernel
theorem dL_areHunks_56 : decode cL_areHunks 56 = .ok (.iconst 0, 1) := by decide +kernel
theorem dL_areHunks_57 : decode cL_areHunks 57 = .ok (.istore 11, 2) := by decide +kernel
theorem dL_areHunks_59 : decode cL_areHunks 59 = .ok (.iload 7, 2) := by decide +kernel
theorem dL_areHunks_61 : decode cL_areHunks 61 = .ok (.ifCond .lt 23, 3) := by decide +kernel
theorem dL_areHunks_64 : decode cL_areHunks 64 = .ok (.aload_n 0, 1) := by decide +kernel
theorem dL_areHunks_65 : decode cL_areHunks 65 = .ok (.iload_n 1, 1) := by decide +kernel
theorem dL_areHunks_66 : decode cL_areHunks 66 = .ok (.iload_n 2, 1) := by decide +kernel
theorem dL_areHunks_67 : decode cL_areHunks 67 = .ok (.iload_n 3, 1) := by decide +kernel
theorem dL_areHunks_68 : decode cL_areHunks 68 = .ok (.iload 4, 2) := by decide +kernel
theorem dL_areHunks_70 : decode cL_areHunks 70 = .ok (.iconst 0, 1) := by decide +kernel
theorem dL_areHunks_71 : decode cL_areHunks 71 = .ok (.iload 7, 2) := by decide +kernel
theorem dL_areHunks_73 : decode cL_areHunks 73 = .ok (.invokevirtual 177, 3) := by decide +kernel
theorem dL_areHunks_76 : decode cL_areHunks 76 = .ok (.iconst (-1), 1) := by decide +kernel
theorem dL_areHunks_77 : decode cL_areHunks 77 = .ok (.if_icmp .ne 7, 3) := by decide +kernel
theorem dL_areHunks_80 : decode cL_areHunks 80 = .ok (.iconst 1, 1) := by decide +kernel
theorem dL_areHunks_81 : decode cL_areHunks 81 = .ok (.goto 4, 3) := by decide +kernel
theorem dL_areHunks_84 : decode cL_areHunks 84 = .ok (.iconst 0, 1) := by decide +kernel
theorem dL_areHunks_85 : decode cL_areHunks 85 = .ok (.istore 12, 2) := by decide +kernel
theorem dL_areHunks_87 : decode cL_areHunks 87 = .ok (.iconst 0, 1) := by decide +kernel
theorem dL_areHunks_88 : decode cL_areHunks 88 = .ok (.istore 13, 2) := by decide +kernel
theorem dL_areHunks_90 : decode cL_areHunks 90 = .ok (.iload 13, 2) := by decide +kernel
theorem dL_areHunks_92 : decode cL_areHunks 92 = .ok (.iload 7, 2) := by decide +kernel
theorem dL_areHunks_94 : decode cL_areHunks 94 = .ok (.if_icmp .gt 250, 3) := by decide +kernel
theorem dL_areHunks_97 : decode cL_areHunks 97 = .ok (.iload 12, 2) := by decide +kernel
theorem dL_areHunks_99 : decode cL_areHunks 99 = .ok (.ifCond .eq 245, 3) := by decide +kernel
theorem dL_areHunks_102 : decode cL_areHunks 102 = .ok (.iload 8, 2) := by decide +kernel
theorem dL_areHunks_104 : decode cL_areHunks 104 = .ok (.ifCond .eq 240, 3) := by decide +kernel
theorem dL_areHunks_107 : decode cL_areHunks 107 = .ok (.iload 13, 2) := by decide +kernel
theorem dL_areHunks_109 : decode cL_areHunks 109 = .ok (.iload 7, 2) := by decide +kernel
theorem dL_areHunks_111 : decode cL_areHunks 111 = .ok (.if_icmp .ne 29, 3) := by decide +kernel
theorem dL_areHunks_114 : decode cL_areHunks 114 = .ok (.ldc 213, 2) := by decide +kernel
theorem dL_areHunks_116 : decode cL_areHunks 116 = .ok (.aload_n 0, 1) := by decide +kernel
theorem dL_areHunks_117 : decode cL_areHunks 117 = .ok (.iload 5, 2) := by decide +kernel
theorem dL_areHunks_119 : decode cL_areHunks 119 = .ok (.iload 4, 2) := by decide +kernel
theorem dL_areHunks_121 : decode cL_areHunks 121 = .ok (.invokestatic 203, 3) := by decide +kernel
theorem dL_areHunks_124 : decode cL_areHunks 124 = .ok (.imul, 1) := by decide +kernel
theorem dL_areHunks_125 : decode cL_areHunks 125 = .ok (.bipush 100, 2) := by decide +kernel
theorem dL_areHunks_127 : decode cL_areHunks 127 = .ok (.aload_n 0, 1) := by decide +kernel
theorem dL_areHunks_128 : decode cL_areHunks 128 = .ok (.iload 6, 2) := by decide +kernel
theorem dL_areHunks_130 : decode cL_areHunks 130 = .ok (.iload 4, 2) := by decide +kernel
theorem dL_areHunks_132 : decode cL_areHunks 132 = .ok (.invokestatic 203, 3) := by decide +kernel
theorem dL_areHunks_135 : decode cL_areHunks 135 = .ok (.imul, 1) := by decide +kernel
theorem dL_areHunks_136 : decode cL_areHunks 136 = .ok (.iadd, 1) := by decide +kernel
theorem dL_areHunks_137 : decode cL_areHunks 137 = .ok (.goto 15, 3) := by decide +kernel
theorem dL_areHunks_140 : decode cL_areHunks 140 = .ok (.aload_n 0, 1) := by decide +kernel
theorem dL_areHunks_141 : decode cL_areHunks 141 = .ok (.iload_n 1, 1) := by decide +kernel
theorem dL_areHunks_142 : decode cL_areHunks 142 = .ok (.iload_n 2, 1) := by decide +kernel
theorem dL_areHunks_143 : decode cL_areHunks 143 = .ok (.iload_n 3, 1) := by decide +kernel
theorem dL_areHunks_144 : decode cL_areHunks 144 = .ok (.iload 4, 2) := by decide +kernel
theorem dL_areHunks_146 : decode cL_areHunks 146 = .ok (.iconst 0, 1) := by decide +kernel
theorem dL_areHunks_147 : decode cL_areHunks 147 = .ok (.iload 13, 2) := by decide +kernel
theorem dL_areHunks_149 : decode cL_areHunks 149 = .ok (.invokevirtual 177, 3) := by decide +kernel
theorem dL_areHunks_152 : decode cL_areHunks 152 = .ok (.istore 14, 2) := by decide +kernel
theorem dL_areHunks_154 : decode cL_areHunks 154 = .ok (.iload 14, 2) := by decide +kernel
theorem dL_areHunks_156 : decode cL_areHunks 156 = .ok (.ifCond .lt 39, 3) := by decide +kernel
theorem dL_areHunks_159 : decode cL_areHunks 159 = .ok (.iload 14, 2) := by decide +kernel
theorem dL_areHunks_161 : decode cL_areHunks 161 = .ok (.ldc 213, 2) := by decide +kernel
theorem dL_areHunks_163 : decode cL_areHunks 163 = .ok (.idiv, 1) := by decide +kernel
theorem dL_areHunks_164 : decode cL_areHunks 164 = .ok (.iload 9, 2) := by decide +kernel
theorem dL_areHunks_166 : decode cL_areHunks 166 = .ok (.isub, 1) := by decide +kernel
theorem dL_areHunks_167 : decode cL_areHunks 167 = .ok (.iload 14, 2) := by decide +kernel
theorem dL_areHunks_169 : decode cL_areHunks 169 = .ok (.bipush 100, 2) := by decide +kernel
theorem dL_areHunks_171 : decode cL_areHunks 171 = .ok (.idiv, 1) := by decide +kernel
theorem dL_areHunks_172 : decode cL_areHunks 172 = .ok (.bipush 100, 2) := by decide +kernel
theorem dL_areHunks_174 : decode cL_areHunks 174 = .ok (.irem, 1) := by decide +kernel
theorem dL_areHunks_175 : decode cL_areHunks 175 = .ok (.iload 10, 2) := by decide +kernel
theorem dL_areHunks_177 : decode cL_areHunks 177 = .ok (.isub, 1) := by decide +kernel
theorem dL_areHunks_178 : decode cL_areHunks 178 = .ok (.if_icmp .ne 17, 3) := by decide +kernel
theorem dL_areHunks_181 : decode cL_areHunks 181 = .ok (.iload 14, 2) := by decide +kernel
theorem dL_areHunks_183 : decode cL_areHunks 183 = .ok (.ldc 213, 2) := by decide +kernel
theorem dL_areHunks_185 : decode cL_areHunks 185 = .ok (.idiv, 1) := by decide +kernel
theorem dL_areHunks_186 : decode cL_areHunks 186 = .ok (.iload 9, 2) := by decide +kernel
theorem dL_areHunks_188 : decode cL_areHunks 188 = .ok (.if_icmp .lt 7, 3) := by decide +kernel
theorem dL_areHunks_191 : decode cL_areHunks 191 = .ok (.iconst 1, 1) := by decide +kernel
theorem dL_areHunks_192 : decode cL_areHunks 192 = .ok (.goto 4, 3) := by decide +kernel
theorem dL_areHunks_195 : decode cL_areHunks 195 = .ok (.iconst 0, 1) := by decide +kernel
theorem dL_areHunks_196 : decode cL_areHunks 196 = .ok (.istore 12, 2) := by decide +kernel
theorem dL_areHunks_198 : decode cL_areHunks 198 = .ok (.iload 12, 2) := by decide +kernel
theorem dL_areHunks_200 : decode cL_areHunks 200 = .ok (.ifCond .eq 55, 3) := by decide +kernel
theorem dL_areHunks_203 : decode cL_areHunks 203 = .ok (.iload 9, 2) := by decide +kernel
theorem dL_areHunks_205 : decode cL_areHunks 205 = .ok (.iload 14, 2) := by decide +kernel
theorem dL_areHunks_207 : decode cL_areHunks 207 = .ok (.ldc 213, 2) := by decide +kernel
theorem dL_areHunks_209 : decode cL_areHunks 209 = .ok (.idiv, 1) := by decide +kernel
theorem dL_areHunks_210 : decode cL_areHunks 210 = .ok (.if_icmp .ge 45, 3) := by decide +kernel
theorem dL_areHunks_213 : decode cL_areHunks 213 = .ok (.aload_n 0, 1) := by decide +kernel
theorem dL_areHunks_214 : decode cL_areHunks 214 = .ok (.iload 5, 2) := by decide +kernel
theorem dL_areHunks_216 : decode cL_areHunks 216 = .ok (.iload 4, 2) := by decide +kernel
theorem dL_areHunks_218 : decode cL_areHunks 218 = .ok (.iload 9, 2) := by decide +kernel
theorem dL_areHunks_220 : decode cL_areHunks 220 = .ok (.invokevirtual 112, 3) := by decide +kernel
theorem dL_areHunks_223 : decode cL_areHunks 223 = .ok (.aload_n 0, 1) := by decide +kernel
theorem dL_areHunks_224 : decode cL_areHunks 224 = .ok (.iload 6, 2) := by decide +kernel
theorem dL_areHunks_226 : decode cL_areHunks 226 = .ok (.iload 4, 2) := by decide +kernel
theorem dL_areHunks_228 : decode cL_areHunks 228 = .ok (.iload 10, 2) := by decide +kernel
theorem dL_areHunks_230 : decode cL_areHunks 230 = .ok (.invokevirtual 112, 3) := by decide +kernel
theorem dL_areHunks_233 : decode cL_areHunks 233 = .ok (.if_icmp .ne 7, 3) := by decide +kernel
theorem dL_areHunks_236 : decode cL_areHunks 236 = .ok (.iconst 1, 1) := by decide +kernel
theorem dL_areHunks_237 : decode cL_areHunks 237 = .ok (.goto 4, 3) := by decide +kernel
theorem dL_areHunks_240 : decode cL_areHunks 240 = .ok (.iconst 0, 1) := by decide +kernel
theorem dL_areHunks_241 : decode cL_areHunks 241 = .ok (.istore 12, 2) := by decide +kernel
theorem dL_areHunks_243 : decode cL_areHunks 243 = .ok (.iinc 9 1, 3) := by decide +kernel
theorem dL_areHunks_246 : decode cL_areHunks 246 = .ok (.iinc 10 1, 3) := by decide +kernel
theorem dL_areHunks_249 : decode cL_areHunks 249 = .ok (.iinc 11 1, 3) := by decide +kernel
theorem dL_areHunks_252 : decode cL_areHunks 252 = .ok (.goto (-54), 3) := by decide +kernel
theorem dL_areHunks_255 : decode cL_areHunks 255 = .ok (.iload 12, 2) := by decide +kernel
theorem dL_areHunks_257 : decode cL_areHunks 257 = .ok (.ifCond .eq 32, 3) := by decide +kernel
theorem dL_areHunks_260 : decode cL_areHunks 260 = .ok (.iload 13, 2) := by decide +kernel
theorem dL_areHunks_262 : decode cL_areHunks 262 = .ok (.iload 7, 2) := by decide +kernel
theorem dL_areHunks_264 : decode cL_areHunks 264 = .ok (.if_icmp .eq 21, 3) := by decide +kernel
theorem dL_areHunks_267 : decode cL_areHunks 267 = .ok (.iload 14, 2) := by decide +kernel
theorem dL_areHunks_269 : decode cL_areHunks 269 = .ok (.sipush 10000, 3) := by decide +kernel
theorem dL_areHunks_272 : decode cL_areHunks 272 = .ok (.idiv, 1) := by decide +kernel
theorem dL_areHunks_273 : decode cL_areHunks 273 = .ok (.bipush 100, 2) := by decide +kernel
theorem dL_areHunks_275 : decode cL_areHunks 275 = .ok (.irem, 1) := by decide +kernel
theorem dL_areHunks_276 : decode cL_areHunks 276 = .ok (.iload 14, 2) := by decide +kernel
theorem dL_areHunks_278 : decode cL_areHunks 278 = .ok (.bipush 100, 2) := by decide +kernel
theorem dL_areHunks_280 : decode cL_areHunks 280 = .ok (.irem, 1) := by decide +kernel
theorem dL_areHunks_281 : decode cL_areHunks 281 = .ok (.iadd, 1) := by decide +kernel
theorem dL_areHunks_282 : decode cL_areHunks 282 = .ok (.ifCond .le 7, 3) := by decide +kernel
theorem dL_areHunks_285 : decode cL_areHunks 285 = .ok (.iconst 1, 1) := by decide +kernel
theorem dL_areHunks_286 : decode cL_areHunks 286 = .ok (.goto 4, 3) := by decide +kernel
theorem dL_areHunks_289 : decode cL_areHunks 289 = .ok (.iconst 0, 1) := by decide +kernel
theorem dL_areHunks_290 : decode cL_areHunks 290 = .ok (.istore 12, 2) := by decide +kernel
theorem dL_areHunks_292 : decode cL_areHunks 292 = .ok (.iload 9, 2) := by decide +kernel
theorem dL_areHunks_294 : decode cL_areHunks 294 = .ok (.iload 13, 2) := by decide +kernel
theorem dL_areHunks_296 : decode cL_areHunks 296 = .ok (.iload 7, 2) := by decide +kernel
theorem dL_areHunks_298 : decode cL_areHunks 298 = .ok (.if_icmp .ne 7, 3) := by decide +kernel
theorem dL_areHunks_301 : decode cL_areHunks 301 = .ok (.iconst 0, 1) := by decide +kernel
theorem dL_areHunks_302 : decode cL_areHunks 302 = .ok (.goto 12, 3) := by decide +kernel
theorem dL_areHunks_305 : decode cL_areHunks 305 = .ok (.iload 14, 2) := by decide +kernel
theorem dL_areHunks_307 : decode cL_areHunks 307 = .ok (.sipush 10000, 3) := by decide +kernel
theorem dL_areHunks_310 : decode cL_areHunks 310 = .ok (.idiv, 1) := by decide +kernel
theorem dL_areHunks_311 : decode cL_areHunks 311 = .ok (.bipush 100, 2) := by decide +kernel
theorem dL_areHunks_313 : decode cL_areHunks 313 = .ok (.irem, 1) := by decide +kernel
theorem dL_areHunks_314 : decode cL_areHunks 314 = .ok (.iadd, 1) := by decide +kernel
theorem dL_areHunks_315 : decode cL_areHunks 315 = .ok (.istore 9, 2) := by decide +kernel
theorem dL_areHunks_317 : decode cL_areHunks 317 = .ok (.iload 10, 2) := by decide +kernel
theorem dL_areHunks_319 : decode cL_areHunks 319 = .ok (.iload 13, 2) := by decide +kernel
theorem dL_areHunks_321 : decode cL_areHunks 321 = .ok (.iload 7, 2) := by decide +kernel
theorem dL_areHunks_323 : decode cL_areHunks 323 = .ok (.if_icmp .ne 7, 3) := by decide +kernel
theorem dL_areHunks_326 : decode cL_areHunks 326 = .ok (.iconst 0, 1) := by decide +kernel
theorem dL_areHunks_327 : decode cL_areHunks 327 = .ok (.goto 8, 3) := by decide +kernel
theorem dL_areHunks_330 : decode cL_areHunks 330 = .ok (.iload 14, 2) := by decide +kernel
theorem dL_areHunks_332 : decode cL_areHunks 332 = .ok (.bipush 100, 2) := by decide +kernel
theorem dL_areHunks_334 : decode cL_areHunks 334 = .ok (.irem, 1) := by decide +kernel
theorem dL_areHunks_335 : decode cL_areHunks 335 = .ok (.iadd, 1) := by decide +kernel
theorem dL_areHunks_336 : decode cL_areHunks 336 = .ok (.istore 10, 2) := by decide +kernel
theorem dL_areHunks_338 : decode cL_areHunks 338 = .ok (.iinc 13 1, 3) := by decide +kernel
theorem dL_areHunks_341 : decode cL_areHunks 341 = .ok (.goto (-251), 3) := by decide +kernel
theorem dL_areHunks_344 : decode cL_areHunks 344 = .ok (.iload 12, 2) := by decide +kernel
theorem dL_areHunks_346 : decode cL_areHunks 346 = .ok (.ifCond .eq 52, 3) := by decide +kernel
theorem dL_areHunks_349 : decode cL_areHunks 349 = .ok (.iload 8, 2) := by decide +kernel
theorem dL_areHunks_351 : decode cL_areHunks 351 = .ok (.ifCond .eq 28, 3) := by decide +kernel
theorem dL_areHunks_354 : decode cL_areHunks 354 = .ok (.iload 11, 2) := by decide +kernel
theorem dL_areHunks_356 : decode cL_areHunks 356 = .ok (.aload_n 0, 1) := by decide +kernel
theorem dL_areHunks_357 : decode cL_areHunks 357 = .ok (.iload 5, 2) := by decide +kernel
theorem dL_areHunks_359 : decode cL_areHunks 359 = .ok (.iload 6, 2) := by decide +kernel
theorem dL_areHunks_361 : decode cL_areHunks 361 = .ok (.iload 4, 2) := by decide +kernel
theorem dL_areHunks_363 : decode cL_areHunks 363 = .ok (.invokestatic 214, 3) := by decide +kernel
theorem dL_areHunks_366 : decode cL_areHunks 366 = .ok (.if_icmp .ne 32, 3) := by decide +kernel
theorem dL_areHunks_369 : decode cL_areHunks 369 = .ok (.iload_n 2, 1) := by decide +kernel
theorem dL_areHunks_370 : decode cL_areHunks 370 = .ok (.iload_n 3, 1) := by decide +kernel
theorem dL_areHunks_371 : decode cL_areHunks 371 = .ok (.if_icmp .ne 8, 3) := by decide +kernel
theorem dL_areHunks_374 : decode cL_areHunks 374 = .ok (.iload 7, 2) := by decide +kernel
theorem dL_areHunks_376 : decode cL_areHunks 376 = .ok (.ifCond .ne 22, 3) := by decide +kernel
theorem dL_areHunks_379 : decode cL_areHunks 379 = .ok (.aload_n 0, 1) := by decide +kernel
theorem dL_areHunks_380 : decode cL_areHunks 380 = .ok (.iload_n 1, 1) := by decide +kernel
theorem dL_areHunks_381 : decode cL_areHunks 381 = .ok (.iload_n 2, 1) := by decide +kernel
theorem dL_areHunks_382 : decode cL_areHunks 382 = .ok (.iload_n 3, 1) := by decide +kernel
theorem dL_areHunks_383 : decode cL_areHunks 383 = .ok (.iload 4, 2) := by decide +kernel
theorem dL_areHunks_385 : decode cL_areHunks 385 = .ok (.iconst 1, 1) := by decide +kernel
theorem dL_areHunks_386 : decode cL_areHunks 386 = .ok (.invokevirtual 173, 3) := by decide +kernel
theorem dL_areHunks_389 : decode cL_areHunks 389 = .ok (.bipush 11, 2) := by decide +kernel
theorem dL_areHunks_391 : decode cL_areHunks 391 = .ok (.if_icmp .gt 7, 3) := by decide +kernel
theorem dL_areHunks_394 : decode cL_areHunks 394 = .ok (.iconst 1, 1) := by decide +kernel
theorem dL_areHunks_395 : decode cL_areHunks 395 = .ok (.goto 4, 3) := by decide +kernel
theorem dL_areHunks_398 : decode cL_areHunks 398 = .ok (.iconst 0, 1) := by decide +kernel
theorem dL_areHunks_399 : decode cL_areHunks 399 = .ok (.ireturn, 1) := by decide +kernel
theorem dL_isShown_0 : decode cL_isShown 0 = .ok (.aload_n 1, 1) := by decide +kernel
theorem dL_isShown_1 : decode cL_isShown 1 = .ok (.iload_n 2, 1) := by decide +kernel
theorem dL_isShown_2 : decode cL_isShown 2 = .ok (.iaload, 1) := by decide +kernel
theorem dL_isShown_3 : decode cL_isShown 3 = .ok (.bipush 31, 2) := by decide +kernel
theorem dL_isShown_5 : decode cL_isShown 5 = .ok (.iand, 1) := by decide +kernel
theorem dL_isShown_6 : decode cL_isShown 6 = .ok (.istore 4, 2) := by decide +kernel
theorem dL_isShown_8 : decode cL_isShown 8 = .ok (.aload_n 1, 1) := by decide +kernel
theorem dL_isShown_9 : decode cL_isShown 9 = .ok (.iload_n 2, 1) := by decide +kernel
theorem dL_isShown_10 : decode cL_isShown 10 = .ok (.iaload, 1) := by decide +kernel
theorem dL_isShown_11 : decode cL_isShown 11 = .ok (.iconst 5, 1) := by decide +kernel
theorem dL_isShown_12 : decode cL_isShown 12 = .ok (.ishr, 1) := by decide +kernel
theorem dL_isShown_13 : decode cL_isShown 13 = .ok (.bipush 127, 2) := by decide +kernel
theorem dL_isShown_15 : decode cL_isShown 15 = .ok (.iand, 1) := by decide +kernel
theorem dL_isShown_16 : decode cL_isShown 16 = .ok (.istore 5, 2) := by decide +kernel
theorem dL_isShown_18 : decode cL_isShown 18 = .ok (.aload_n 1, 1) := by decide +kernel
theorem dL_isShown_19 : decode cL_isShown 19 = .ok (.iload_n 2, 1) := by decide +kernel
theorem dL_isShown_20 : decode cL_isShown 20 = .ok (.iaload, 1) := by decide +kernel
theorem dL_isShown_21 : decode cL_isShown 21 = .ok (.bipush 12, 2) := by decide +kernel
theorem dL_isShown_23 : decode cL_isShown 23 = .ok (.ishr, 1) := by decide +kernel
theorem dL_isShown_24 : decode cL_isShown 24 = .ok (.iconst 3, 1) := by decide +kernel
theorem dL_isShown_25 : decode cL_isShown 25 = .ok (.iand, 1) := by decide +kernel
theorem dL_isShown_26 : decode cL_isShown 26 = .ok (.istore 6, 2) := by decide +kernel
theorem dL_isShown_28 : decode cL_isShown 28 = .ok (.aload_n 1, 1) := by decide +kernel
theorem dL_isShown_29 : decode cL_isShown 29 = .ok (.iload_n 2, 1) := by decide +kernel
theorem dL_isShown_30 : decode cL_isShown 30 = .ok (.iaload, 1) := by decide +kernel
theorem dL_isShown_31 : decode cL_isShown 31 = .ok (.bipush 14, 2) := by decide +kernel
theorem dL_isShown_33 : decode cL_isShown 33 = .ok (.ishr, 1) := by decide +kernel
theorem dL_isShown_34 : decode cL_isShown 34 = .ok (.bipush 15, 2) := by decide +kernel
theorem dL_isShown_36 : decode cL_isShown 36 = .ok (.iand, 1) := by decide +kernel
theorem dL_isShown_37 : decode cL_isShown 37 = .ok (.istore 7, 2) := by decide +kernel
theorem dL_isShown_39 : decode cL_isShown 39 = .ok (.aload_n 1, 1) := by decide +kernel
theorem dL_isShown_40 : decode cL_isShown 40 = .ok (.iload_n 2, 1) := by decide +kernel
theorem dL_isShown_41 : decode cL_isShown 41 = .ok (.iaload, 1) := by decide +kernel
theorem dL_isShown_42 : decode cL_isShown 42 = .ok (.bipush 18, 2) := by decide +kernel
theorem dL_isShown_44 : decode cL_isShown 44 = .ok (.ishr, 1) := by decide +kernel
theorem dL_isShown_45 : decode cL_isShown 45 = .ok (.istore 8, 2) := by decide +kernel
theorem dL_isShown_47 : decode cL_isShown 47 = .ok (.aload_n 0, 1) := by decide +kernel
theorem dL_isShown_48 : decode cL_isShown 48 = .ok (.iload_n 2, 1) := by decide +kernel
theorem dL_isShown_49 : decode cL_isShown 49 = .ok (.iload 5, 2) := by decide +kernel
theorem dL_isShown_51 : decode cL_isShown 51 = .ok (.invokevirtual 170, 3) := by decide +kernel
theorem dL_isShown_54 : decode cL_isShown 54 = .ok (.iconst 1, 1) := by decide +kernel
theorem dL_isShown_55 : decode cL_isShown 55 = .ok (.iload 8, 2) := by decide +kernel
theorem dL_isShown_57 : decode cL_isShown 57 = .ok (.ishl, 1) := by decide +kernel
theorem dL_isShown_58 : decode cL_isShown 58 = .ok (.iconst 1, 1) := by decide +kernel
theorem dL_isShown_59 : decode cL_isShown 59 = .ok (.isub, 1) := by decide +kernel
theorem dL_isShown_60 : decode cL_isShown 60 = .ok (.iload 7, 2) := by decide +kernel
theorem dL_isShown_62 : decode cL_isShown 62 = .ok (.ishl, 1) := by decide +kernel
theorem dL_isShown_63 : decode cL_isShown 63 = .ok (.if_icmp .ne 28, 3) := by decide +kernel
theorem dL_isShown_66 : decode cL_isShown 66 = .ok (.aload_n 0, 1) := by decide +kernel
theorem dL_isShown_67 : decode cL_isShown 67 = .ok (.bipush 19, 2) := by decide +kernel
theorem dL_isShown_69 : decode cL_isShown 69 = .ok (.iload_n 2, 1) := by decide +kernel
theorem dL_isShown_70 : decode cL_isShown 70 = .ok (.aload_n 0, 1) := by decide +kernel
theorem dL_isShown_71 : decode cL_isShown 71 = .ok (.iload 4, 2) := by decide +kernel
theorem dL_isShown_73 : decode cL_isShown 73 = .ok (.invokevirtual 127, 3) := by decide +kernel
theorem dL_isShown_76 : decode cL_isShown 76 = .ok (.iconst 0, 1) := by decide +kernel
theorem dL_isShown_77 : decode cL_isShown 77 = .ok (.iconst 0, 1) := by decide +kernel
theorem dL_isShown_78 : decode cL_isShown 78 = .ok (.invokestatic 218, 3) := by decide +kernel
theorem dL_isShown_81 : decode cL_isShown 81 = .ok (.sipush (-1261), 3) := by decide +kernel
theorem dL_isShown_84 : decode cL_isShown 84 = .ok (.if_icmp .ne 7, 3) := by decide +kernel
theorem dL_isShown_87 : decode cL_isShown 87 = .ok (.iconst 1, 1) := by decide +kernel
theorem dL_isShown_88 : decode cL_isShown 88 = .ok (.goto 4, 3) := by decide +kernel
theorem dL_isShown_91 : decode cL_isShown 91 = .ok (.iconst 0, 1) := by decide +kernel
theorem dL_isShown_92 : decode cL_isShown 92 = .ok (.istore 9, 2) := by decide +kernel
theorem dL_isShown_94 : decode cL_isShown 94 = .ok (.iconst 0, 1) := by decide +kernel
theorem dL_isShown_95 : decode cL_isShown 95 = .ok (.istore 10, 2) := by decide +kernel
theorem dL_isShown_97 : decode cL_isShown 97 = .ok (.iload 10, 2) := by decide +kernel
theorem dL_isShown_99 : decode cL_isShown 99 = .ok (.iconst 2, 1) := by decide +kernel
theorem dL_isShown_100 : decode cL_isShown 100 = .ok (.if_icmp .ge 184, 3) := by decide +kernel
theorem dL_isShown_103 : decode cL_isShown 103 = .ok (.iload 9, 2) := by decide +kernel
theorem dL_isShown_105 : decode cL_isShown 105 = .ok (.ifCond .eq 179, 3) := by decide +kernel
theorem dL_isShown_108 : decode cL_isShown 108 = .ok (.iload 10, 2) := by decide +kernel
theorem dL_isShown_110 : decode cL_isShown 110 = .ok (.ifCond .ne 14, 3) := by decide +kernel
theorem dL_isShown_113 : decode cL_isShown 113 = .ok (.iload_n 3, 1) := by decide +kernel
theorem dL_isShown_114 : decode cL_isShown 114 = .ok (.aload_n 0, 1) := by decide +kernel
theorem dL_isShown_115 : decode cL_isShown 115 = .ok (.iload 4, 2) := by decide +kernel
theorem dL_isShown_117 : decode cL_isShown 117 = .ok (.invokevirtual 127, 3) := by decide +kernel
theorem dL_isShown_120 : decode cL_isShown 120 = .ok (.irem, 1) := by decide +kernel
theorem dL_isShown_121 : decode cL_isShown 121 = .ok (.goto 11, 3) := by decide +kernel
theorem dL_isShown_124 : decode cL_isShown 124 = .ok (.aload_n 0, 1) := by decide +kernel
theorem dL_isShown_125 : decode cL_isShown 125 = .ok (.iload 4, 2) := by decide +kernel
theorem dL_isShown_127 : decode cL_isShown 127 = .ok (.invokevirtual 127, 3) := by decide +kernel
theorem dL_isShown_130 : decode cL_isShown 130 = .ok (.iconst 1, 1) := by decide +kernel
theorem dL_isShown_131 : decode cL_isShown 131 = .ok (.isub, 1) := by decide +kernel
theorem dL_isShown_132 : decode cL_isShown 132 = .ok (.istore 11, 2) := by decide +kernel
theorem dL_isShown_134 : decode cL_isShown 134 = .ok (.aload_n 0, 1) := by decide +kernel
theorem dL_isShown_135 : decode cL_isShown 135 = .ok (.iload_n 2, 1) := by decide +kernel
theorem dL_isShown_136 : decode cL_isShown 136 = .ok (.iload 11, 2) := by decide +kernel
theorem dL_isShown_138 : decode cL_isShown 138 = .ok (.invokevirtual 170, 3) := by decide +kernel
theorem dL_isShown_141 : decode cL_isShown 141 = .ok (.istore 12, 2) := by decide +kernel
theorem dL_isShown_143 : decode cL_isShown 143 = .ok (.aload_n 0, 1) := by decide +kernel
theorem dL_isShown_144 : decode cL_isShown 144 = .ok (.iload 4, 2) := by decide +kernel
theorem dL_isShown_146 : decode cL_isShown 146 = .ok (.iload 11, 2) := by decide +kernel
theorem dL_isShown_148 : decode cL_isShown 148 = .ok (.invokevirtual 130, 3) := by decide +kernel
theorem dL_isShown_151 : decode cL_isShown 151 = .ok (.istore 13, 2) := by decide +kernel
theorem dL_isShown_153 : decode cL_isShown 153 = .ok (.iload 7, 2) := by decide +kernel
theorem dL_isShown_155 : decode cL_isShown 155 = .ok (.istore 14, 2) := by decide +kernel
theorem dL_isShown_157 : decode cL_isShown 157 = .ok (.iconst 0, 1) := by decide +kernel
theorem dL_isShown_158 : decode cL_isShown 158 = .ok (.istore 15, 2) := by decide +kernel
theorem dL_isShown_160 : decode cL_isShown 160 = .ok (.iload 15, 2) := by decide +kernel
theorem dL_isShown_162 : decode cL_isShown 162 = .ok (.bipush 10, 2) := by decide +kernel
theorem dL_isShown_164 : decode cL_isShown 164 = .ok (.if_icmp .ge 90, 3) := by decide +kernel
theorem dL_isShown_167 : decode cL_isShown 167 = .ok (.iload 9, 2) := by decide +kernel
theorem dL_isShown_169 : decode cL_isShown 169 = .ok (.ifCond .eq 85, 3) := by decide +kernel
theorem dL_isShown_172 : decode cL_isShown 172 = .ok (.iload 12, 2) := by decide +kernel
theorem dL_isShown_174 : decode cL_isShown 174 = .ok (.iload 15, 2) := by decide +kernel
theorem dL_isShown_176 : decode cL_isShown 176 = .ok (.ishr, 1) := by decide +kernel
theorem dL_isShown_177 : decode cL_isShown 177 = .ok (.iconst 1, 1) := by decide +kernel
theorem dL_isShown_178 : decode cL_isShown 178 = .ok (.iand, 1) := by decide +kernel
theorem dL_isShown_179 : decode cL_isShown 179 = .ok (.iconst 1, 1) := by decide +kernel
theorem dL_isShown_180 : decode cL_isShown 180 = .ok (.if_icmp .ne 68, 3) := by decide +kernel
theorem dL_isShown_183 : decode cL_isShown 183 = .ok (.iload 14, 2) := by decide +kernel
theorem dL_isShown_185 : decode cL_isShown 185 = .ok (.iload 7, 2) := by decide +kernel
theorem dL_isShown_187 : decode cL_isShown 187 = .ok (.iload 8, 2) := by decide +kernel
theorem dL_isShown_189 : decode cL_isShown 189 = .ok (.iadd, 1) := by decide +kernel
theorem dL_isShown_190 : decode cL_isShown 190 = .ok (.if_icmp .ge 38, 3) := by decide +kernel
theorem dL_isShown_193 : decode cL_isShown 193 = .ok (.aload_n 0, 1) := by decide +kernel
theorem dL_isShown_194 : decode cL_isShown 194 = .ok (.aload_n 0, 1) := by decide +kernel
theorem dL_isShown_195 : decode cL_isShown 195 = .ok (.iload 4, 2) := by decide +kernel
theorem dL_isShown_197 : decode cL_isShown 197 = .ok (.iload 5, 2) := by decide +kernel
theorem dL_isShown_199 : decode cL_isShown 199 = .ok (.invokevirtual 130, 3) := by decide +kernel
theorem dL_isShown_202 : decode cL_isShown 202 = .ok (.iload 6, 2) := by decide +kernel
theorem dL_isShown_204 : decode cL_isShown 204 = .ok (.iload 14, 2) := by decide +kernel
theorem dL_isShown_206 : decode cL_isShown 206 = .ok (.invokevirtual 112, 3) := by decide +kernel
theorem dL_isShown_209 : decode cL_isShown 209 = .ok (.aload_n 0, 1) := by decide +kernel
theorem dL_isShown_210 : decode cL_isShown 210 = .ok (.iload 13, 2) := by decide +kernel
theorem dL_isShown_212 : decode cL_isShown 212 = .ok (.iload 6, 2) := by decide +kernel
theorem dL_isShown_214 : decode cL_isShown 214 = .ok (.iload 15, 2) := by decide +kernel
theorem dL_isShown_216 : decode cL_isShown 216 = .ok (.invokevirtual 112, 3) := by decide +kernel
theorem dL_isShown_219 : decode cL_isShown 219 = .ok (.if_icmp .eq 9, 3) := by decide +kernel
theorem dL_isShown_222 : decode cL_isShown 222 = .ok (.iinc 14 1, 3) := by decide +kernel
theorem dL_isShown_225 : decode cL_isShown 225 = .ok (.goto (-42), 3) := by decide +kernel
theorem dL_isShown_228 : decode cL_isShown 228 = .ok (.iload 14, 2) := by decide +kernel
theorem dL_isShown_230 : decode cL_isShown 230 = .ok (.iload 7, 2) := by decide +kernel
theorem dL_isShown_232 : decode cL_isShown 232 = .ok (.iload 8, 2) := by decide +kernel
theorem dL_isShown_234 : decode cL_isShown 234 = .ok (.iadd, 1) := by decide +kernel
theorem dL_isShown_235 : decode cL_isShown 235 = .ok (.if_icmp .ge 7, 3) := by decide +kernel
theorem dL_isShown_238 : decode cL_isShown 238 = .ok (.iconst 1, 1) := by decide +kernel
theorem dL_isShown_239 : decode cL_isShown 239 = .ok (.goto 4, 3) := by decide +kernel
theorem dL_isShown_242 : decode cL_isShown 242 = .ok (.iconst 0, 1) := by decide +kernel
theorem dL_isShown_243 : decode cL_isShown 243 = .ok (.istore 9, 2) := by decide +kernel
theorem dL_isShown_245 : decode cL_isShown 245 = .ok (.iinc 14 1, 3) := by decide +kernel
theorem dL_isShown_248 : decode cL_isShown 248 = .ok (.iinc 15 1, 3) := by decide +kernel
theorem dL_isShown_251 : decode cL_isShown 251 = .ok (.goto (-91), 3) := by decide +kernel
theorem dL_isShown_254 : decode cL_isShown 254 = .ok (.iload 9, 2) := by decide +kernel
theorem dL_isShown_256 : decode cL_isShown 256 = .ok (.ifCond .eq 19, 3) := by decide +kernel
theorem dL_isShown_259 : decode cL_isShown 259 = .ok (.iload 11, 2) := by decide +kernel
theorem dL_isShown_261 : decode cL_isShown 261 = .ok (.iload 5, 2) := by decide +kernel
theorem dL_isShown_263 : decode cL_isShown 263 = .ok (.if_icmp .ge 8, 3) := by decide +kernel
theorem dL_isShown_266 : decode cL_isShown 266 = .ok (.iload 12, 2) := by decide +kernel
theorem dL_isShown_268 : decode cL_isShown 268 = .ok (.ifCond .ne 7, 3) := by decide +kernel
theorem dL_isShown_271 : decode cL_isShown 271 = .ok (.iconst 1, 1) := by decide +kernel
theorem dL_isShown_272 : decode cL_isShown 272 = .ok (.goto 4, 3) := by decide +kernel
theorem dL_isShown_275 : decode cL_isShown 275 = .ok (.iconst 0, 1) := by decide +kernel
theorem dL_isShown_276 : decode cL_isShown 276 = .ok (.istore 9, 2) := by decide +kernel
theorem dL_isShown_278 : decode cL_isShown 278 = .ok (.iinc 10 1, 3) := by decide +kernel
theorem dL_isShown_281 : decode cL_isShown 281 = .ok (.goto (-184), 3) := by decide +kernel
theorem dL_isShown_284 : decode cL_isShown 284 = .ok (.iload 9, 2) := by decide +kernel
theorem dL_isShown_286 : decode cL_isShown 286 = .ok (.ireturn, 1) := by decide +kernel
theorem dL_isChanged_0 : decode cL_isChanged 0 = .ok (.aload_n 0, 1) := by decide +kernel
theorem dL_isChanged_1 : decode cL_isChanged 1 = .ok (.iload_n 1, 1) := by decide +kernel
theorem dL_isChanged_2 : decode cL_isChanged 2 = .ok (.invokestatic 222, 3) := by decide +kernel
theorem dL_isChanged_5 : decode cL_isChanged 5 = .ok (.istore_n 3, 1) := by decide +kernel
theorem dL_isChanged_6 : decode cL_isChanged 6 = .ok (.aload_n 0, 1) := by decide +kernel
theorem dL_isChanged_7 : decode cL_isChanged 7 = .ok (.iload_n 3, 1) := by decide +kernel
theorem dL_isChanged_8 : decode cL_isChanged 8 = .ok (.invokevirtual 115, 3) := by decide +kernel
theorem dL_isChanged_11 : decode cL_isChanged 11 = .ok (.istore 4, 2) := by decide +kernel
theorem dL_isChanged_13 : decode cL_isChanged 13 = .ok (.iconst 0, 1) := by decide +kernel
theorem dL_isChanged_14 : decode cL_isChanged 14 = .ok (.istore 5, 2) := by decide +kernel
theorem dL_isChanged_16 : decode cL_isChanged 16 = .ok (.iconst 0, 1) := by decide +kernel
theorem dL_isChanged_17 : decode cL_isChanged 17 = .ok (.istore 6, 2) := by decide +kernel
theorem dL_isChanged_19 : decode cL_isChanged 19 = .ok (.iload 6, 2) := by decide +kernel
theorem dL_isChanged_21 : decode cL_isChanged 21 = .ok (.bipush 10, 2) := by decide +kernel
theorem dL_isChanged_23 : decode cL_isChanged 23 = .ok (.if_icmp .ge 41, 3) := by decide +kernel
theorem dL_isChanged_26 : decode cL_isChanged 26 = .ok (.iload 5, 2) := by decide +kernel
theorem dL_isChanged_28 : decode cL_isChanged 28 = .ok (.ifCond .ne 23, 3) := by decide +kernel
theorem dL_isChanged_31 : decode cL_isChanged 31 = .ok (.aload_n 0, 1) := by decide +kernel
theorem dL_isChanged_32 : decode cL_isChanged 32 = .ok (.iload_n 3, 1) := by decide +kernel
theorem dL_isChanged_33 : decode cL_isChanged 33 = .ok (.iload_n 2, 1) := by decide +kernel
theorem dL_isChanged_34 : decode cL_isChanged 34 = .ok (.iload 6, 2) := by decide +kernel
theorem dL_isChanged_36 : decode cL_isChanged 36 = .ok (.invokevirtual 112, 3) := by decide +kernel
theorem dL_isChanged_39 : decode cL_isChanged 39 = .ok (.aload_n 0, 1) := by decide +kernel
theorem dL_isChanged_40 : decode cL_isChanged 40 = .ok (.iload 4, 2) := by decide +kernel
theorem dL_isChanged_42 : decode cL_isChanged 42 = .ok (.iload_n 2, 1) := by decide +kernel
theorem dL_isChanged_43 : decode cL_isChanged 43 = .ok (.iload 6, 2) := by decide +kernel
theorem dL_isChanged_45 : decode cL_isChanged 45 = .ok (.invokevirtual 112, 3) := by decide +kernel
theorem dL_isChanged_48 : decode cL_isChanged 48 = .ok (.if_icmp .eq 7, 3) := by decide +kernel
theorem dL_isChanged_51 : decode cL_isChanged 51 = .ok (.iconst 1, 1) := by decide +kernel
theorem dL_isChanged_52 : decode cL_isChanged 52 = .ok (.goto 4, 3) := by decide +kernel
theorem dL_isChanged_55 : decode cL_isChanged 55 = .ok (.iconst 0, 1) := by decide +kernel
theorem dL_isChanged_56 : decode cL_isChanged 56 = .ok (.istore 5, 2) := by decide +kernel
theorem dL_isChanged_58 : decode cL_isChanged 58 = .ok (.iinc 6 1, 3) := by decide +kernel
theorem dL_isChanged_61 : decode cL_isChanged 61 = .ok (.goto (-42), 3) := by decide +kernel
theorem dL_isChanged_64 : decode cL_isChanged 64 = .ok (.iload 5, 2) := by decide +kernel
theorem dL_isChanged_66 : decode cL_isChanged 66 = .ok (.ireturn, 1) := by decide +kernel
theorem dL_repo_0 : decode cL_repo 0 = .ok (.iload_n 1, 1) := by decide +kernel
theorem dL_repo_1 : decode cL_repo 1 = .ok (.istore_n 2, 1) := by decide +kernel
theorem dL_repo_2 : decode cL_repo 2 = .ok (.aload_n 0, 1) := by decide +kernel
theorem dL_repo_3 : decode cL_repo 3 = .ok (.iload_n 2, 1) := by decide +kernel
theorem dL_repo_4 : decode cL_repo 4 = .ok (.invokevirtual 115, 3) := by decide +kernel
theorem dL_repo_7 : decode cL_repo 7 = .ok (.ifCond .lt 12, 3) := by decide +kernel
theorem dL_repo_10 : decode cL_repo 10 = .ok (.aload_n 0, 1) := by decide +kernel
theorem dL_repo_11 : decode cL_repo 11 = .ok (.iload_n 2, 1) := by decide +kernel
theorem dL_repo_12 : decode cL_repo 12 = .ok (.invokevirtual 115, 3) := by decide +kernel
theorem dL_repo_15 : decode cL_repo 15 = .ok (.istore_n 2, 1) := by decide +kernel
theorem dL_repo_16 : decode cL_repo 16 = .ok (.goto (-14), 3) := by decide +kernel
theorem dL_repo_19 : decode cL_repo 19 = .ok (.iload_n 2, 1) := by decide +kernel
theorem dL_repo_20 : decode cL_repo 20 = .ok (.ireturn, 1) := by decide +kernel
theorem dL_areFacts_0 : decode cL_areFacts 0 = .ok (.iconst 0, 1) := by decide +kernel
theorem dL_areFacts_1 : decode cL_areFacts 1 = .ok (.istore_n 3, 1) := by decide +kernel
theorem dL_areFacts_2 : decode cL_areFacts 2 = .ok (.iconst 0, 1) := by decide +kernel
theorem dL_areFacts_3 : decode cL_areFacts 3 = .ok (.istore 4, 2) := by decide +kernel
theorem dL_areFacts_5 : decode cL_areFacts 5 = .ok (.iconst 0, 1) := by decide +kernel
theorem dL_areFacts_6 : decode cL_areFacts 6 = .ok (.istore 5, 2) := by decide +kernel
theorem dL_areFacts_8 : decode cL_areFacts 8 = .ok (.iconst 0, 1) := by decide +kernel
theorem dL_areFacts_9 : decode cL_areFacts 9 = .ok (.istore 6, 2) := by decide +kernel
theorem dL_areFacts_11 : decode cL_areFacts 11 = .ok (.aload_n 0, 1) := by decide +kernel
theorem dL_areFacts_12 : decode cL_areFacts 12 = .ok (.iload_n 2, 1) := by decide +kernel
theorem dL_areFacts_13 : decode cL_areFacts 13 = .ok (.invokevirtual 127, 3) := by decide +kernel
theorem dL_areFacts_16 : decode cL_areFacts 16 = .ok (.iconst 1, 1) := by decide +kernel
theorem dL_areFacts_17 : decode cL_areFacts 17 = .ok (.isub, 1) := by decide +kernel
theorem dL_areFacts_18 : decode cL_areFacts 18 = .ok (.istore 7, 2) := by decide +kernel
theorem dL_areFacts_20 : decode cL_areFacts 20 = .ok (.iconst 0, 1) := by decide +kernel
theorem dL_areFacts_21 : decode cL_areFacts 21 = .ok (.istore 8, 2) := by decide +kernel
theorem dL_areFacts_23 : decode cL_areFacts 23 = .ok (.iload 8, 2) := by decide +kernel
theorem dL_areFacts_25 : decode cL_areFacts 25 = .ok (.bipush 6, 2) := by decide +kernel
theorem dL_areFacts_27 : decode cL_areFacts 27 = .ok (.if_icmp .ge 99, 3) := by decide +kernel
theorem dL_areFacts_30 : decode cL_areFacts 30 = .ok (.aload_n 0, 1) := by decide +kernel
theorem dL_areFacts_31 : decode cL_areFacts 31 = .ok (.iload 8, 2) := by decide +kernel
theorem dL_areFacts_33 : decode cL_areFacts 33 = .ok (.iload_n 2, 1) := by decide +kernel
theorem dL_areFacts_34 : decode cL_areFacts 34 = .ok (.iload 7, 2) := by decide +kernel
theorem dL_areFacts_36 : decode cL_areFacts 36 = .ok (.iconst 0, 1) := by decide +kernel
theorem dL_areFacts_37 : decode cL_areFacts 37 = .ok (.invokevirtual 142, 3) := by decide +kernel
theorem dL_areFacts_40 : decode cL_areFacts 40 = .ok (.istore 9, 2) := by decide +kernel
theorem dL_areFacts_42 : decode cL_areFacts 42 = .ok (.aload_n 0, 1) := by decide +kernel
theorem dL_areFacts_43 : decode cL_areFacts 43 = .ok (.iload 8, 2) := by decide +kernel
theorem dL_areFacts_45 : decode cL_areFacts 45 = .ok (.iload_n 2, 1) := by decide +kernel
theorem dL_areFacts_46 : decode cL_areFacts 46 = .ok (.iload 7, 2) := by decide +kernel
theorem dL_areFacts_48 : decode cL_areFacts 48 = .ok (.iconst 1, 1) := by decide +kernel
theorem dL_areFacts_49 : decode cL_areFacts 49 = .ok (.invokevirtual 142, 3) := by decide +kernel
theorem dL_areFacts_52 : decode cL_areFacts 52 = .ok (.istore 10, 2) := by decide +kernel
theorem dL_areFacts_54 : decode cL_areFacts 54 = .ok (.iload_n 3, 1) := by decide +kernel
theorem dL_areFacts_55 : decode cL_areFacts 55 = .ok (.iload 9, 2) := by decide +kernel
theorem dL_areFacts_57 : decode cL_areFacts 57 = .ok (.iconst 2, 1) := by decide +kernel
theorem dL_areFacts_58 : decode cL_areFacts 58 = .ok (.if_icmp .ne 10, 3) := by decide +kernel
theorem dL_areFacts_61 : decode cL_areFacts 61 = .ok (.iconst 1, 1) := by decide +kernel
theorem dL_areFacts_62 : decode cL_areFacts 62 = .ok (.iload 8, 2) := by decide +kernel
theorem dL_areFacts_64 : decode cL_areFacts 64 = .ok (.ishl, 1) := by decide +kernel
theorem dL_areFacts_65 : decode cL_areFacts 65 = .ok (.goto 4, 3) := by decide +kernel
theorem dL_areFacts_68 : decode cL_areFacts 68 = .ok (.iconst 0, 1) := by decide +kernel
theorem dL_areFacts_69 : decode cL_areFacts 69 = .ok (.ior, 1) := by decide +kernel
theorem dL_areFacts_70 : decode cL_areFacts 70 = .ok (.istore_n 3, 1) := by decide +kernel
theorem dL_areFacts_71 : decode cL_areFacts 71 = .ok (.iload 4, 2) := by decide +kernel
theorem dL_areFacts_73 : decode cL_areFacts 73 = .ok (.iload 9, 2) := by decide +kernel
theorem dL_areFacts_75 : decode cL_areFacts 75 = .ok (.bipush (-2), 2) := by decide +kernel
theorem dL_areFacts_77 : decode cL_areFacts 77 = .ok (.if_icmp .ne 7, 3) := by decide +kernel
theorem dL_areFacts_80 : decode cL_areFacts 80 = .ok (.iconst 1, 1) := by decide +kernel
theorem dL_areFacts_81 : decode cL_areFacts 81 = .ok (.goto 4, 3) := by decide +kernel
theorem dL_areFacts_84 : decode cL_areFacts 84 = .ok (.iconst 0, 1) := by decide +kernel
theorem dL_areFacts_85 : decode cL_areFacts 85 = .ok (.iadd, 1) := by decide +kernel
theorem dL_areFacts_86 : decode cL_areFacts 86 = .ok (.istore 4, 2) := by decide +kernel
theorem dL_areFacts_88 : decode cL_areFacts 88 = .ok (.iload 5, 2) := by decide +kernel
theorem dL_areFacts_90 : decode cL_areFacts 90 = .ok (.iload 10, 2) := by decide +kernel
theorem dL_areFacts_92 : decode cL_areFacts 92 = .ok (.iconst 1, 1) := by decide +kernel
theorem dL_areFacts_93 : decode cL_areFacts 93 = .ok (.if_icmp .ne 7, 3) := by decide +kernel
theorem dL_areFacts_96 : decode cL_areFacts 96 = .ok (.iconst 1, 1) := by decide +kernel
theorem dL_areFacts_97 : decode cL_areFacts 97 = .ok (.goto 4, 3) := by decide +kernel
theorem dL_areFacts_100 : decode cL_areFacts 100 = .ok (.iconst 0, 1) := by decide +kernel
theorem dL_areFacts_101 : decode cL_areFacts 101 = .ok (.iadd, 1) := by decide +kernel
theorem dL_areFacts_102 : decode cL_areFacts 102 = .ok (.istore 5, 2) := by decide +kernel
theorem dL_areFacts_104 : decode cL_areFacts 104 = .ok (.iload 6, 2) := by decide +kernel
theorem dL_areFacts_106 : decode cL_areFacts 106 = .ok (.iload 10, 2) := by decide +kernel
theorem dL_areFacts_108 : decode cL_areFacts 108 = .ok (.iconst (-1), 1) := by decide +kernel
theorem dL_areFacts_109 : decode cL_areFacts 109 = .ok (.if_icmp .ne 7, 3) := by decide +kernel
theorem dL_areFacts_112 : decode cL_areFacts 112 = .ok (.iconst 1, 1) := by decide +kernel
theorem dL_areFacts_113 : decode cL_areFacts 113 = .ok (.goto 4, 3) := by decide +kernel
theorem dL_areFacts_116 : decode cL_areFacts 116 = .ok (.iconst 0, 1) := by decide +kernel
theorem dL_areFacts_117 : decode cL_areFacts 117 = .ok (.iadd, 1) := by decide +kernel
theorem dL_areFacts_118 : decode cL_areFacts 118 = .ok (.istore 6, 2) := by decide +kernel
theorem dL_areFacts_120 : decode cL_areFacts 120 = .ok (.iinc 8 1, 3) := by decide +kernel
theorem dL_areFacts_123 : decode cL_areFacts 123 = .ok (.goto (-100), 3) := by decide +kernel
theorem dL_areFacts_126 : decode cL_areFacts 126 = .ok (.aload_n 0, 1) := by decide +kernel
theorem dL_areFacts_127 : decode cL_areFacts 127 = .ok (.aload_n 0, 1) := by decide +kernel
theorem dL_areFacts_128 : decode cL_areFacts 128 = .ok (.iload_n 2, 1) := by decide +kernel
theorem dL_areFacts_129 : decode cL_areFacts 129 = .ok (.invokestatic 222, 3) := by decide +kernel
theorem dL_areFacts_132 : decode cL_areFacts 132 = .ok (.invokestatic 226, 3) := by decide +kernel
theorem dL_areFacts_135 : decode cL_areFacts 135 = .ok (.istore 8, 2) := by decide +kernel
theorem dL_areFacts_137 : decode cL_areFacts 137 = .ok (.iconst 1, 1) := by decide +kernel
theorem dL_areFacts_138 : decode cL_areFacts 138 = .ok (.istore 9, 2) := by decide +kernel
theorem dL_areFacts_140 : decode cL_areFacts 140 = .ok (.iconst 0, 1) := by decide +kernel
theorem dL_areFacts_141 : decode cL_areFacts 141 = .ok (.istore 10, 2) := by decide +kernel
theorem dL_areFacts_143 : decode cL_areFacts 143 = .ok (.bipush 9, 2) := by decide +kernel
theorem dL_areFacts_145 : decode cL_areFacts 145 = .ok (.istore 11, 2) := by decide +kernel
theorem dL_areFacts_147 : decode cL_areFacts 147 = .ok (.bipush 63, 2) := by decide +kernel
theorem dL_areFacts_149 : decode cL_areFacts 149 = .ok (.istore 12, 2) := by decide +kernel
theorem dL_areFacts_151 : decode cL_areFacts 151 = .ok (.iload 12, 2) := by decide +kernel
theorem dL_areFacts_153 : decode cL_areFacts 153 = .ok (.ifCond .lt 136, 3) := by decide +kernel
theorem dL_areFacts_156 : decode cL_areFacts 156 = .ok (.iconst 1, 1) := by decide +kernel
theorem dL_areFacts_157 : decode cL_areFacts 157 = .ok (.istore 13, 2) := by decide +kernel
theorem dL_areFacts_159 : decode cL_areFacts 159 = .ok (.iconst 0, 1) := by decide +kernel
theorem dL_areFacts_160 : decode cL_areFacts 160 = .ok (.istore 14, 2) := by decide +kernel
theorem dL_areFacts_162 : decode cL_areFacts 162 = .ok (.iconst 0, 1) := by decide +kernel
theorem dL_areFacts_163 : decode cL_areFacts 163 = .ok (.istore 15, 2) := by decide +kernel
theorem dL_areFacts_165 : decode cL_areFacts 165 = .ok (.iload 15, 2) := by decide +kernel
theorem dL_areFacts_167 : decode cL_areFacts 167 = .ok (.iconst 4, 1) := by decide +kernel
theorem dL_areFacts_168 : decode cL_areFacts 168 = .ok (.if_icmp .ge 45, 3) := by decide +kernel
theorem dL_areFacts_171 : decode cL_areFacts 171 = .ok (.iload 13, 2) := by decide +kernel
theorem dL_areFacts_173 : decode cL_areFacts 173 = .ok (.ifCond .eq 31, 3) := by decide +kernel
theorem dL_areFacts_176 : decode cL_areFacts 176 = .ok (.iload 12, 2) := by decide +kernel
theorem dL_areFacts_178 : decode cL_areFacts 178 = .ok (.aload_n 0, 1) := by decide +kernel
theorem dL_areFacts_179 : decode cL_areFacts 179 = .ok (.iload 8, 2) := by decide +kernel
theorem dL_areFacts_181 : decode cL_areFacts 181 = .ok (.iload 15, 2) := by decide +kernel
theorem dL_areFacts_183 : decode cL_areFacts 183 = .ok (.invokevirtual 139, 3) := by decide +kernel
theorem dL_areFacts_186 : decode cL_areFacts 186 = .ok (.iand, 1) := by decide +kernel
theorem dL_areFacts_187 : decode cL_areFacts 187 = .ok (.ifCond .ne 13, 3) := by decide +kernel
theorem dL_areFacts_190 : decode cL_areFacts 190 = .ok (.aload_n 0, 1) := by decide +kernel
theorem dL_areFacts_191 : decode cL_areFacts 191 = .ok (.iload_n 2, 1) := by decide +kernel
theorem dL_areFacts_192 : decode cL_areFacts 192 = .ok (.iload 15, 2) := by decide +kernel
theorem dL_areFacts_194 : decode cL_areFacts 194 = .ok (.invokestatic 229, 3) := by decide +kernel
theorem dL_areFacts_197 : decode cL_areFacts 197 = .ok (.ifCond .ne 7, 3) := by decide +kernel
theorem dL_areFacts_200 : decode cL_areFacts 200 = .ok (.iconst 1, 1) := by decide +kernel
theorem dL_areFacts_201 : decode cL_areFacts 201 = .ok (.goto 4, 3) := by decide +kernel
theorem dL_areFacts_204 : decode cL_areFacts 204 = .ok (.iconst 0, 1) := by decide +kernel
theorem dL_areFacts_205 : decode cL_areFacts 205 = .ok (.istore 13, 2) := by decide +kernel
theorem dL_areFacts_207 : decode cL_areFacts 207 = .ok (.iinc 15 1, 3) := by decide +kernel
theorem dL_areFacts_210 : decode cL_areFacts 210 = .ok (.goto (-45), 3) := by decide +kernel
theorem dL_areFacts_213 : decode cL_areFacts 213 = .ok (.iconst 0, 1) := by decide +kernel
theorem dL_areFacts_214 : decode cL_areFacts 214 = .ok (.istore 15, 2) := by decide +kernel
theorem dL_areFacts_216 : decode cL_areFacts 216 = .ok (.iload 15, 2) := by decide +kernel
theorem dL_areFacts_218 : decode cL_areFacts 218 = .ok (.bipush 6, 2) := by decide +kernel
theorem dL_areFacts_220 : decode cL_areFacts 220 = .ok (.if_icmp .ge 21, 3) := by decide +kernel
theorem dL_areFacts_223 : decode cL_areFacts 223 = .ok (.iload 14, 2) := by decide +kernel
theorem dL_areFacts_225 : decode cL_areFacts 225 = .ok (.iload 12, 2) := by decide +kernel
theorem dL_areFacts_227 : decode cL_areFacts 227 = .ok (.iload 15, 2) := by decide +kernel
theorem dL_areFacts_229 : decode cL_areFacts 229 = .ok (.ishr, 1) := by decide +kernel
theorem dL_areFacts_230 : decode cL_areFacts 230 = .ok (.iconst 1, 1) := by decide +kernel
theorem dL_areFacts_231 : decode cL_areFacts 231 = .ok (.iand, 1) := by decide +kernel
theorem dL_areFacts_232 : decode cL_areFacts 232 = .ok (.iadd, 1) := by decide +kernel
theorem dL_areFacts_233 : decode cL_areFacts 233 = .ok (.istore 14, 2) := by decide +kernel
theorem dL_areFacts_235 : decode cL_areFacts 235 = .ok (.iinc 15 1, 3) := by decide +kernel
theorem dL_areFacts_238 : decode cL_areFacts 238 = .ok (.goto (-22), 3) := by decide +kernel
theorem dL_areFacts_241 : decode cL_areFacts 241 = .ok (.iload 13, 2) := by decide +kernel
theorem dL_areFacts_243 : decode cL_areFacts 243 = .ok (.ifCond .eq 15, 3) := by decide +kernel
theorem dL_areFacts_246 : decode cL_areFacts 246 = .ok (.iload 14, 2) := by decide +kernel
theorem dL_areFacts_248 : decode cL_areFacts 248 = .ok (.iload 11, 2) := by decide +kernel
theorem dL_areFacts_250 : decode cL_areFacts 250 = .ok (.if_icmp .gt 8, 3) := by decide +kernel
theorem dL_areFacts_253 : decode cL_areFacts 253 = .ok (.iload 12, 2) := by decide +kernel
theorem dL_areFacts_255 : decode cL_areFacts 255 = .ok (.goto 5, 3) := by decide +kernel
theorem dL_areFacts_258 : decode cL_areFacts 258 = .ok (.iload 10, 2) := by decide +kernel
theorem dL_areFacts_260 : decode cL_areFacts 260 = .ok (.istore 10, 2) := by decide +kernel
theorem dL_areFacts_262 : decode cL_areFacts 262 = .ok (.iload 13, 2) := by decide +kernel
theorem dL_areFacts_264 : decode cL_areFacts 264 = .ok (.ifCond .eq 15, 3) := by decide +kernel
theorem dL_areFacts_267 : decode cL_areFacts 267 = .ok (.iload 14, 2) := by decide +kernel
theorem dL_areFacts_269 : decode cL_areFacts 269 = .ok (.iload 11, 2) := by decide +kernel
theorem dL_areFacts_271 : decode cL_areFacts 271 = .ok (.if_icmp .ge 8, 3) := by decide +kernel
theorem dL_areFacts_274 : decode cL_areFacts 274 = .ok (.iload 14, 2) := by decide +kernel
theorem dL_areFacts_276 : decode cL_areFacts 276 = .ok (.goto 5, 3) := by decide +kernel
theorem dL_areFacts_279 : decode cL_areFacts 279 = .ok (.iload 11, 2) := by decide +kernel
theorem dL_areFacts_281 : decode cL_areFacts 281 = .ok (.istore 11, 2) := by decide +kernel
theorem dL_areFacts_283 : decode cL_areFacts 283 = .ok (.iinc 12 (-1), 3) := by decide +kernel
theorem dL_areFacts_286 : decode cL_areFacts 286 = .ok (.goto (-135), 3) := by decide +kernel
theorem dL_areFacts_289 : decode cL_areFacts 289 = .ok (.iconst 0, 1) := by decide +kernel
theorem dL_areFacts_290 : decode cL_areFacts 290 = .ok (.istore 12, 2) := by decide +kernel
theorem dL_areFacts_292 : decode cL_areFacts 292 = .ok (.iload 12, 2) := by decide +kernel
theorem dL_areFacts_294 : decode cL_areFacts 294 = .ok (.iconst 4, 1) := by decide +kernel
theorem dL_areFacts_295 : decode cL_areFacts 295 = .ok (.if_icmp .ge 54, 3) := by decide +kernel
theorem dL_areFacts_298 : decode cL_areFacts 298 = .ok (.iload 9, 2) := by decide +kernel
theorem dL_areFacts_300 : decode cL_areFacts 300 = .ok (.ifCond .eq 40, 3) := by decide +kernel
theorem dL_areFacts_303 : decode cL_areFacts 303 = .ok (.aload_n 0, 1) := by decide +kernel
theorem dL_areFacts_304 : decode cL_areFacts 304 = .ok (.iload_n 2, 1) := by decide +kernel
theorem dL_areFacts_305 : decode cL_areFacts 305 = .ok (.iload 12, 2) := by decide +kernel
theorem dL_areFacts_307 : decode cL_areFacts 307 = .ok (.invokestatic 229, 3) := by decide +kernel
theorem dL_areFacts_310 : decode cL_areFacts 310 = .ok (.ifCond .eq 26, 3) := by decide +kernel
theorem dL_areFacts_313 : decode cL_areFacts 313 = .ok (.aload_n 0, 1) := by decide +kernel
theorem dL_areFacts_314 : decode cL_areFacts 314 = .ok (.iload 8, 2) := by decide +kernel
theorem dL_areFacts_316 : decode cL_areFacts 316 = .ok (.iload 12, 2) := by decide +kernel
theorem dL_areFacts_318 : decode cL_areFacts 318 = .ok (.invokevirtual 139, 3) := by decide +kernel
theorem dL_areFacts_321 : decode cL_areFacts 321 = .ok (.iload_n 3, 1) := by decide +kernel
theorem dL_areFacts_322 : decode cL_areFacts 322 = .ok (.iand, 1) := by decide +kernel
theorem dL_areFacts_323 : decode cL_areFacts 323 = .ok (.iconst 1, 1) := by decide +kernel
theorem dL_areFacts_324 : decode cL_areFacts 324 = .ok (.aload_n 1, 1) := by decide +kernel
theorem dL_areFacts_325 : decode cL_areFacts 325 = .ok (.iconst 4, 1) := by decide +kernel
theorem dL_areFacts_326 : decode cL_areFacts 326 = .ok (.iload_n 2, 1) := by decide +kernel
theorem dL_areFacts_327 : decode cL_areFacts 327 = .ok (.imul, 1) := by decide +kernel
theorem dL_areFacts_328 : decode cL_areFacts 328 = .ok (.iaload, 1) := by decide +kernel
theorem dL_areFacts_329 : decode cL_areFacts 329 = .ok (.ishl, 1) := by decide +kernel
theorem dL_areFacts_330 : decode cL_areFacts 330 = .ok (.iconst (-1), 1) := by decide +kernel
theorem dL_areFacts_331 : decode cL_areFacts 331 = .ok (.ixor, 1) := by decide +kernel
theorem dL_areFacts_332 : decode cL_areFacts 332 = .ok (.iand, 1) := by decide +kernel
theorem dL_areFacts_333 : decode cL_areFacts 333 = .ok (.ifCond .eq 7, 3) := by decide +kernel
theorem dL_areFacts_336 : decode cL_areFacts 336 = .ok (.iconst 1, 1) := by decide +kernel
theorem dL_areFacts_337 : decode cL_areFacts 337 = .ok (.goto 4, 3) := by decide +kernel
theorem dL_areFacts_340 : decode cL_areFacts 340 = .ok (.iconst 0, 1) := by decide +kernel
theorem dL_areFacts_341 : decode cL_areFacts 341 = .ok (.istore 9, 2) := by decide +kernel
theorem dL_areFacts_343 : decode cL_areFacts 343 = .ok (.iinc 12 1, 3) := by decide +kernel
theorem dL_areFacts_346 : decode cL_areFacts 346 = .ok (.goto (-54), 3) := by decide +kernel
theorem dL_areFacts_349 : decode cL_areFacts 349 = .ok (.aload_n 0, 1) := by decide +kernel
theorem dL_areFacts_350 : decode cL_areFacts 350 = .ok (.iload_n 2, 1) := by decide +kernel
theorem dL_areFacts_351 : decode cL_areFacts 351 = .ok (.invokevirtual 136, 3) := by decide +kernel
theorem dL_areFacts_354 : decode cL_areFacts 354 = .ok (.istore 12, 2) := by decide +kernel
theorem dL_areFacts_356 : decode cL_areFacts 356 = .ok (.iload 12, 2) := by decide +kernel
theorem dL_areFacts_358 : decode cL_areFacts 358 = .ok (.ifCond .lt 16, 3) := by decide +kernel
theorem dL_areFacts_361 : decode cL_areFacts 361 = .ok (.aload_n 0, 1) := by decide +kernel
theorem dL_areFacts_362 : decode cL_areFacts 362 = .ok (.iload 12, 2) := by decide +kernel
theorem dL_areFacts_364 : decode cL_areFacts 364 = .ok (.bipush 10, 2) := by decide +kernel
theorem dL_areFacts_366 : decode cL_areFacts 366 = .ok (.idiv, 1) := by decide +kernel
theorem dL_areFacts_367 : decode cL_areFacts 367 = .ok (.invokevirtual 124, 3) := by decide +kernel
theorem dL_areFacts_370 : decode cL_areFacts 370 = .ok (.iconst 1, 1) := by decide +kernel
theorem dL_areFacts_371 : decode cL_areFacts 371 = .ok (.if_icmp .ne 7, 3) := by decide +kernel
theorem dL_areFacts_374 : decode cL_areFacts 374 = .ok (.iconst 1, 1) := by decide +kernel
theorem dL_areFacts_375 : decode cL_areFacts 375 = .ok (.goto 4, 3) := by decide +kernel
theorem dL_areFacts_378 : decode cL_areFacts 378 = .ok (.iconst 0, 1) := by decide +kernel
theorem dL_areFacts_379 : decode cL_areFacts 379 = .ok (.istore 13, 2) := by decide +kernel
theorem dL_areFacts_381 : decode cL_areFacts 381 = .ok (.iload 9, 2) := by decide +kernel
theorem dL_areFacts_383 : decode cL_areFacts 383 = .ok (.ifCond .eq 7, 3) := by decide +kernel
theorem dL_areFacts_386 : decode cL_areFacts 386 = .ok (.iconst 1, 1) := by decide +kernel
theorem dL_areFacts_387 : decode cL_areFacts 387 = .ok (.goto 4, 3) := by decide +kernel
theorem dL_areFacts_390 : decode cL_areFacts 390 = .ok (.iconst 0, 1) := by decide +kernel
theorem dL_areFacts_391 : decode cL_areFacts 391 = .ok (.iload 4, 2) := by decide +kernel
theorem dL_areFacts_393 : decode cL_areFacts 393 = .ok (.ifCond .ne 7, 3) := by decide +kernel
theorem dL_areFacts_396 : decode cL_areFacts 396 = .ok (.iconst 2, 1) := by decide +kernel
theorem dL_areFacts_397 : decode cL_areFacts 397 = .ok (.goto 4, 3) := by decide +kernel
theorem dL_areFacts_400 : decode cL_areFacts 400 = .ok (.iconst 0, 1) := by decide +kernel
theorem dL_areFacts_401 : decode cL_areFacts 401 = .ok (.ior, 1) := by decide +kernel
theorem dL_areFacts_402 : decode cL_areFacts 402 = .ok (.iload 5, 2) := by decide +kernel
theorem dL_areFacts_404 : decode cL_areFacts 404 = .ok (.ifCond .le 12, 3) := by decide +kernel
theorem dL_areFacts_407 : decode cL_areFacts 407 = .ok (.iload 6, 2) := by decide +kernel
theorem dL_areFacts_409 : decode cL_areFacts 409 = .ok (.ifCond .ne 7, 3) := by decide +kernel
theorem dL_areFacts_412 : decode cL_areFacts 412 = .ok (.iconst 4, 1) := by decide +kernel
theorem dL_areFacts_413 : decode cL_areFacts 413 = .ok (.goto 4, 3) := by decide +kernel
theorem dL_areFacts_416 : decode cL_areFacts 416 = .ok (.iconst 0, 1) := by decide +kernel
theorem dL_areFacts_417 : decode cL_areFacts 417 = .ok (.ior, 1) := by decide +kernel
theorem dL_areFacts_418 : decode cL_areFacts 418 = .ok (.aload_n 0, 1) := by decide +kernel
theorem dL_areFacts_419 : decode cL_areFacts 419 = .ok (.iload_n 2, 1) := by decide +kernel
theorem dL_areFacts_420 : decode cL_areFacts 420 = .ok (.invokevirtual 167, 3) := by decide +kernel
theorem dL_areFacts_423 : decode cL_areFacts 423 = .ok (.ifCond .ne 8, 3) := by decide +kernel
theorem dL_areFacts_426 : decode cL_areFacts 426 = .ok (.bipush 8, 2) := by decide +kernel
theorem dL_areFacts_428 : decode cL_areFacts 428 = .ok (.goto 4, 3) := by decide +kernel
theorem dL_areFacts_431 : decode cL_areFacts 431 = .ok (.iconst 0, 1) := by decide +kernel
theorem dL_areFacts_432 : decode cL_areFacts 432 = .ok (.ior, 1) := by decide +kernel
theorem dL_areFacts_433 : decode cL_areFacts 433 = .ok (.aload_n 1, 1) := by decide +kernel
theorem dL_areFacts_434 : decode cL_areFacts 434 = .ok (.iconst 4, 1) := by decide +kernel
theorem dL_areFacts_435 : decode cL_areFacts 435 = .ok (.iload_n 2, 1) := by decide +kernel
theorem dL_areFacts_436 : decode cL_areFacts 436 = .ok (.imul, 1) := by decide +kernel
theorem dL_areFacts_437 : decode cL_areFacts 437 = .ok (.iconst 1, 1) := by decide +kernel
theorem dL_areFacts_438 : decode cL_areFacts 438 = .ok (.iadd, 1) := by decide +kernel
theorem dL_areFacts_439 : decode cL_areFacts 439 = .ok (.iaload, 1) := by decide +kernel
theorem dL_areFacts_440 : decode cL_areFacts 440 = .ok (.iconst 4, 1) := by decide +kernel
theorem dL_areFacts_441 : decode cL_areFacts 441 = .ok (.ishl, 1) := by decide +kernel
theorem dL_areFacts_442 : decode cL_areFacts 442 = .ok (.ior, 1) := by decide +kernel
theorem dL_areFacts_443 : decode cL_areFacts 443 = .ok (.iload 13, 2) := by decide +kernel
theorem dL_areFacts_445 : decode cL_areFacts 445 = .ok (.ifCond .eq 8, 3) := by decide +kernel
theorem dL_areFacts_448 : decode cL_areFacts 448 = .ok (.bipush 64, 2) := by decide +kernel
theorem dL_areFacts_450 : decode cL_areFacts 450 = .ok (.goto 4, 3) := by decide +kernel
theorem dL_areFacts_453 : decode cL_areFacts 453 = .ok (.iconst 0, 1) := by decide +kernel
theorem dL_areFacts_454 : decode cL_areFacts 454 = .ok (.ior, 1) := by decide +kernel
theorem dL_areFacts_455 : decode cL_areFacts 455 = .ok (.istore 14, 2) := by decide +kernel
theorem dL_areFacts_457 : decode cL_areFacts 457 = .ok (.aload_n 0, 1) := by decide +kernel
theorem dL_areFacts_458 : decode cL_areFacts 458 = .ok (.iload_n 2, 1) := by decide +kernel
theorem dL_areFacts_459 : decode cL_areFacts 459 = .ok (.invokevirtual 146, 3) := by decide +kernel
theorem dL_areFacts_462 : decode cL_areFacts 462 = .ok (.istore 15, 2) := by decide +kernel
theorem dL_areFacts_464 : decode cL_areFacts 464 = .ok (.bipush 7, 2) := by decide +kernel
theorem dL_areFacts_466 : decode cL_areFacts 466 = .ok (.iload 15, 2) := by decide +kernel
theorem dL_areFacts_468 : decode cL_areFacts 468 = .ok (.iconst (-1), 1) := by decide +kernel
theorem dL_areFacts_469 : decode cL_areFacts 469 = .ok (.ixor, 1) := by decide +kernel
theorem dL_areFacts_470 : decode cL_areFacts 470 = .ok (.iand, 1) := by decide +kernel
theorem dL_areFacts_471 : decode cL_areFacts 471 = .ok (.iload 15, 2) := by decide +kernel
theorem dL_areFacts_473 : decode cL_areFacts 473 = .ok (.bipush 48, 2) := by decide +kernel
theorem dL_areFacts_475 : decode cL_areFacts 475 = .ok (.iand, 1) := by decide +kernel
theorem dL_areFacts_476 : decode cL_areFacts 476 = .ok (.ior, 1) := by decide +kernel
theorem dL_areFacts_477 : decode cL_areFacts 477 = .ok (.istore 16, 2) := by decide +kernel
theorem dL_areFacts_479 : decode cL_areFacts 479 = .ok (.iload 15, 2) := by decide +kernel
theorem dL_areFacts_481 : decode cL_areFacts 481 = .ok (.bipush 127, 2) := by decide +kernel
theorem dL_areFacts_483 : decode cL_areFacts 483 = .ok (.iand, 1) := by decide +kernel
theorem dL_areFacts_484 : decode cL_areFacts 484 = .ok (.iload 14, 2) := by decide +kernel
theorem dL_areFacts_486 : decode cL_areFacts 486 = .ok (.if_icmp .ne 67, 3) := by decide +kernel
theorem dL_areFacts_489 : decode cL_areFacts 489 = .ok (.iload 15, 2) := by decide +kernel
theorem dL_areFacts_491 : decode cL_areFacts 491 = .ok (.sipush 128, 3) := by decide +kernel
theorem dL_areFacts_494 : decode cL_areFacts 494 = .ok (.iand, 1) := by decide +kernel
theorem dL_areFacts_495 : decode cL_areFacts 495 = .ok (.ifCond .eq 7, 3) := by decide +kernel
theorem dL_areFacts_498 : decode cL_areFacts 498 = .ok (.iload_n 3, 1) := by decide +kernel
theorem dL_areFacts_499 : decode cL_areFacts 499 = .ok (.ifCond .eq 54, 3) := by decide +kernel
theorem dL_areFacts_502 : decode cL_areFacts 502 = .ok (.iload 15, 2) := by decide +kernel
theorem dL_areFacts_504 : decode cL_areFacts 504 = .ok (.bipush 15, 2) := by decide +kernel
theorem dL_areFacts_506 : decode cL_areFacts 506 = .ok (.ishr, 1) := by decide +kernel
theorem dL_areFacts_507 : decode cL_areFacts 507 = .ok (.iconst 1, 1) := by decide +kernel
theorem dL_areFacts_508 : decode cL_areFacts 508 = .ok (.if_icmp .ne 7, 3) := by decide +kernel
theorem dL_areFacts_511 : decode cL_areFacts 511 = .ok (.iconst 1, 1) := by decide +kernel
theorem dL_areFacts_512 : decode cL_areFacts 512 = .ok (.goto 4, 3) := by decide +kernel
theorem dL_areFacts_515 : decode cL_areFacts 515 = .ok (.iconst 0, 1) := by decide +kernel
theorem dL_areFacts_516 : decode cL_areFacts 516 = .ok (.iload 16, 2) := by decide +kernel
theorem dL_areFacts_518 : decode cL_areFacts 518 = .ok (.ifCond .ne 7, 3) := by decide +kernel
theorem dL_areFacts_521 : decode cL_areFacts 521 = .ok (.iconst 1, 1) := by decide +kernel
theorem dL_areFacts_522 : decode cL_areFacts 522 = .ok (.goto 4, 3) := by decide +kernel
theorem dL_areFacts_525 : decode cL_areFacts 525 = .ok (.iconst 0, 1) := by decide +kernel
theorem dL_areFacts_526 : decode cL_areFacts 526 = .ok (.if_icmp .ne 27, 3) := by decide +kernel
theorem dL_areFacts_529 : decode cL_areFacts 529 = .ok (.aload_n 0, 1) := by decide +kernel
theorem dL_areFacts_530 : decode cL_areFacts 530 = .ok (.iload_n 2, 1) := by decide +kernel
theorem dL_areFacts_531 : decode cL_areFacts 531 = .ok (.invokevirtual 164, 3) := by decide +kernel
theorem dL_areFacts_534 : decode cL_areFacts 534 = .ok (.iload 16, 2) := by decide +kernel
theorem dL_areFacts_536 : decode cL_areFacts 536 = .ok (.if_icmp .ne 17, 3) := by decide +kernel
theorem dL_areFacts_539 : decode cL_areFacts 539 = .ok (.aload_n 0, 1) := by decide +kernel
theorem dL_areFacts_540 : decode cL_areFacts 540 = .ok (.iload_n 2, 1) := by decide +kernel
theorem dL_areFacts_541 : decode cL_areFacts 541 = .ok (.invokevirtual 161, 3) := by decide +kernel
theorem dL_areFacts_544 : decode cL_areFacts 544 = .ok (.iload 10, 2) := by decide +kernel
theorem dL_areFacts_546 : decode cL_areFacts 546 = .ok (.if_icmp .ne 7, 3) := by decide +kernel
theorem dL_areFacts_549 : decode cL_areFacts 549 = .ok (.iconst 1, 1) := by decide +kernel
theorem dL_areFacts_550 : decode cL_areFacts 550 = .ok (.goto 4, 3) := by decide +kernel
theorem dL_areFacts_553 : decode cL_areFacts 553 = .ok (.iconst 0, 1) := by decide +kernel
theorem dL_areFacts_554 : decode cL_areFacts 554 = .ok (.ireturn, 1) := by decide +kernel
theorem dL_areChanges_0 : decode cL_areChanges 0 = .ok (.iconst 1, 1) := by decide +kernel
theorem dL_areChanges_1 : decode cL_areChanges 1 = .ok (.istore_n 3, 1) := by decide +kernel
theorem dL_areChanges_2 : decode cL_areChanges 2 = .ok (.iconst 0, 1) := by decide +kernel
theorem dL_areChanges_3 : decode cL_areChanges 3 = .ok (.istore 4, 2) := by decide +kernel
theorem dL_areChanges_5 : decode cL_areChanges 5 = .ok (.iload 4, 2) := by decide +kernel
theorem dL_areChanges_7 : decode cL_areChanges 7 = .ok (.aload_n 0, 1) := by decide +kernel
theorem dL_areChanges_8 : decode cL_areChanges 8 = .ok (.invokevirtual 187, 3) := by decide +kernel
theorem dL_areChanges_11 : decode cL_areChanges 11 = .ok (.if_icmp .ge 447, 3) := by decide +kernel
theorem dL_areChanges_14 : decode cL_areChanges 14 = .ok (.iload_n 3, 1) := by decide +kernel
theorem dL_areChanges_15 : decode cL_areChanges 15 = .ok (.ifCond .eq 443, 3) := by decide +kernel
theorem dL_areChanges_18 : decode cL_areChanges 18 = .ok (.iload_n 2, 1) := by decide +kernel
theorem dL_areChanges_19 : decode cL_areChanges 19 = .ok (.aload_n 0, 1) := by decide +kernel
theorem dL_areChanges_20 : decode cL_areChanges 20 = .ok (.iload 4, 2) := by decide +kernel
theorem dL_areChanges_22 : decode cL_areChanges 22 = .ok (.invokevirtual 127, 3) := by decide +kernel
theorem dL_areChanges_25 : decode cL_areChanges 25 = .ok (.irem, 1) := by decide +kernel
theorem dL_areChanges_26 : decode cL_areChanges 26 = .ok (.istore 5, 2) := by decide +kernel
theorem dL_areChanges_28 : decode cL_areChanges 28 = .ok (.aload_n 0, 1) := by decide +kernel
theorem dL_areChanges_29 : decode cL_areChanges 29 = .ok (.iload 4, 2) := by decide +kernel
theorem dL_areChanges_31 : decode cL_areChanges 31 = .ok (.iload 5, 2) := by decide +kernel
theorem dL_areChanges_33 : decode cL_areChanges 33 = .ok (.invokevirtual 130, 3) := by decide +kernel
theorem dL_areChanges_36 : decode cL_areChanges 36 = .ok (.istore 6, 2) := by decide +kernel
theorem dL_areChanges_38 : decode cL_areChanges 38 = .ok (.aload_n 0, 1) := by decide +kernel
theorem dL_areChanges_39 : decode cL_areChanges 39 = .ok (.iload 4, 2) := by decide +kernel
theorem dL_areChanges_41 : decode cL_areChanges 41 = .ok (.iload 5, 2) := by decide +kernel
theorem dL_areChanges_43 : decode cL_areChanges 43 = .ok (.invokevirtual 133, 3) := by decide +kernel
theorem dL_areChanges_46 : decode cL_areChanges 46 = .ok (.istore 7, 2) := by decide +kernel
theorem dL_areChanges_48 : decode cL_areChanges 48 = .ok (.aload_n 0, 1) := by decide +kernel
theorem dL_areChanges_49 : decode cL_areChanges 49 = .ok (.iload 4, 2) := by decide +kernel
theorem dL_areChanges_51 : decode cL_areChanges 51 = .ok (.invokevirtual 152, 3) := by decide +kernel
theorem dL_areChanges_54 : decode cL_areChanges 54 = .ok (.iconst 1, 1) := by decide +kernel
theorem dL_areChanges_55 : decode cL_areChanges 55 = .ok (.aload_n 1, 1) := by decide +kernel
theorem dL_areChanges_56 : decode cL_areChanges 56 = .ok (.iconst 4, 1) := by decide +kernel
theorem dL_areChanges_57 : decode cL_areChanges 57 = .ok (.iload 4, 2) := by decide +kernel
theorem dL_areChanges_59 : decode cL_areChanges 59 = .ok (.imul, 1) := by decide +kernel
theorem dL_areChanges_60 : decode cL_areChanges 60 = .ok (.iaload, 1) := by decide +kernel
theorem dL_areChanges_61 : decode cL_areChanges 61 = .ok (.ishl, 1) := by decide +kernel
theorem dL_areChanges_62 : decode cL_areChanges 62 = .ok (.ior, 1) := by decide +kernel
theorem dL_areChanges_63 : decode cL_areChanges 63 = .ok (.istore 8, 2) := by decide +kernel
theorem dL_areChanges_65 : decode cL_areChanges 65 = .ok (.aload_n 0, 1) := by decide +kernel
theorem dL_areChanges_66 : decode cL_areChanges 66 = .ok (.iload 4, 2) := by decide +kernel
theorem dL_areChanges_68 : decode cL_areChanges 68 = .ok (.invokevirtual 136, 3) := by decide +kernel
theorem dL_areChanges_71 : decode cL_areChanges 71 = .ok (.istore 9, 2) := by decide +kernel
theorem dL_areChanges_73 : decode cL_areChanges 73 = .ok (.aload_n 0, 1) := by decide +kernel
theorem dL_areChanges_74 : decode cL_areChanges 74 = .ok (.iload 4, 2) := by decide +kernel
theorem dL_areChanges_76 : decode cL_areChanges 76 = .ok (.invokevirtual 155, 3) := by decide +kernel
theorem dL_areChanges_79 : decode cL_areChanges 79 = .ok (.iload 8, 2) := by decide +kernel
theorem dL_areChanges_81 : decode cL_areChanges 81 = .ok (.iconst (-1), 1) := by decide +kernel
theorem dL_areChanges_82 : decode cL_areChanges 82 = .ok (.ixor, 1) := by decide +kernel
theorem dL_areChanges_83 : decode cL_areChanges 83 = .ok (.iand, 1) := by decide +kernel
theorem dL_areChanges_84 : decode cL_areChanges 84 = .ok (.ifCond .ne 102, 3) := by decide +kernel
theorem dL_areChanges_87 : decode cL_areChanges 87 = .ok (.aload_n 0, 1) := by decide +kernel
theorem dL_areChanges_88 : decode cL_areChanges 88 = .ok (.iload 4, 2) := by decide +kernel
theorem dL_areChanges_90 : decode cL_areChanges 90 = .ok (.invokevirtual 152, 3) := by decide +kernel
theorem dL_areChanges_93 : decode cL_areChanges 93 = .ok (.aload_n 1, 1) := by decide +kernel
theorem dL_areChanges_94 : decode cL_areChanges 94 = .ok (.iconst 4, 1) := by decide +kernel
theorem dL_areChanges_95 : decode cL_areChanges 95 = .ok (.iload 4, 2) := by decide +kernel
theorem dL_areChanges_97 : decode cL_areChanges 97 = .ok (.imul, 1) := by decide +kernel
theorem dL_areChanges_98 : decode cL_areChanges 98 = .ok (.iaload, 1) := by decide +kernel
theorem dL_areChanges_99 : decode cL_areChanges 99 = .ok (.ishr, 1) := by decide +kernel
theorem dL_areChanges_100 : decode cL_areChanges 100 = .ok (.iconst 1, 1) := by decide +kernel
theorem dL_areChanges_101 : decode cL_areChanges 101 = .ok (.iand, 1) := by decide +kernel
theorem dL_areChanges_102 : decode cL_areChanges 102 = .ok (.ifCond .ne 84, 3) := by decide +kernel
theorem dL_areChanges_105 : decode cL_areChanges 105 = .ok (.aload_n 0, 1) := by decide +kernel
theorem dL_areChanges_106 : decode cL_areChanges 106 = .ok (.iload 4, 2) := by decide +kernel
theorem dL_areChanges_108 : decode cL_areChanges 108 = .ok (.invokevirtual 124, 3) := by decide +kernel
theorem dL_areChanges_111 : decode cL_areChanges 111 = .ok (.ifCond .ne 16, 3) := by decide +kernel
theorem dL_areChanges_114 : decode cL_areChanges 114 = .ok (.aload_n 1, 1) := by decide +kernel
theorem dL_areChanges_115 : decode cL_areChanges 115 = .ok (.iconst 4, 1) := by decide +kernel
theorem dL_areChanges_116 : decode cL_areChanges 116 = .ok (.iload 4, 2) := by decide +kernel
theorem dL_areChanges_118 : decode cL_areChanges 118 = .ok (.imul, 1) := by decide +kernel
theorem dL_areChanges_119 : decode cL_areChanges 119 = .ok (.iconst 1, 1) := by decide +kernel
theorem dL_areChanges_120 : decode cL_areChanges 120 = .ok (.iadd, 1) := by decide +kernel
theorem dL_areChanges_121 : decode cL_areChanges 121 = .ok (.iaload, 1) := by decide +kernel
theorem dL_areChanges_122 : decode cL_areChanges 122 = .ok (.iconst 2, 1) := by decide +kernel
theorem dL_areChanges_123 : decode cL_areChanges 123 = .ok (.irem, 1) := by decide +kernel
theorem dL_areChanges_124 : decode cL_areChanges 124 = .ok (.ifCond .eq 12, 3) := by decide +kernel
theorem dL_areChanges_127 : decode cL_areChanges 127 = .ok (.aload_n 0, 1) := by decide +kernel
theorem dL_areChanges_128 : decode cL_areChanges 128 = .ok (.iload 4, 2) := by decide +kernel
theorem dL_areChanges_130 : decode cL_areChanges 130 = .ok (.invokevirtual 155, 3) := by decide +kernel
theorem dL_areChanges_133 : decode cL_areChanges 133 = .ok (.ifCond .ne 53, 3) := by decide +kernel
theorem dL_areChanges_136 : decode cL_areChanges 136 = .ok (.iload 5, 2) := by decide +kernel
theorem dL_areChanges_138 : decode cL_areChanges 138 = .ok (.ifCond .gt 8, 3) := by decide +kernel
theorem dL_areChanges_141 : decode cL_areChanges 141 = .ok (.iload 7, 2) := by decide +kernel
theorem dL_areChanges_143 : decode cL_areChanges 143 = .ok (.ifCond .ne 43, 3) := by decide +kernel
theorem dL_areChanges_146 : decode cL_areChanges 146 = .ok (.iload 9, 2) := by decide +kernel
theorem dL_areChanges_148 : decode cL_areChanges 148 = .ok (.ifCond .lt 34, 3) := by decide +kernel
theorem dL_areChanges_151 : decode cL_areChanges 151 = .ok (.iload 9, 2) := by decide +kernel
theorem dL_areChanges_153 : decode cL_areChanges 153 = .ok (.bipush 10, 2) := by decide +kernel
theorem dL_areChanges_155 : decode cL_areChanges 155 = .ok (.irem, 1) := by decide +kernel
theorem dL_areChanges_156 : decode cL_areChanges 156 = .ok (.iconst 2, 1) := by decide +kernel
theorem dL_areChanges_157 : decode cL_areChanges 157 = .ok (.if_icmp .ge 29, 3) := by decide +kernel
theorem dL_areChanges_160 : decode cL_areChanges 160 = .ok (.iload 9, 2) := by decide +kernel
theorem dL_areChanges_162 : decode cL_areChanges 162 = .ok (.bipush 10, 2) := by decide +kernel
theorem dL_areChanges_164 : decode cL_areChanges 164 = .ok (.idiv, 1) := by decide +kernel
theorem dL_areChanges_165 : decode cL_areChanges 165 = .ok (.aload_n 0, 1) := by decide +kernel
theorem dL_areChanges_166 : decode cL_areChanges 166 = .ok (.invokevirtual 187, 3) := by decide +kernel
theorem dL_areChanges_169 : decode cL_areChanges 169 = .ok (.if_icmp .ge 17, 3) := by decide +kernel
theorem dL_areChanges_172 : decode cL_areChanges 172 = .ok (.iload 9, 2) := by decide +kernel
theorem dL_areChanges_174 : decode cL_areChanges 174 = .ok (.bipush 10, 2) := by decide +kernel
theorem dL_areChanges_176 : decode cL_areChanges 176 = .ok (.idiv, 1) := by decide +kernel
theorem dL_areChanges_177 : decode cL_areChanges 177 = .ok (.iload 4, 2) := by decide +kernel
theorem dL_areChanges_179 : decode cL_areChanges 179 = .ok (.if_icmp .eq 7, 3) := by decide +kernel
theorem dL_areChanges_182 : decode cL_areChanges 182 = .ok (.iconst 1, 1) := by decide +kernel
theorem dL_areChanges_183 : decode cL_areChanges 183 = .ok (.goto 4, 3) := by decide +kernel
theorem dL_areChanges_186 : decode cL_areChanges 186 = .ok (.iconst 0, 1) := by decide +kernel
theorem dL_areChanges_187 : decode cL_areChanges 187 = .ok (.istore_n 3, 1) := by decide +kernel
theorem dL_areChanges_188 : decode cL_areChanges 188 = .ok (.iload_n 3, 1) := by decide +kernel
theorem dL_areChanges_189 : decode cL_areChanges 189 = .ok (.ifCond .eq 243, 3) := by decide +kernel
theorem dL_areChanges_192 : decode cL_areChanges 192 = .ok (.iload 5, 2) := by decide +kernel
theorem dL_areChanges_194 : decode cL_areChanges 194 = .ok (.ifCond .le 238, 3) := by decide +kernel
theorem dL_areChanges_197 : decode cL_areChanges 197 = .ok (.aload_n 0, 1) := by decide +kernel
theorem dL_areChanges_198 : decode cL_areChanges 198 = .ok (.iload 4, 2) := by decide +kernel
theorem dL_areChanges_200 : decode cL_areChanges 200 = .ok (.iload 5, 2) := by decide +kernel
theorem dL_areChanges_202 : decode cL_areChanges 202 = .ok (.iconst 1, 1) := by decide +kernel
theorem dL_areChanges_203 : decode cL_areChanges 203 = .ok (.isub, 1) := by decide +kernel
theorem dL_areChanges_204 : decode cL_areChanges 204 = .ok (.invokevirtual 130, 3) := by decide +kernel
theorem dL_areChanges_207 : decode cL_areChanges 207 = .ok (.istore 10, 2) := by decide +kernel
theorem dL_areChanges_209 : decode cL_areChanges 209 = .ok (.aload_n 0, 1) := by decide +kernel
theorem dL_areChanges_210 : decode cL_areChanges 210 = .ok (.iload 10, 2) := by decide +kernel
theorem dL_areChanges_212 : decode cL_areChanges 212 = .ok (.invokevirtual 115, 3) := by decide +kernel
theorem dL_areChanges_215 : decode cL_areChanges 215 = .ok (.aload_n 0, 1) := by decide +kernel
theorem dL_areChanges_216 : decode cL_areChanges 216 = .ok (.iload 6, 2) := by decide +kernel
theorem dL_areChanges_218 : decode cL_areChanges 218 = .ok (.invokevirtual 115, 3) := by decide +kernel
theorem dL_areChanges_221 : decode cL_areChanges 221 = .ok (.if_icmp .ne 7, 3) := by decide +kernel
theorem dL_areChanges_224 : decode cL_areChanges 224 = .ok (.iconst 1, 1) := by decide +kernel
theorem dL_areChanges_225 : decode cL_areChanges 225 = .ok (.goto 4, 3) := by decide +kernel
theorem dL_areChanges_228 : decode cL_areChanges 228 = .ok (.iconst 0, 1) := by decide +kernel
theorem dL_areChanges_229 : decode cL_areChanges 229 = .ok (.istore 11, 2) := by decide +kernel
theorem dL_areChanges_231 : decode cL_areChanges 231 = .ok (.iconst 1, 1) := by decide +kernel
theorem dL_areChanges_232 : decode cL_areChanges 232 = .ok (.istore 12, 2) := by decide +kernel
theorem dL_areChanges_234 : decode cL_areChanges 234 = .ok (.iconst 0, 1) := by decide +kernel
theorem dL_areChanges_235 : decode cL_areChanges 235 = .ok (.istore 13, 2) := by decide +kernel
theorem dL_areChanges_237 : decode cL_areChanges 237 = .ok (.iload 13, 2) := by decide +kernel
theorem dL_areChanges_239 : decode cL_areChanges 239 = .ok (.bipush 40, 2) := by decide +kernel
theorem dL_areChanges_241 : decode cL_areChanges 241 = .ok (.if_icmp .ge 56, 3) := by decide +kernel
theorem dL_areChanges_244 : decode cL_areChanges 244 = .ok (.iload 12, 2) := by decide +kernel
theorem dL_areChanges_246 : decode cL_areChanges 246 = .ok (.ifCond .eq 42, 3) := by decide +kernel
theorem dL_areChanges_249 : decode cL_areChanges 249 = .ok (.aload_n 0, 1) := by decide +kernel
theorem dL_areChanges_250 : decode cL_areChanges 250 = .ok (.iload 10, 2) := by decide +kernel
theorem dL_areChanges_252 : decode cL_areChanges 252 = .ok (.iload 13, 2) := by decide +kernel
theorem dL_areChanges_254 : decode cL_areChanges 254 = .ok (.bipush 10, 2) := by decide +kernel
theorem dL_areChanges_256 : decode cL_areChanges 256 = .ok (.idiv, 1) := by decide +kernel
theorem dL_areChanges_257 : decode cL_areChanges 257 = .ok (.iload 13, 2) := by decide +kernel
theorem dL_areChanges_259 : decode cL_areChanges 259 = .ok (.bipush 10, 2) := by decide +kernel
theorem dL_areChanges_261 : decode cL_areChanges 261 = .ok (.irem, 1) := by decide +kernel
theorem dL_areChanges_262 : decode cL_areChanges 262 = .ok (.invokevirtual 112, 3) := by decide +kernel
theorem dL_areChanges_265 : decode cL_areChanges 265 = .ok (.aload_n 0, 1) := by decide +kernel
theorem dL_areChanges_266 : decode cL_areChanges 266 = .ok (.iload 6, 2) := by decide +kernel
theorem dL_areChanges_268 : decode cL_areChanges 268 = .ok (.iload 13, 2) := by decide +kernel
theorem dL_areChanges_270 : decode cL_areChanges 270 = .ok (.bipush 10, 2) := by decide +kernel
theorem dL_areChanges_272 : decode cL_areChanges 272 = .ok (.idiv, 1) := by decide +kernel
theorem dL_areChanges_273 : decode cL_areChanges 273 = .ok (.iload 13, 2) := by decide +kernel
theorem dL_areChanges_275 : decode cL_areChanges 275 = .ok (.bipush 10, 2) := by decide +kernel
theorem dL_areChanges_277 : decode cL_areChanges 277 = .ok (.irem, 1) := by decide +kernel
theorem dL_areChanges_278 : decode cL_areChanges 278 = .ok (.invokevirtual 112, 3) := by decide +kernel
theorem dL_areChanges_281 : decode cL_areChanges 281 = .ok (.if_icmp .ne 7, 3) := by decide +kernel
theorem dL_areChanges_284 : decode cL_areChanges 284 = .ok (.iconst 1, 1) := by decide +kernel
theorem dL_areChanges_285 : decode cL_areChanges 285 = .ok (.goto 4, 3) := by decide +kernel
theorem dL_areChanges_288 : decode cL_areChanges 288 = .ok (.iconst 0, 1) := by decide +kernel
theorem dL_areChanges_289 : decode cL_areChanges 289 = .ok (.istore 12, 2) := by decide +kernel
theorem dL_areChanges_291 : decode cL_areChanges 291 = .ok (.iinc 13 1, 3) := by decide +kernel
theorem dL_areChanges_294 : decode cL_areChanges 294 = .ok (.goto (-57), 3) := by decide +kernel
theorem dL_areChanges_297 : decode cL_areChanges 297 = .ok (.iload 10, 2) := by decide +kernel
theorem dL_areChanges_299 : decode cL_areChanges 299 = .ok (.iload 6, 2) := by decide +kernel
theorem dL_areChanges_301 : decode cL_areChanges 301 = .ok (.if_icmp .ge 47, 3) := by decide +kernel
theorem dL_areChanges_304 : decode cL_areChanges 304 = .ok (.iload 7, 2) := by decide +kernel
theorem dL_areChanges_306 : decode cL_areChanges 306 = .ok (.iconst 2, 1) := by decide +kernel
theorem dL_areChanges_307 : decode cL_areChanges 307 = .ok (.if_icmp .ne 7, 3) := by decide +kernel
theorem dL_areChanges_310 : decode cL_areChanges 310 = .ok (.iconst 1, 1) := by decide +kernel
theorem dL_areChanges_311 : decode cL_areChanges 311 = .ok (.goto 4, 3) := by decide +kernel
theorem dL_areChanges_314 : decode cL_areChanges 314 = .ok (.iconst 0, 1) := by decide +kernel
theorem dL_areChanges_315 : decode cL_areChanges 315 = .ok (.iload 11, 2) := by decide +kernel
theorem dL_areChanges_317 : decode cL_areChanges 317 = .ok (.ifCond .eq 12, 3) := by decide +kernel
theorem dL_areChanges_320 : decode cL_areChanges 320 = .ok (.iload 12, 2) := by decide +kernel
theorem dL_areChanges_322 : decode cL_areChanges 322 = .ok (.ifCond .eq 7, 3) := by decide +kernel
theorem dL_areChanges_325 : decode cL_areChanges 325 = .ok (.iconst 1, 1) := by decide +kernel
theorem dL_areChanges_326 : decode cL_areChanges 326 = .ok (.goto 4, 3) := by decide +kernel
theorem dL_areChanges_329 : decode cL_areChanges 329 = .ok (.iconst 0, 1) := by decide +kernel
theorem dL_areChanges_330 : decode cL_areChanges 330 = .ok (.if_icmp .ne 18, 3) := by decide +kernel
theorem dL_areChanges_333 : decode cL_areChanges 333 = .ok (.iload 7, 2) := by decide +kernel
theorem dL_areChanges_335 : decode cL_areChanges 335 = .ok (.iconst 1, 1) := by decide +kernel
theorem dL_areChanges_336 : decode cL_areChanges 336 = .ok (.if_icmp .ne 8, 3) := by decide +kernel
theorem dL_areChanges_339 : decode cL_areChanges 339 = .ok (.iload 11, 2) := by decide +kernel
theorem dL_areChanges_341 : decode cL_areChanges 341 = .ok (.ifCond .ne 7, 3) := by decide +kernel
theorem dL_areChanges_344 : decode cL_areChanges 344 = .ok (.iconst 1, 1) := by decide +kernel
theorem dL_areChanges_345 : decode cL_areChanges 345 = .ok (.goto 4, 3) := by decide +kernel
theorem dL_areChanges_348 : decode cL_areChanges 348 = .ok (.iconst 0, 1) := by decide +kernel
theorem dL_areChanges_349 : decode cL_areChanges 349 = .ok (.istore_n 3, 1) := by decide +kernel
theorem dL_areChanges_350 : decode cL_areChanges 350 = .ok (.iconst 0, 1) := by decide +kernel
theorem dL_areChanges_351 : decode cL_areChanges 351 = .ok (.istore 13, 2) := by decide +kernel
theorem dL_areChanges_353 : decode cL_areChanges 353 = .ok (.iload 13, 2) := by decide +kernel
theorem dL_areChanges_355 : decode cL_areChanges 355 = .ok (.bipush 6, 2) := by decide +kernel
theorem dL_areChanges_357 : decode cL_areChanges 357 = .ok (.if_icmp .ge 75, 3) := by decide +kernel
theorem dL_areChanges_360 : decode cL_areChanges 360 = .ok (.iload_n 3, 1) := by decide +kernel
theorem dL_areChanges_361 : decode cL_areChanges 361 = .ok (.ifCond .eq 71, 3) := by decide +kernel
theorem dL_areChanges_364 : decode cL_areChanges 364 = .ok (.aload_n 0, 1) := by decide +kernel
theorem dL_areChanges_365 : decode cL_areChanges 365 = .ok (.iload 13, 2) := by decide +kernel
theorem dL_areChanges_367 : decode cL_areChanges 367 = .ok (.iload 4, 2) := by decide +kernel
theorem dL_areChanges_369 : decode cL_areChanges 369 = .ok (.iload 5, 2) := by decide +kernel
theorem dL_areChanges_371 : decode cL_areChanges 371 = .ok (.iconst 0, 1) := by decide +kernel
theorem dL_areChanges_372 : decode cL_areChanges 372 = .ok (.invokevirtual 142, 3) := by decide +kernel
theorem dL_areChanges_375 : decode cL_areChanges 375 = .ok (.istore 14, 2) := by decide +kernel
theorem dL_areChanges_377 : decode cL_areChanges 377 = .ok (.iload 14, 2) := by decide +kernel
theorem dL_areChanges_379 : decode cL_areChanges 379 = .ok (.bipush (-2), 2) := by decide +kernel
theorem dL_areChanges_381 : decode cL_areChanges 381 = .ok (.if_icmp .lt 43, 3) := by decide +kernel
theorem dL_areChanges_384 : decode cL_areChanges 384 = .ok (.iload 14, 2) := by decide +kernel
theorem dL_areChanges_386 : decode cL_areChanges 386 = .ok (.iconst 2, 1) := by decide +kernel
theorem dL_areChanges_387 : decode cL_areChanges 387 = .ok (.if_icmp .gt 37, 3) := by decide +kernel
theorem dL_areChanges_390 : decode cL_areChanges 390 = .ok (.aload_n 0, 1) := by decide +kernel
theorem dL_areChanges_391 : decode cL_areChanges 391 = .ok (.iload 13, 2) := by decide +kernel
theorem dL_areChanges_393 : decode cL_areChanges 393 = .ok (.iload 4, 2) := by decide +kernel
theorem dL_areChanges_395 : decode cL_areChanges 395 = .ok (.iload 5, 2) := by decide +kernel
theorem dL_areChanges_397 : decode cL_areChanges 397 = .ok (.iconst 1, 1) := by decide +kernel
theorem dL_areChanges_398 : decode cL_areChanges 398 = .ok (.invokevirtual 142, 3) := by decide +kernel
theorem dL_areChanges_401 : decode cL_areChanges 401 = .ok (.iconst 1, 1) := by decide +kernel
theorem dL_areChanges_402 : decode cL_areChanges 402 = .ok (.if_icmp .gt 22, 3) := by decide +kernel
theorem dL_areChanges_405 : decode cL_areChanges 405 = .ok (.aload_n 0, 1) := by decide +kernel
theorem dL_areChanges_406 : decode cL_areChanges 406 = .ok (.iload 13, 2) := by decide +kernel
theorem dL_areChanges_408 : decode cL_areChanges 408 = .ok (.iload 4, 2) := by decide +kernel
theorem dL_areChanges_410 : decode cL_areChanges 410 = .ok (.iload 5, 2) := by decide +kernel
theorem dL_areChanges_412 : decode cL_areChanges 412 = .ok (.iconst 1, 1) := by decide +kernel
theorem dL_areChanges_413 : decode cL_areChanges 413 = .ok (.invokevirtual 142, 3) := by decide +kernel
theorem dL_areChanges_416 : decode cL_areChanges 416 = .ok (.iconst (-1), 1) := by decide +kernel
theorem dL_areChanges_417 : decode cL_areChanges 417 = .ok (.if_icmp .lt 7, 3) := by decide +kernel
theorem dL_areChanges_420 : decode cL_areChanges 420 = .ok (.iconst 1, 1) := by decide +kernel
theorem dL_areChanges_421 : decode cL_areChanges 421 = .ok (.goto 4, 3) := by decide +kernel
theorem dL_areChanges_424 : decode cL_areChanges 424 = .ok (.iconst 0, 1) := by decide +kernel
theorem dL_areChanges_425 : decode cL_areChanges 425 = .ok (.istore_n 3, 1) := by decide +kernel
theorem dL_areChanges_426 : decode cL_areChanges 426 = .ok (.iinc 13 1, 3) := by decide +kernel
theorem dL_areChanges_429 : decode cL_areChanges 429 = .ok (.goto (-76), 3) := by decide +kernel
theorem dL_areChanges_432 : decode cL_areChanges 432 = .ok (.iload_n 3, 1) := by decide +kernel
theorem dL_areChanges_433 : decode cL_areChanges 433 = .ok (.ifCond .eq 17, 3) := by decide +kernel
theorem dL_areChanges_436 : decode cL_areChanges 436 = .ok (.aload_n 0, 1) := by decide +kernel
theorem dL_areChanges_437 : decode cL_areChanges 437 = .ok (.aload_n 1, 1) := by decide +kernel
theorem dL_areChanges_438 : decode cL_areChanges 438 = .ok (.iload 4, 2) := by decide +kernel
theorem dL_areChanges_440 : decode cL_areChanges 440 = .ok (.invokestatic 233, 3) := by decide +kernel
theorem dL_areChanges_443 : decode cL_areChanges 443 = .ok (.ifCond .eq 7, 3) := by decide +kernel
theorem dL_areChanges_446 : decode cL_areChanges 446 = .ok (.iconst 1, 1) := by decide +kernel
theorem dL_areChanges_447 : decode cL_areChanges 447 = .ok (.goto 4, 3) := by decide +kernel
theorem dL_areChanges_450 : decode cL_areChanges 450 = .ok (.iconst 0, 1) := by decide +kernel
theorem dL_areChanges_451 : decode cL_areChanges 451 = .ok (.istore_n 3, 1) := by decide +kernel
theorem dL_areChanges_452 : decode cL_areChanges 452 = .ok (.iinc 4 1, 3) := by decide +kernel
theorem dL_areChanges_455 : decode cL_areChanges 455 = .ok (.goto (-450), 3) := by decide +kernel
theorem dL_areChanges_458 : decode cL_areChanges 458 = .ok (.iload_n 3, 1) := by decide +kernel
theorem dL_areChanges_459 : decode cL_areChanges 459 = .ok (.ireturn, 1) := by decide +kernel
theorem dL_isLanded_0 : decode cL_isLanded 0 = .ok (.aload_n 0, 1) := by decide +kernel
theorem dL_isLanded_1 : decode cL_isLanded 1 = .ok (.bipush 12, 2) := by decide +kernel
theorem dL_isLanded_3 : decode cL_isLanded 3 = .ok (.iload_n 2, 1) := by decide +kernel
theorem dL_isLanded_4 : decode cL_isLanded 4 = .ok (.iconst 0, 1) := by decide +kernel
theorem dL_isLanded_5 : decode cL_isLanded 5 = .ok (.iconst 0, 1) := by decide +kernel
theorem dL_isLanded_6 : decode cL_isLanded 6 = .ok (.iconst 0, 1) := by decide +kernel
theorem dL_isLanded_7 : decode cL_isLanded 7 = .ok (.invokestatic 218, 3) := by decide +kernel
theorem dL_isLanded_10 : decode cL_isLanded 10 = .ok (.istore_n 3, 1) := by decide +kernel
theorem dL_isLanded_11 : decode cL_isLanded 11 = .ok (.aload_n 0, 1) := by decide +kernel
theorem dL_isLanded_12 : decode cL_isLanded 12 = .ok (.invokestatic 237, 3) := by decide +kernel
theorem dL_isLanded_15 : decode cL_isLanded 15 = .ok (.lstore 4, 2) := by decide +kernel
theorem dL_isLanded_17 : decode cL_isLanded 17 = .ok (.aload_n 0, 1) := by decide +kernel
theorem dL_isLanded_18 : decode cL_isLanded 18 = .ok (.invokevirtual 181, 3) := by decide +kernel
theorem dL_isLanded_21 : decode cL_isLanded 21 = .ok (.istore 6, 2) := by decide +kernel
theorem dL_isLanded_23 : decode cL_isLanded 23 = .ok (.aload_n 0, 1) := by decide +kernel
theorem dL_isLanded_24 : decode cL_isLanded 24 = .ok (.iconst 0, 1) := by decide +kernel
theorem dL_isLanded_25 : decode cL_isLanded 25 = .ok (.invokevirtual 118, 3) := by decide +kernel
theorem dL_isLanded_28 : decode cL_isLanded 28 = .ok (.istore 7, 2) := by decide +kernel
theorem dL_isLanded_30 : decode cL_isLanded 30 = .ok (.aload_n 0, 1) := by decide +kernel
theorem dL_isLanded_31 : decode cL_isLanded 31 = .ok (.iconst 1, 1) := by decide +kernel
theorem dL_isLanded_32 : decode cL_isLanded 32 = .ok (.invokevirtual 118, 3) := by decide +kernel
theorem dL_isLanded_35 : decode cL_isLanded 35 = .ok (.istore 8, 2) := by decide +kernel
theorem dL_isLanded_37 : decode cL_isLanded 37 = .ok (.aload_n 0, 1) := by decide +kernel
theorem dL_isLanded_38 : decode cL_isLanded 38 = .ok (.bipush 20, 2) := by decide +kernel
theorem dL_isLanded_40 : decode cL_isLanded 40 = .ok (.iload_n 1, 1) := by decide +kernel
theorem dL_isLanded_41 : decode cL_isLanded 41 = .ok (.iload_n 2, 1) := by decide +kernel
theorem dL_isLanded_42 : decode cL_isLanded 42 = .ok (.iconst 0, 1) := by decide +kernel
theorem dL_isLanded_43 : decode cL_isLanded 43 = .ok (.iconst 0, 1) := by decide +kernel
theorem dL_isLanded_44 : decode cL_isLanded 44 = .ok (.iconst 0, 1) := by decide +kernel
theorem dL_isLanded_45 : decode cL_isLanded 45 = .ok (.invokestatic 241, 3) := by decide +kernel
theorem dL_isLanded_48 : decode cL_isLanded 48 = .ok (.istore 9, 2) := by decide +kernel
theorem dL_isLanded_50 : decode cL_isLanded 50 = .ok (.iload 9, 2) := by decide +kernel
theorem dL_isLanded_52 : decode cL_isLanded 52 = .ok (.ifCond .gt 38, 3) := by decide +kernel
theorem dL_isLanded_55 : decode cL_isLanded 55 = .ok (.aload_n 0, 1) := by decide +kernel
theorem dL_isLanded_56 : decode cL_isLanded 56 = .ok (.invokestatic 237, 3) := by decide +kernel
theorem dL_isLanded_59 : decode cL_isLanded 59 = .ok (.lload 4, 2) := by decide +kernel
theorem dL_isLanded_61 : decode cL_isLanded 61 = .ok (.lcmp, 1) := by decide +kernel
theorem dL_isLanded_62 : decode cL_isLanded 62 = .ok (.ifCond .ne 26, 3) := by decide +kernel
theorem dL_isLanded_65 : decode cL_isLanded 65 = .ok (.iload 9, 2) := by decide +kernel
theorem dL_isLanded_67 : decode cL_isLanded 67 = .ok (.ifCond .eq 17, 3) := by decide +kernel
theorem dL_isLanded_70 : decode cL_isLanded 70 = .ok (.iload 9, 2) := by decide +kernel
theorem dL_isLanded_72 : decode cL_isLanded 72 = .ok (.iconst (-1), 1) := by decide +kernel
theorem dL_isLanded_73 : decode cL_isLanded 73 = .ok (.if_icmp .eq 11, 3) := by decide +kernel
theorem dL_isLanded_76 : decode cL_isLanded 76 = .ok (.iload 9, 2) := by decide +kernel
theorem dL_isLanded_78 : decode cL_isLanded 78 = .ok (.sipush (-1263), 3) := by decide +kernel
theorem dL_isLanded_81 : decode cL_isLanded 81 = .ok (.if_icmp .ne 7, 3) := by decide +kernel
theorem dL_isLanded_84 : decode cL_isLanded 84 = .ok (.iconst 1, 1) := by decide +kernel
theorem dL_isLanded_85 : decode cL_isLanded 85 = .ok (.goto 4, 3) := by decide +kernel
theorem dL_isLanded_88 : decode cL_isLanded 88 = .ok (.iconst 0, 1) := by decide +kernel
theorem dL_isLanded_89 : decode cL_isLanded 89 = .ok (.ireturn, 1) := by decide +kernel
theorem dL_isLanded_90 : decode cL_isLanded 90 = .ok (.iconst 0, 1) := by decide +kernel
theorem dL_isLanded_91 : decode cL_isLanded 91 = .ok (.istore 10, 2) := by decide +kernel
theorem dL_isLanded_93 : decode cL_isLanded 93 = .ok (.iconst 0, 1) := by decide +kernel
theorem dL_isLanded_94 : decode cL_isLanded 94 = .ok (.istore 11, 2) := by decide +kernel
theorem dL_isLanded_96 : decode cL_isLanded 96 = .ok (.iconst 1, 1) := by decide +kernel
theorem dL_isLanded_97 : decode cL_isLanded 97 = .ok (.istore 12, 2) := by decide +kernel
theorem dL_isLanded_99 : decode cL_isLanded 99 = .ok (.iconst 0, 1) := by decide +kernel
theorem dL_isLanded_100 : decode cL_isLanded 100 = .ok (.istore 13, 2) := by decide +kernel
theorem dL_isLanded_102 : decode cL_isLanded 102 = .ok (.iload 13, 2) := by decide +kernel
theorem dL_isLanded_104 : decode cL_isLanded 104 = .ok (.aload_n 0, 1) := by decide +kernel
theorem dL_isLanded_105 : decode cL_isLanded 105 = .ok (.invokevirtual 187, 3) := by decide +kernel
theorem dL_isLanded_108 : decode cL_isLanded 108 = .ok (.if_icmp .ge 77, 3) := by decide +kernel
theorem dL_isLanded_111 : decode cL_isLanded 111 = .ok (.iload_n 3, 1) := by decide +kernel
theorem dL_isLanded_112 : decode cL_isLanded 112 = .ok (.iload 13, 2) := by decide +kernel
theorem dL_isLanded_114 : decode cL_isLanded 114 = .ok (.ishr, 1) := by decide +kernel
theorem dL_isLanded_115 : decode cL_isLanded 115 = .ok (.iconst 1, 1) := by decide +kernel
theorem dL_isLanded_116 : decode cL_isLanded 116 = .ok (.iand, 1) := by decide +kernel
theorem dL_isLanded_117 : decode cL_isLanded 117 = .ok (.iconst 1, 1) := by decide +kernel
theorem dL_isLanded_118 : decode cL_isLanded 118 = .ok (.if_icmp .ne 7, 3) := by decide +kernel
theorem dL_isLanded_121 : decode cL_isLanded 121 = .ok (.iconst 1, 1) := by decide +kernel
theorem dL_isLanded_122 : decode cL_isLanded 122 = .ok (.goto 4, 3) := by decide +kernel
theorem dL_isLanded_125 : decode cL_isLanded 125 = .ok (.iconst 0, 1) := by decide +kernel
theorem dL_isLanded_126 : decode cL_isLanded 126 = .ok (.istore 14, 2) := by decide +kernel
theorem dL_isLanded_128 : decode cL_isLanded 128 = .ok (.iload 10, 2) := by decide +kernel
theorem dL_isLanded_130 : decode cL_isLanded 130 = .ok (.iload 14, 2) := by decide +kernel
theorem dL_isLanded_132 : decode cL_isLanded 132 = .ok (.ifCond .eq 7, 3) := by decide +kernel
theorem dL_isLanded_135 : decode cL_isLanded 135 = .ok (.iconst 1, 1) := by decide +kernel
theorem dL_isLanded_136 : decode cL_isLanded 136 = .ok (.goto 4, 3) := by decide +kernel
theorem dL_isLanded_139 : decode cL_isLanded 139 = .ok (.iconst 0, 1) := by decide +kernel
theorem dL_isLanded_140 : decode cL_isLanded 140 = .ok (.iadd, 1) := by decide +kernel
theorem dL_isLanded_141 : decode cL_isLanded 141 = .ok (.istore 10, 2) := by decide +kernel
theorem dL_isLanded_143 : decode cL_isLanded 143 = .ok (.iload 12, 2) := by decide +kernel
theorem dL_isLanded_145 : decode cL_isLanded 145 = .ok (.ifCond .eq 31, 3) := by decide +kernel
theorem dL_isLanded_148 : decode cL_isLanded 148 = .ok (.iload 14, 2) := by decide +kernel
theorem dL_isLanded_150 : decode cL_isLanded 150 = .ok (.ifCond .eq 22, 3) := by decide +kernel
theorem dL_isLanded_153 : decode cL_isLanded 153 = .ok (.aload_n 0, 1) := by decide +kernel
theorem dL_isLanded_154 : decode cL_isLanded 154 = .ok (.iload 13, 2) := by decide +kernel
theorem dL_isLanded_156 : decode cL_isLanded 156 = .ok (.invokevirtual 124, 3) := by decide +kernel
theorem dL_isLanded_159 : decode cL_isLanded 159 = .ok (.iconst 1, 1) := by decide +kernel
theorem dL_isLanded_160 : decode cL_isLanded 160 = .ok (.if_icmp .ne 16, 3) := by decide +kernel
theorem dL_isLanded_163 : decode cL_isLanded 163 = .ok (.aload_n 0, 1) := by decide +kernel
theorem dL_isLanded_164 : decode cL_isLanded 164 = .ok (.iload 13, 2) := by decide +kernel
theorem dL_isLanded_166 : decode cL_isLanded 166 = .ok (.invokevirtual 155, 3) := by decide +kernel
theorem dL_isLanded_169 : decode cL_isLanded 169 = .ok (.ifCond .ne 7, 3) := by decide +kernel
theorem dL_isLanded_172 : decode cL_isLanded 172 = .ok (.iconst 1, 1) := by decide +kernel
theorem dL_isLanded_173 : decode cL_isLanded 173 = .ok (.goto 4, 3) := by decide +kernel
theorem dL_isLanded_176 : decode cL_isLanded 176 = .ok (.iconst 0, 1) := by decide +kernel
theorem dL_isLanded_177 : decode cL_isLanded 177 = .ok (.istore 12, 2) := by decide +kernel
theorem dL_isLanded_179 : decode cL_isLanded 179 = .ok (.iinc 13 1, 3) := by decide +kernel
theorem dL_isLanded_182 : decode cL_isLanded 182 = .ok (.goto (-80), 3) := by decide +kernel
theorem dL_isLanded_185 : decode cL_isLanded 185 = .ok (.iconst 0, 1) := by decide +kernel
theorem dL_isLanded_186 : decode cL_isLanded 186 = .ok (.istore 13, 2) := by decide +kernel
theorem dL_isLanded_188 : decode cL_isLanded 188 = .ok (.iload 13, 2) := by decide +kernel
theorem dL_isLanded_190 : decode cL_isLanded 190 = .ok (.iconst 2, 1) := by decide +kernel
theorem dL_isLanded_191 : decode cL_isLanded 191 = .ok (.if_icmp .ge 132, 3) := by decide +kernel
theorem dL_isLanded_194 : decode cL_isLanded 194 = .ok (.iload 12, 2) := by decide +kernel
theorem dL_isLanded_196 : decode cL_isLanded 196 = .ok (.ifCond .eq 127, 3) := by decide +kernel
theorem dL_isLanded_199 : decode cL_isLanded 199 = .ok (.aload_n 0, 1) := by decide +kernel
theorem dL_isLanded_200 : decode cL_isLanded 200 = .ok (.iload 13, 2) := by decide +kernel
theorem dL_isLanded_202 : decode cL_isLanded 202 = .ok (.invokevirtual 118, 3) := by decide +kernel
theorem dL_isLanded_205 : decode cL_isLanded 205 = .ok (.istore 14, 2) := by decide +kernel
theorem dL_isLanded_207 : decode cL_isLanded 207 = .ok (.iload 14, 2) := by decide +kernel
theorem dL_isLanded_209 : decode cL_isLanded 209 = .ok (.iload 13, 2) := by decide +kernel
theorem dL_isLanded_211 : decode cL_isLanded 211 = .ok (.ifCond .ne 8, 3) := by decide +kernel
theorem dL_isLanded_214 : decode cL_isLanded 214 = .ok (.iload 7, 2) := by decide +kernel
theorem dL_isLanded_216 : decode cL_isLanded 216 = .ok (.goto 5, 3) := by decide +kernel
theorem dL_isLanded_219 : decode cL_isLanded 219 = .ok (.iload 8, 2) := by decide +kernel
theorem dL_isLanded_221 : decode cL_isLanded 221 = .ok (.if_icmp .eq 79, 3) := by decide +kernel
theorem dL_isLanded_224 : decode cL_isLanded 224 = .ok (.iload 14, 2) := by decide +kernel
theorem dL_isLanded_226 : decode cL_isLanded 226 = .ok (.ifCond .lt 74, 3) := by decide +kernel
theorem dL_isLanded_229 : decode cL_isLanded 229 = .ok (.iload 12, 2) := by decide +kernel
theorem dL_isLanded_231 : decode cL_isLanded 231 = .ok (.ifCond .eq 69, 3) := by decide +kernel
theorem dL_isLanded_234 : decode cL_isLanded 234 = .ok (.aload_n 0, 1) := by decide +kernel
theorem dL_isLanded_235 : decode cL_isLanded 235 = .ok (.iload 14, 2) := by decide +kernel
theorem dL_isLanded_237 : decode cL_isLanded 237 = .ok (.invokevirtual 121, 3) := by decide +kernel
theorem dL_isLanded_240 : decode cL_isLanded 240 = .ok (.ifCond .lt 43, 3) := by decide +kernel
theorem dL_isLanded_243 : decode cL_isLanded 243 = .ok (.iload_n 3, 1) := by decide +kernel
theorem dL_isLanded_244 : decode cL_isLanded 244 = .ok (.aload_n 0, 1) := by decide +kernel
theorem dL_isLanded_245 : decode cL_isLanded 245 = .ok (.iload 14, 2) := by decide +kernel
theorem dL_isLanded_247 : decode cL_isLanded 247 = .ok (.invokevirtual 121, 3) := by decide +kernel
theorem dL_isLanded_250 : decode cL_isLanded 250 = .ok (.ishr, 1) := by decide +kernel
theorem dL_isLanded_251 : decode cL_isLanded 251 = .ok (.iconst 1, 1) := by decide +kernel
theorem dL_isLanded_252 : decode cL_isLanded 252 = .ok (.iand, 1) := by decide +kernel
theorem dL_isLanded_253 : decode cL_isLanded 253 = .ok (.iconst 1, 1) := by decide +kernel
theorem dL_isLanded_254 : decode cL_isLanded 254 = .ok (.if_icmp .ne 29, 3) := by decide +kernel
theorem dL_isLanded_257 : decode cL_isLanded 257 = .ok (.iload 14, 2) := by decide +kernel
theorem dL_isLanded_259 : decode cL_isLanded 259 = .ok (.iload 6, 2) := by decide +kernel
theorem dL_isLanded_261 : decode cL_isLanded 261 = .ok (.if_icmp .ge 18, 3) := by decide +kernel
theorem dL_isLanded_264 : decode cL_isLanded 264 = .ok (.iload 14, 2) := by decide +kernel
theorem dL_isLanded_266 : decode cL_isLanded 266 = .ok (.aload_n 0, 1) := by decide +kernel
theorem dL_isLanded_267 : decode cL_isLanded 267 = .ok (.aload_n 0, 1) := by decide +kernel
theorem dL_isLanded_268 : decode cL_isLanded 268 = .ok (.iload 14, 2) := by decide +kernel
theorem dL_isLanded_270 : decode cL_isLanded 270 = .ok (.invokevirtual 121, 3) := by decide +kernel
theorem dL_isLanded_273 : decode cL_isLanded 273 = .ok (.invokestatic 222, 3) := by decide +kernel
theorem dL_isLanded_276 : decode cL_isLanded 276 = .ok (.if_icmp .ne 7, 3) := by decide +kernel
theorem dL_isLanded_279 : decode cL_isLanded 279 = .ok (.iconst 1, 1) := by decide +kernel
theorem dL_isLanded_280 : decode cL_isLanded 280 = .ok (.goto 4, 3) := by decide +kernel
theorem dL_isLanded_283 : decode cL_isLanded 283 = .ok (.iconst 0, 1) := by decide +kernel
theorem dL_isLanded_284 : decode cL_isLanded 284 = .ok (.istore 12, 2) := by decide +kernel
theorem dL_isLanded_286 : decode cL_isLanded 286 = .ok (.iinc 11 1, 3) := by decide +kernel
theorem dL_isLanded_289 : decode cL_isLanded 289 = .ok (.aload_n 0, 1) := by decide +kernel
theorem dL_isLanded_290 : decode cL_isLanded 290 = .ok (.iload 14, 2) := by decide +kernel
theorem dL_isLanded_292 : decode cL_isLanded 292 = .ok (.invokevirtual 115, 3) := by decide +kernel
theorem dL_isLanded_295 : decode cL_isLanded 295 = .ok (.istore 14, 2) := by decide +kernel
theorem dL_isLanded_297 : decode cL_isLanded 297 = .ok (.goto (-90), 3) := by decide +kernel
theorem dL_isLanded_300 : decode cL_isLanded 300 = .ok (.iload 12, 2) := by decide +kernel
theorem dL_isLanded_302 : decode cL_isLanded 302 = .ok (.ifCond .eq 12, 3) := by decide +kernel
theorem dL_isLanded_305 : decode cL_isLanded 305 = .ok (.iload 14, 2) := by decide +kernel
theorem dL_isLanded_307 : decode cL_isLanded 307 = .ok (.ifCond .lt 7, 3) := by decide +kernel
theorem dL_isLanded_310 : decode cL_isLanded 310 = .ok (.iconst 1, 1) := by decide +kernel
theorem dL_isLanded_311 : decode cL_isLanded 311 = .ok (.goto 4, 3) := by decide +kernel
theorem dL_isLanded_314 : decode cL_isLanded 314 = .ok (.iconst 0, 1) := by decide +kernel
theorem dL_isLanded_315 : decode cL_isLanded 315 = .ok (.istore 12, 2) := by decide +kernel
theorem dL_isLanded_317 : decode cL_isLanded 317 = .ok (.iinc 13 1, 3) := by decide +kernel
theorem dL_isLanded_320 : decode cL_isLanded 320 = .ok (.goto (-132), 3) := by decide +kernel
theorem dL_isLanded_323 : decode cL_isLanded 323 = .ok (.iload 12, 2) := by decide +kernel
theorem dL_isLanded_325 : decode cL_isLanded 325 = .ok (.ifCond .eq 39, 3) := by decide +kernel
theorem dL_isLanded_328 : decode cL_isLanded 328 = .ok (.iload 9, 2) := by decide +kernel
theorem dL_isLanded_330 : decode cL_isLanded 330 = .ok (.iload 10, 2) := by decide +kernel
theorem dL_isLanded_332 : decode cL_isLanded 332 = .ok (.if_icmp .ne 32, 3) := by decide +kernel
theorem dL_isLanded_335 : decode cL_isLanded 335 = .ok (.iload 11, 2) := by decide +kernel
theorem dL_isLanded_337 : decode cL_isLanded 337 = .ok (.iconst 1, 1) := by decide +kernel
theorem dL_isLanded_338 : decode cL_isLanded 338 = .ok (.if_icmp .lt 26, 3) := by decide +kernel
theorem dL_isLanded_341 : decode cL_isLanded 341 = .ok (.iload 11, 2) := by decide +kernel
theorem dL_isLanded_343 : decode cL_isLanded 343 = .ok (.iload 10, 2) := by decide +kernel
theorem dL_isLanded_345 : decode cL_isLanded 345 = .ok (.if_icmp .gt 19, 3) := by decide +kernel
theorem dL_isLanded_348 : decode cL_isLanded 348 = .ok (.aload_n 0, 1) := by decide +kernel
theorem dL_isLanded_349 : decode cL_isLanded 349 = .ok (.invokevirtual 181, 3) := by decide +kernel
theorem dL_isLanded_352 : decode cL_isLanded 352 = .ok (.iload 6, 2) := by decide +kernel
theorem dL_isLanded_354 : decode cL_isLanded 354 = .ok (.iload 11, 2) := by decide +kernel
theorem dL_isLanded_356 : decode cL_isLanded 356 = .ok (.iadd, 1) := by decide +kernel
theorem dL_isLanded_357 : decode cL_isLanded 357 = .ok (.if_icmp .gt 7, 3) := by decide +kernel
theorem dL_isLanded_360 : decode cL_isLanded 360 = .ok (.iconst 1, 1) := by decide +kernel
theorem dL_isLanded_361 : decode cL_isLanded 361 = .ok (.goto 4, 3) := by decide +kernel
theorem dL_isLanded_364 : decode cL_isLanded 364 = .ok (.iconst 0, 1) := by decide +kernel
theorem dL_isLanded_365 : decode cL_isLanded 365 = .ok (.ireturn, 1) := by decide +kernel
