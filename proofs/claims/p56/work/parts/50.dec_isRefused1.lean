theorem dL_isRefused_0 : decode cL_isRefused 0 = .ok (.iload_n 3, 1) := by decide +kernel
theorem dL_isRefused_1 : decode cL_isRefused 1 = .ok (.iconst 2, 1) := by decide +kernel
theorem dL_isRefused_2 : decode cL_isRefused 2 = .ok (.irem, 1) := by decide +kernel
theorem dL_isRefused_3 : decode cL_isRefused 3 = .ok (.ifCond .ne 7, 3) := by decide +kernel
theorem dL_isRefused_6 : decode cL_isRefused 6 = .ok (.iconst 1, 1) := by decide +kernel
theorem dL_isRefused_7 : decode cL_isRefused 7 = .ok (.goto 4, 3) := by decide +kernel
theorem dL_isRefused_10 : decode cL_isRefused 10 = .ok (.iconst 0, 1) := by decide +kernel
theorem dL_isRefused_11 : decode cL_isRefused 11 = .ok (.istore 4, 2) := by decide +kernel
theorem dL_isRefused_13 : decode cL_isRefused 13 = .ok (.iload 4, 2) := by decide +kernel
theorem dL_isRefused_15 : decode cL_isRefused 15 = .ok (.ifCond .eq 12, 3) := by decide +kernel
theorem dL_isRefused_18 : decode cL_isRefused 18 = .ok (.iconst (-1), 1) := by decide +kernel
theorem dL_isRefused_19 : decode cL_isRefused 19 = .ok (.iload_n 3, 1) := by decide +kernel
theorem dL_isRefused_20 : decode cL_isRefused 20 = .ok (.bipush 30, 2) := by decide +kernel
theorem dL_isRefused_22 : decode cL_isRefused 22 = .ok (.irem, 1) := by decide +kernel
theorem dL_isRefused_23 : decode cL_isRefused 23 = .ok (.isub, 1) := by decide +kernel
theorem dL_isRefused_24 : decode cL_isRefused 24 = .ok (.goto 10, 3) := by decide +kernel
theorem dL_isRefused_27 : decode cL_isRefused 27 = .ok (.bipush 6, 2) := by decide +kernel
theorem dL_isRefused_29 : decode cL_isRefused 29 = .ok (.iload_n 3, 1) := by decide +kernel
theorem dL_isRefused_30 : decode cL_isRefused 30 = .ok (.bipush 30, 2) := by decide +kernel
theorem dL_isRefused_32 : decode cL_isRefused 32 = .ok (.irem, 1) := by decide +kernel
theorem dL_isRefused_33 : decode cL_isRefused 33 = .ok (.iadd, 1) := by decide +kernel
theorem dL_isRefused_34 : decode cL_isRefused 34 = .ok (.istore 5, 2) := by decide +kernel
theorem dL_isRefused_36 : decode cL_isRefused 36 = .ok (.iload 4, 2) := by decide +kernel
theorem dL_isRefused_38 : decode cL_isRefused 38 = .ok (.ifCond .eq 12, 3) := by decide +kernel
theorem dL_isRefused_41 : decode cL_isRefused 41 = .ok (.iconst (-1), 1) := by decide +kernel
theorem dL_isRefused_42 : decode cL_isRefused 42 = .ok (.iload_n 3, 1) := by decide +kernel
theorem dL_isRefused_43 : decode cL_isRefused 43 = .ok (.bipush 30, 2) := by decide +kernel
theorem dL_isRefused_45 : decode cL_isRefused 45 = .ok (.irem, 1) := by decide +kernel
theorem dL_isRefused_46 : decode cL_isRefused 46 = .ok (.isub, 1) := by decide +kernel
theorem dL_isRefused_47 : decode cL_isRefused 47 = .ok (.goto 12, 3) := by decide +kernel
theorem dL_isRefused_50 : decode cL_isRefused 50 = .ok (.aload_n 0, 1) := by decide +kernel
theorem dL_isRefused_51 : decode cL_isRefused 51 = .ok (.invokevirtual 187, 3) := by decide +kernel
theorem dL_isRefused_54 : decode cL_isRefused 54 = .ok (.iload_n 3, 1) := by decide +kernel
theorem dL_isRefused_55 : decode cL_isRefused 55 = .ok (.bipush 30, 2) := by decide +kernel
theorem dL_isRefused_57 : decode cL_isRefused 57 = .ok (.irem, 1) := by decide +kernel
theorem dL_isRefused_58 : decode cL_isRefused 58 = .ok (.iadd, 1) := by decide +kernel
theorem dL_isRefused_59 : decode cL_isRefused 59 = .ok (.istore 6, 2) := by decide +kernel
theorem dL_isRefused_61 : decode cL_isRefused 61 = .ok (.iload 4, 2) := by decide +kernel
theorem dL_isRefused_63 : decode cL_isRefused 63 = .ok (.ifCond .eq 13, 3) := by decide +kernel
theorem dL_isRefused_66 : decode cL_isRefused 66 = .ok (.bipush (-2), 2) := by decide +kernel
theorem dL_isRefused_68 : decode cL_isRefused 68 = .ok (.iload_n 3, 1) := by decide +kernel
theorem dL_isRefused_69 : decode cL_isRefused 69 = .ok (.bipush 30, 2) := by decide +kernel
theorem dL_isRefused_71 : decode cL_isRefused 71 = .ok (.irem, 1) := by decide +kernel
theorem dL_isRefused_72 : decode cL_isRefused 72 = .ok (.isub, 1) := by decide +kernel
theorem dL_isRefused_73 : decode cL_isRefused 73 = .ok (.goto 12, 3) := by decide +kernel
theorem dL_isRefused_76 : decode cL_isRefused 76 = .ok (.aload_n 0, 1) := by decide +kernel
theorem dL_isRefused_77 : decode cL_isRefused 77 = .ok (.invokevirtual 181, 3) := by decide +kernel
theorem dL_isRefused_80 : decode cL_isRefused 80 = .ok (.iload_n 3, 1) := by decide +kernel
theorem dL_isRefused_81 : decode cL_isRefused 81 = .ok (.bipush 30, 2) := by decide +kernel
theorem dL_isRefused_83 : decode cL_isRefused 83 = .ok (.irem, 1) := by decide +kernel
theorem dL_isRefused_84 : decode cL_isRefused 84 = .ok (.iadd, 1) := by decide +kernel
theorem dL_isRefused_85 : decode cL_isRefused 85 = .ok (.istore 7, 2) := by decide +kernel
theorem dL_isRefused_87 : decode cL_isRefused 87 = .ok (.iload 4, 2) := by decide +kernel
theorem dL_isRefused_89 : decode cL_isRefused 89 = .ok (.ifCond .eq 12, 3) := by decide +kernel
theorem dL_isRefused_92 : decode cL_isRefused 92 = .ok (.iconst (-1), 1) := by decide +kernel
theorem dL_isRefused_93 : decode cL_isRefused 93 = .ok (.iload_n 3, 1) := by decide +kernel
theorem dL_isRefused_94 : decode cL_isRefused 94 = .ok (.bipush 30, 2) := by decide +kernel
theorem dL_isRefused_96 : decode cL_isRefused 96 = .ok (.irem, 1) := by decide +kernel
theorem dL_isRefused_97 : decode cL_isRefused 97 = .ok (.isub, 1) := by decide +kernel
theorem dL_isRefused_98 : decode cL_isRefused 98 = .ok (.goto 9, 3) := by decide +kernel
theorem dL_isRefused_101 : decode cL_isRefused 101 = .ok (.iconst 4, 1) := by decide +kernel
theorem dL_isRefused_102 : decode cL_isRefused 102 = .ok (.iload_n 3, 1) := by decide +kernel
theorem dL_isRefused_103 : decode cL_isRefused 103 = .ok (.bipush 30, 2) := by decide +kernel
theorem dL_isRefused_105 : decode cL_isRefused 105 = .ok (.irem, 1) := by decide +kernel
theorem dL_isRefused_106 : decode cL_isRefused 106 = .ok (.iadd, 1) := by decide +kernel
theorem dL_isRefused_107 : decode cL_isRefused 107 = .ok (.istore 8, 2) := by decide +kernel
theorem dL_isRefused_109 : decode cL_isRefused 109 = .ok (.iload 4, 2) := by decide +kernel
theorem dL_isRefused_111 : decode cL_isRefused 111 = .ok (.ifCond .eq 12, 3) := by decide +kernel
theorem dL_isRefused_114 : decode cL_isRefused 114 = .ok (.iconst (-1), 1) := by decide +kernel
theorem dL_isRefused_115 : decode cL_isRefused 115 = .ok (.iload_n 3, 1) := by decide +kernel
theorem dL_isRefused_116 : decode cL_isRefused 116 = .ok (.bipush 30, 2) := by decide +kernel
theorem dL_isRefused_118 : decode cL_isRefused 118 = .ok (.irem, 1) := by decide +kernel
theorem dL_isRefused_119 : decode cL_isRefused 119 = .ok (.isub, 1) := by decide +kernel
theorem dL_isRefused_120 : decode cL_isRefused 120 = .ok (.goto 9, 3) := by decide +kernel
theorem dL_isRefused_123 : decode cL_isRefused 123 = .ok (.iconst 2, 1) := by decide +kernel
theorem dL_isRefused_124 : decode cL_isRefused 124 = .ok (.iload_n 3, 1) := by decide +kernel
theorem dL_isRefused_125 : decode cL_isRefused 125 = .ok (.bipush 30, 2) := by decide +kernel
theorem dL_isRefused_127 : decode cL_isRefused 127 = .ok (.irem, 1) := by decide +kernel
theorem dL_isRefused_128 : decode cL_isRefused 128 = .ok (.iadd, 1) := by decide +kernel
theorem dL_isRefused_129 : decode cL_isRefused 129 = .ok (.istore 9, 2) := by decide +kernel
theorem dL_isRefused_131 : decode cL_isRefused 131 = .ok (.aload_n 0, 1) := by decide +kernel
theorem dL_isRefused_132 : decode cL_isRefused 132 = .ok (.invokestatic 237, 3) := by decide +kernel
theorem dL_isRefused_135 : decode cL_isRefused 135 = .ok (.lstore 10, 2) := by decide +kernel
theorem dL_isRefused_137 : decode cL_isRefused 137 = .ok (.aload_n 0, 1) := by decide +kernel
theorem dL_isRefused_138 : decode cL_isRefused 138 = .ok (.iconst 0, 1) := by decide +kernel
theorem dL_isRefused_139 : decode cL_isRefused 139 = .ok (.iload 7, 2) := by decide +kernel
theorem dL_isRefused_141 : decode cL_isRefused 141 = .ok (.iconst 0, 1) := by decide +kernel
theorem dL_isRefused_142 : decode cL_isRefused 142 = .ok (.iconst 0, 1) := by decide +kernel
theorem dL_isRefused_143 : decode cL_isRefused 143 = .ok (.iconst 0, 1) := by decide +kernel
theorem dL_isRefused_144 : decode cL_isRefused 144 = .ok (.iconst 0, 1) := by decide +kernel
theorem dL_isRefused_145 : decode cL_isRefused 145 = .ok (.invokestatic 241, 3) := by decide +kernel
theorem dL_isRefused_148 : decode cL_isRefused 148 = .ok (.sipush (-1261), 3) := by decide +kernel
theorem dL_isRefused_151 : decode cL_isRefused 151 = .ok (.if_icmp .ne 821, 3) := by decide +kernel
theorem dL_isRefused_154 : decode cL_isRefused 154 = .ok (.aload_n 0, 1) := by decide +kernel
theorem dL_isRefused_155 : decode cL_isRefused 155 = .ok (.iconst 1, 1) := by decide +kernel
theorem dL_isRefused_156 : decode cL_isRefused 156 = .ok (.iload 6, 2) := by decide +kernel
theorem dL_isRefused_158 : decode cL_isRefused 158 = .ok (.iconst 0, 1) := by decide +kernel
theorem dL_isRefused_159 : decode cL_isRefused 159 = .ok (.iconst 0, 1) := by decide +kernel
theorem dL_isRefused_160 : decode cL_isRefused 160 = .ok (.iconst 0, 1) := by decide +kernel
theorem dL_isRefused_161 : decode cL_isRefused 161 = .ok (.iconst 0, 1) := by decide +kernel
theorem dL_isRefused_162 : decode cL_isRefused 162 = .ok (.invokestatic 241, 3) := by decide +kernel
theorem dL_isRefused_165 : decode cL_isRefused 165 = .ok (.sipush (-1261), 3) := by decide +kernel
theorem dL_isRefused_168 : decode cL_isRefused 168 = .ok (.if_icmp .ne 804, 3) := by decide +kernel
theorem dL_isRefused_171 : decode cL_isRefused 171 = .ok (.aload_n 0, 1) := by decide +kernel
theorem dL_isRefused_172 : decode cL_isRefused 172 = .ok (.iconst 2, 1) := by decide +kernel
theorem dL_isRefused_173 : decode cL_isRefused 173 = .ok (.iload 8, 2) := by decide +kernel
theorem dL_isRefused_175 : decode cL_isRefused 175 = .ok (.iconst 0, 1) := by decide +kernel
theorem dL_isRefused_176 : decode cL_isRefused 176 = .ok (.iconst (-1), 1) := by decide +kernel
theorem dL_isRefused_177 : decode cL_isRefused 177 = .ok (.iconst 0, 1) := by decide +kernel
theorem dL_isRefused_178 : decode cL_isRefused 178 = .ok (.iconst 0, 1) := by decide +kernel
theorem dL_isRefused_179 : decode cL_isRefused 179 = .ok (.invokestatic 241, 3) := by decide +kernel
theorem dL_isRefused_182 : decode cL_isRefused 182 = .ok (.sipush (-1261), 3) := by decide +kernel
theorem dL_isRefused_185 : decode cL_isRefused 185 = .ok (.if_icmp .ne 787, 3) := by decide +kernel
theorem dL_isRefused_188 : decode cL_isRefused 188 = .ok (.aload_n 0, 1) := by decide +kernel
theorem dL_isRefused_189 : decode cL_isRefused 189 = .ok (.iconst 2, 1) := by decide +kernel
theorem dL_isRefused_190 : decode cL_isRefused 190 = .ok (.iconst 3, 1) := by decide +kernel
theorem dL_isRefused_191 : decode cL_isRefused 191 = .ok (.iload 4, 2) := by decide +kernel
theorem dL_isRefused_193 : decode cL_isRefused 193 = .ok (.ifCond .eq 12, 3) := by decide +kernel
theorem dL_isRefused_196 : decode cL_isRefused 196 = .ok (.iconst (-1), 1) := by decide +kernel
theorem dL_isRefused_197 : decode cL_isRefused 197 = .ok (.iload_n 3, 1) := by decide +kernel
theorem dL_isRefused_198 : decode cL_isRefused 198 = .ok (.bipush 30, 2) := by decide +kernel
theorem dL_isRefused_200 : decode cL_isRefused 200 = .ok (.irem, 1) := by decide +kernel
theorem dL_isRefused_201 : decode cL_isRefused 201 = .ok (.isub, 1) := by decide +kernel
theorem dL_isRefused_202 : decode cL_isRefused 202 = .ok (.goto 11, 3) := by decide +kernel
theorem dL_isRefused_205 : decode cL_isRefused 205 = .ok (.aload_n 0, 1) := by decide +kernel
theorem dL_isRefused_206 : decode cL_isRefused 206 = .ok (.iconst (-1), 1) := by decide +kernel
theorem dL_isRefused_207 : decode cL_isRefused 207 = .ok (.iconst 3, 1) := by decide +kernel
theorem dL_isRefused_208 : decode cL_isRefused 208 = .ok (.invokestatic 203, 3) := by decide +kernel
theorem dL_isRefused_211 : decode cL_isRefused 211 = .ok (.iconst 1, 1) := by decide +kernel
theorem dL_isRefused_212 : decode cL_isRefused 212 = .ok (.iadd, 1) := by decide +kernel
theorem dL_isRefused_213 : decode cL_isRefused 213 = .ok (.iconst (-1), 1) := by decide +kernel
theorem dL_isRefused_214 : decode cL_isRefused 214 = .ok (.iconst 0, 1) := by decide +kernel
theorem dL_isRefused_215 : decode cL_isRefused 215 = .ok (.iconst 0, 1) := by decide +kernel
theorem dL_isRefused_216 : decode cL_isRefused 216 = .ok (.invokestatic 241, 3) := by decide +kernel
theorem dL_isRefused_219 : decode cL_isRefused 219 = .ok (.sipush (-1261), 3) := by decide +kernel
theorem dL_isRefused_222 : decode cL_isRefused 222 = .ok (.if_icmp .ne 750, 3) := by decide +kernel
theorem dL_isRefused_225 : decode cL_isRefused 225 = .ok (.aload_n 0, 1) := by decide +kernel
theorem dL_isRefused_226 : decode cL_isRefused 226 = .ok (.iconst 2, 1) := by decide +kernel
theorem dL_isRefused_227 : decode cL_isRefused 227 = .ok (.iconst 3, 1) := by decide +kernel
theorem dL_isRefused_228 : decode cL_isRefused 228 = .ok (.iconst 0, 1) := by decide +kernel
theorem dL_isRefused_229 : decode cL_isRefused 229 = .ok (.iload 4, 2) := by decide +kernel
theorem dL_isRefused_231 : decode cL_isRefused 231 = .ok (.ifCond .eq 12, 3) := by decide +kernel
theorem dL_isRefused_234 : decode cL_isRefused 234 = .ok (.iconst (-1), 1) := by decide +kernel
theorem dL_isRefused_235 : decode cL_isRefused 235 = .ok (.iload_n 3, 1) := by decide +kernel
theorem dL_isRefused_236 : decode cL_isRefused 236 = .ok (.bipush 30, 2) := by decide +kernel
theorem dL_isRefused_238 : decode cL_isRefused 238 = .ok (.irem, 1) := by decide +kernel
theorem dL_isRefused_239 : decode cL_isRefused 239 = .ok (.isub, 1) := by decide +kernel
theorem dL_isRefused_240 : decode cL_isRefused 240 = .ok (.goto 6, 3) := by decide +kernel
theorem dL_isRefused_243 : decode cL_isRefused 243 = .ok (.sipush 400, 3) := by decide +kernel
theorem dL_isRefused_246 : decode cL_isRefused 246 = .ok (.iconst 0, 1) := by decide +kernel
theorem dL_isRefused_247 : decode cL_isRefused 247 = .ok (.iconst 0, 1) := by decide +kernel
theorem dL_isRefused_248 : decode cL_isRefused 248 = .ok (.invokestatic 241, 3) := by decide +kernel
theorem dL_isRefused_251 : decode cL_isRefused 251 = .ok (.sipush (-1262), 3) := by decide +kernel
theorem dL_isRefused_254 : decode cL_isRefused 254 = .ok (.if_icmp .ne 718, 3) := by decide +kernel
theorem dL_isRefused_257 : decode cL_isRefused 257 = .ok (.aload_n 0, 1) := by decide +kernel
theorem dL_isRefused_258 : decode cL_isRefused 258 = .ok (.iconst 3, 1) := by decide +kernel
theorem dL_isRefused_259 : decode cL_isRefused 259 = .ok (.iconst 3, 1) := by decide +kernel
theorem dL_isRefused_260 : decode cL_isRefused 260 = .ok (.iload 4, 2) := by decide +kernel
theorem dL_isRefused_262 : decode cL_isRefused 262 = .ok (.ifCond .eq 7, 3) := by decide +kernel
theorem dL_isRefused_265 : decode cL_isRefused 265 = .ok (.iconst (-1), 1) := by decide +kernel
theorem dL_isRefused_266 : decode cL_isRefused 266 = .ok (.goto 9, 3) := by decide +kernel
theorem dL_isRefused_269 : decode cL_isRefused 269 = .ok (.aload_n 0, 1) := by decide +kernel
theorem dL_isRefused_270 : decode cL_isRefused 270 = .ok (.iconst (-1), 1) := by decide +kernel
theorem dL_isRefused_271 : decode cL_isRefused 271 = .ok (.iconst 3, 1) := by decide +kernel
theorem dL_isRefused_272 : decode cL_isRefused 272 = .ok (.invokestatic 203, 3) := by decide +kernel
theorem dL_isRefused_275 : decode cL_isRefused 275 = .ok (.iconst 0, 1) := by decide +kernel
theorem dL_isRefused_276 : decode cL_isRefused 276 = .ok (.iconst 0, 1) := by decide +kernel
theorem dL_isRefused_277 : decode cL_isRefused 277 = .ok (.iconst 0, 1) := by decide +kernel
theorem dL_isRefused_278 : decode cL_isRefused 278 = .ok (.invokestatic 241, 3) := by decide +kernel
theorem dL_isRefused_281 : decode cL_isRefused 281 = .ok (.sipush (-1261), 3) := by decide +kernel
theorem dL_isRefused_284 : decode cL_isRefused 284 = .ok (.if_icmp .ne 688, 3) := by decide +kernel
theorem dL_isRefused_287 : decode cL_isRefused 287 = .ok (.aload_n 0, 1) := by decide +kernel
theorem dL_isRefused_288 : decode cL_isRefused 288 = .ok (.iconst 4, 1) := by decide +kernel
theorem dL_isRefused_289 : decode cL_isRefused 289 = .ok (.iload 5, 2) := by decide +kernel
theorem dL_isRefused_291 : decode cL_isRefused 291 = .ok (.iconst 0, 1) := by decide +kernel
theorem dL_isRefused_292 : decode cL_isRefused 292 = .ok (.iconst 0, 1) := by decide +kernel
theorem dL_isRefused_293 : decode cL_isRefused 293 = .ok (.iconst 0, 1) := by decide +kernel
theorem dL_isRefused_294 : decode cL_isRefused 294 = .ok (.iconst 0, 1) := by decide +kernel
theorem dL_isRefused_295 : decode cL_isRefused 295 = .ok (.invokestatic 241, 3) := by decide +kernel
theorem dL_isRefused_298 : decode cL_isRefused 298 = .ok (.sipush (-1261), 3) := by decide +kernel
theorem dL_isRefused_301 : decode cL_isRefused 301 = .ok (.if_icmp .ne 671, 3) := by decide +kernel
theorem dL_isRefused_304 : decode cL_isRefused 304 = .ok (.aload_n 0, 1) := by decide +kernel
theorem dL_isRefused_305 : decode cL_isRefused 305 = .ok (.iconst 5, 1) := by decide +kernel
theorem dL_isRefused_306 : decode cL_isRefused 306 = .ok (.iconst 0, 1) := by decide +kernel
theorem dL_isRefused_307 : decode cL_isRefused 307 = .ok (.iload 6, 2) := by decide +kernel
theorem dL_isRefused_309 : decode cL_isRefused 309 = .ok (.iconst 0, 1) := by decide +kernel
theorem dL_isRefused_310 : decode cL_isRefused 310 = .ok (.iconst 0, 1) := by decide +kernel
theorem dL_isRefused_311 : decode cL_isRefused 311 = .ok (.iconst 0, 1) := by decide +kernel
theorem dL_isRefused_312 : decode cL_isRefused 312 = .ok (.invokestatic 241, 3) := by decide +kernel
theorem dL_isRefused_315 : decode cL_isRefused 315 = .ok (.sipush (-1261), 3) := by decide +kernel
theorem dL_isRefused_318 : decode cL_isRefused 318 = .ok (.if_icmp .ne 654, 3) := by decide +kernel
theorem dL_isRefused_321 : decode cL_isRefused 321 = .ok (.aload_n 0, 1) := by decide +kernel
theorem dL_isRefused_322 : decode cL_isRefused 322 = .ok (.bipush 6, 2) := by decide +kernel
theorem dL_isRefused_324 : decode cL_isRefused 324 = .ok (.iload 5, 2) := by decide +kernel
theorem dL_isRefused_326 : decode cL_isRefused 326 = .ok (.iload 6, 2) := by decide +kernel
theorem dL_isRefused_328 : decode cL_isRefused 328 = .ok (.iconst 0, 1) := by decide +kernel
theorem dL_isRefused_329 : decode cL_isRefused 329 = .ok (.iconst 0, 1) := by decide +kernel
theorem dL_isRefused_330 : decode cL_isRefused 330 = .ok (.iconst 0, 1) := by decide +kernel
theorem dL_isRefused_331 : decode cL_isRefused 331 = .ok (.invokestatic 241, 3) := by decide +kernel
theorem dL_isRefused_334 : decode cL_isRefused 334 = .ok (.sipush (-1261), 3) := by decide +kernel
theorem dL_isRefused_337 : decode cL_isRefused 337 = .ok (.if_icmp .ne 635, 3) := by decide +kernel
theorem dL_isRefused_340 : decode cL_isRefused 340 = .ok (.aload_n 0, 1) := by decide +kernel
theorem dL_isRefused_341 : decode cL_isRefused 341 = .ok (.bipush 7, 2) := by decide +kernel
theorem dL_isRefused_343 : decode cL_isRefused 343 = .ok (.iconst 0, 1) := by decide +kernel
theorem dL_isRefused_344 : decode cL_isRefused 344 = .ok (.iload 6, 2) := by decide +kernel
theorem dL_isRefused_346 : decode cL_isRefused 346 = .ok (.iconst 0, 1) := by decide +kernel
theorem dL_isRefused_347 : decode cL_isRefused 347 = .ok (.iconst 0, 1) := by decide +kernel
theorem dL_isRefused_348 : decode cL_isRefused 348 = .ok (.iconst 0, 1) := by decide +kernel
theorem dL_isRefused_349 : decode cL_isRefused 349 = .ok (.invokestatic 241, 3) := by decide +kernel
theorem dL_isRefused_352 : decode cL_isRefused 352 = .ok (.sipush (-1261), 3) := by decide +kernel
theorem dL_isRefused_355 : decode cL_isRefused 355 = .ok (.if_icmp .ne 617, 3) := by decide +kernel
theorem dL_isRefused_358 : decode cL_isRefused 358 = .ok (.aload_n 0, 1) := by decide +kernel
theorem dL_isRefused_359 : decode cL_isRefused 359 = .ok (.bipush 8, 2) := by decide +kernel
theorem dL_isRefused_361 : decode cL_isRefused 361 = .ok (.iload 6, 2) := by decide +kernel
theorem dL_isRefused_363 : decode cL_isRefused 363 = .ok (.iconst 0, 1) := by decide +kernel
theorem dL_isRefused_364 : decode cL_isRefused 364 = .ok (.iconst 0, 1) := by decide +kernel
theorem dL_isRefused_365 : decode cL_isRefused 365 = .ok (.iconst 0, 1) := by decide +kernel
theorem dL_isRefused_366 : decode cL_isRefused 366 = .ok (.iconst 0, 1) := by decide +kernel
theorem dL_isRefused_367 : decode cL_isRefused 367 = .ok (.invokestatic 241, 3) := by decide +kernel
theorem dL_isRefused_370 : decode cL_isRefused 370 = .ok (.sipush (-1261), 3) := by decide +kernel
theorem dL_isRefused_373 : decode cL_isRefused 373 = .ok (.if_icmp .ne 599, 3) := by decide +kernel
theorem dL_isRefused_376 : decode cL_isRefused 376 = .ok (.aload_n 0, 1) := by decide +kernel
theorem dL_isRefused_377 : decode cL_isRefused 377 = .ok (.bipush 9, 2) := by decide +kernel
theorem dL_isRefused_379 : decode cL_isRefused 379 = .ok (.iload 6, 2) := by decide +kernel
theorem dL_isRefused_381 : decode cL_isRefused 381 = .ok (.iconst 0, 1) := by decide +kernel
theorem dL_isRefused_382 : decode cL_isRefused 382 = .ok (.iconst 0, 1) := by decide +kernel
theorem dL_isRefused_383 : decode cL_isRefused 383 = .ok (.iconst 0, 1) := by decide +kernel
theorem dL_isRefused_384 : decode cL_isRefused 384 = .ok (.iconst 0, 1) := by decide +kernel
theorem dL_isRefused_385 : decode cL_isRefused 385 = .ok (.invokestatic 241, 3) := by decide +kernel
theorem dL_isRefused_388 : decode cL_isRefused 388 = .ok (.sipush (-1261), 3) := by decide +kernel
theorem dL_isRefused_391 : decode cL_isRefused 391 = .ok (.if_icmp .ne 581, 3) := by decide +kernel
theorem dL_isRefused_394 : decode cL_isRefused 394 = .ok (.aload_n 0, 1) := by decide +kernel
theorem dL_isRefused_395 : decode cL_isRefused 395 = .ok (.bipush 10, 2) := by decide +kernel
theorem dL_isRefused_397 : decode cL_isRefused 397 = .ok (.iload 6, 2) := by decide +kernel
theorem dL_isRefused_399 : decode cL_isRefused 399 = .ok (.bipush (-5), 2) := by decide +kernel
theorem dL_isRefused_401 : decode cL_isRefused 401 = .ok (.iconst 0, 1) := by decide +kernel
theorem dL_isRefused_402 : decode cL_isRefused 402 = .ok (.iconst 0, 1) := by decide +kernel
theorem dL_isRefused_403 : decode cL_isRefused 403 = .ok (.iconst 0, 1) := by decide +kernel
theorem dL_isRefused_404 : decode cL_isRefused 404 = .ok (.invokestatic 241, 3) := by decide +kernel
theorem dL_isRefused_407 : decode cL_isRefused 407 = .ok (.sipush (-1261), 3) := by decide +kernel
theorem dL_isRefused_410 : decode cL_isRefused 410 = .ok (.if_icmp .ne 562, 3) := by decide +kernel
theorem dL_isRefused_413 : decode cL_isRefused 413 = .ok (.aload_n 0, 1) := by decide +kernel
theorem dL_isRefused_414 : decode cL_isRefused 414 = .ok (.bipush 11, 2) := by decide +kernel
theorem dL_isRefused_416 : decode cL_isRefused 416 = .ok (.iconst 0, 1) := by decide +kernel
theorem dL_isRefused_417 : decode cL_isRefused 417 = .ok (.iload 4, 2) := by decide +kernel
theorem dL_isRefused_419 : decode cL_isRefused 419 = .ok (.ifCond .eq 12, 3) := by decide +kernel
theorem dL_isRefused_422 : decode cL_isRefused 422 = .ok (.iconst (-1), 1) := by decide +kernel
theorem dL_isRefused_423 : decode cL_isRefused 423 = .ok (.iload_n 3, 1) := by decide +kernel
theorem dL_isRefused_424 : decode cL_isRefused 424 = .ok (.bipush 30, 2) := by decide +kernel
theorem dL_isRefused_426 : decode cL_isRefused 426 = .ok (.irem, 1) := by decide +kernel
theorem dL_isRefused_427 : decode cL_isRefused 427 = .ok (.isub, 1) := by decide +kernel
theorem dL_isRefused_428 : decode cL_isRefused 428 = .ok (.goto 11, 3) := by decide +kernel
theorem dL_isRefused_431 : decode cL_isRefused 431 = .ok (.aload_n 2, 1) := by decide +kernel
theorem dL_isRefused_432 : decode cL_isRefused 432 = .ok (.iconst 0, 1) := by decide +kernel
theorem dL_isRefused_433 : decode cL_isRefused 433 = .ok (.iaload, 1) := by decide +kernel
theorem dL_isRefused_434 : decode cL_isRefused 434 = .ok (.iload_n 3, 1) := by decide +kernel
theorem dL_isRefused_435 : decode cL_isRefused 435 = .ok (.bipush 30, 2) := by decide +kernel
theorem dL_isRefused_437 : decode cL_isRefused 437 = .ok (.irem, 1) := by decide +kernel
theorem dL_isRefused_438 : decode cL_isRefused 438 = .ok (.iadd, 1) := by decide +kernel
theorem dL_isRefused_439 : decode cL_isRefused 439 = .ok (.iconst 0, 1) := by decide +kernel
theorem dL_isRefused_440 : decode cL_isRefused 440 = .ok (.iconst 0, 1) := by decide +kernel
theorem dL_isRefused_441 : decode cL_isRefused 441 = .ok (.iconst 0, 1) := by decide +kernel
theorem dL_isRefused_442 : decode cL_isRefused 442 = .ok (.invokestatic 241, 3) := by decide +kernel
theorem dL_isRefused_445 : decode cL_isRefused 445 = .ok (.sipush (-1261), 3) := by decide +kernel
theorem dL_isRefused_448 : decode cL_isRefused 448 = .ok (.if_icmp .ne 524, 3) := by decide +kernel
theorem dL_isRefused_451 : decode cL_isRefused 451 = .ok (.aload_n 0, 1) := by decide +kernel
theorem dL_isRefused_452 : decode cL_isRefused 452 = .ok (.bipush 12, 2) := by decide +kernel
theorem dL_isRefused_454 : decode cL_isRefused 454 = .ok (.iload 5, 2) := by decide +kernel
theorem dL_isRefused_456 : decode cL_isRefused 456 = .ok (.iload 6, 2) := by decide +kernel
theorem dL_isRefused_458 : decode cL_isRefused 458 = .ok (.iconst 0, 1) := by decide +kernel
theorem dL_isRefused_459 : decode cL_isRefused 459 = .ok (.iconst 0, 1) := by decide +kernel
theorem dL_isRefused_460 : decode cL_isRefused 460 = .ok (.iconst 0, 1) := by decide +kernel
theorem dL_isRefused_461 : decode cL_isRefused 461 = .ok (.invokestatic 241, 3) := by decide +kernel
theorem dL_isRefused_464 : decode cL_isRefused 464 = .ok (.sipush (-1261), 3) := by decide +kernel
theorem dL_isRefused_467 : decode cL_isRefused 467 = .ok (.if_icmp .ne 505, 3) := by decide +kernel
theorem dL_isRefused_470 : decode cL_isRefused 470 = .ok (.aload_n 0, 1) := by decide +kernel
theorem dL_isRefused_471 : decode cL_isRefused 471 = .ok (.bipush 13, 2) := by decide +kernel
theorem dL_isRefused_473 : decode cL_isRefused 473 = .ok (.iload 6, 2) := by decide +kernel
theorem dL_isRefused_475 : decode cL_isRefused 475 = .ok (.iconst (-1), 1) := by decide +kernel
theorem dL_isRefused_476 : decode cL_isRefused 476 = .ok (.iconst 0, 1) := by decide +kernel
theorem dL_isRefused_477 : decode cL_isRefused 477 = .ok (.iconst 0, 1) := by decide +kernel
