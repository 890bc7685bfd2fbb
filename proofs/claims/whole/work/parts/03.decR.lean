theorem dX12_init_0 : decode cX12_init 0 = .ok (.aload_n 0, 1) := by decide +kernel
theorem dX12_init_1 : decode cX12_init 1 = .ok (.invokespecial 1, 3) := by decide +kernel
theorem dX12_init_4 : decode cX12_init 4 = .ok (.aload_n 0, 1) := by decide +kernel
theorem dX12_init_5 : decode cX12_init 5 = .ok (.iconst 2, 1) := by decide +kernel
theorem dX12_init_6 : decode cX12_init 6 = .ok (.putfield 7, 3) := by decide +kernel
theorem dX12_init_9 : decode cX12_init 9 = .ok (.aload_n 0, 1) := by decide +kernel
theorem dX12_init_10 : decode cX12_init 10 = .ok (.bipush 82, 2) := by decide +kernel
theorem dX12_init_12 : decode cX12_init 12 = .ok (.newarray .int, 2) := by decide +kernel
theorem dX12_init_14 : decode cX12_init 14 = .ok (.putfield 13, 3) := by decide +kernel
theorem dX12_init_17 : decode cX12_init 17 = .ok (.aload_n 0, 1) := by decide +kernel
theorem dX12_init_18 : decode cX12_init 18 = .ok (.bipush 82, 2) := by decide +kernel
theorem dX12_init_20 : decode cX12_init 20 = .ok (.newarray .int, 2) := by decide +kernel
theorem dX12_init_22 : decode cX12_init 22 = .ok (.putfield 17, 3) := by decide +kernel
theorem dX12_init_25 : decode cX12_init 25 = .ok (.aload_n 0, 1) := by decide +kernel
theorem dX12_init_26 : decode cX12_init 26 = .ok (.sipush 328, 3) := by decide +kernel
theorem dX12_init_29 : decode cX12_init 29 = .ok (.newarray .int, 2) := by decide +kernel
theorem dX12_init_31 : decode cX12_init 31 = .ok (.putfield 20, 3) := by decide +kernel
theorem dX12_init_34 : decode cX12_init 34 = .ok (.aload_n 0, 1) := by decide +kernel
theorem dX12_init_35 : decode cX12_init 35 = .ok (.sipush 3280, 3) := by decide +kernel
theorem dX12_init_38 : decode cX12_init 38 = .ok (.newarray .int, 2) := by decide +kernel
theorem dX12_init_40 : decode cX12_init 40 = .ok (.putfield 23, 3) := by decide +kernel
theorem dX12_init_43 : decode cX12_init 43 = .ok (.aload_n 0, 1) := by decide +kernel
theorem dX12_init_44 : decode cX12_init 44 = .ok (.bipush 82, 2) := by decide +kernel
theorem dX12_init_46 : decode cX12_init 46 = .ok (.newarray .int, 2) := by decide +kernel
theorem dX12_init_48 : decode cX12_init 48 = .ok (.putfield 26, 3) := by decide +kernel
theorem dX12_init_51 : decode cX12_init 51 = .ok (.aload_n 0, 1) := by decide +kernel
theorem dX12_init_52 : decode cX12_init 52 = .ok (.bipush 82, 2) := by decide +kernel
theorem dX12_init_54 : decode cX12_init 54 = .ok (.newarray .int, 2) := by decide +kernel
theorem dX12_init_56 : decode cX12_init 56 = .ok (.putfield 29, 3) := by decide +kernel
theorem dX12_init_59 : decode cX12_init 59 = .ok (.aload_n 0, 1) := by decide +kernel
theorem dX12_init_60 : decode cX12_init 60 = .ok (.bipush 82, 2) := by decide +kernel
theorem dX12_init_62 : decode cX12_init 62 = .ok (.newarray .int, 2) := by decide +kernel
theorem dX12_init_64 : decode cX12_init 64 = .ok (.putfield 32, 3) := by decide +kernel
theorem dX12_init_67 : decode cX12_init 67 = .ok (.aload_n 0, 1) := by decide +kernel
theorem dX12_init_68 : decode cX12_init 68 = .ok (.bipush 82, 2) := by decide +kernel
theorem dX12_init_70 : decode cX12_init 70 = .ok (.newarray .int, 2) := by decide +kernel
theorem dX12_init_72 : decode cX12_init 72 = .ok (.putfield 35, 3) := by decide +kernel
theorem dX12_init_75 : decode cX12_init 75 = .ok (.aload_n 0, 1) := by decide +kernel
theorem dX12_init_76 : decode cX12_init 76 = .ok (.iconst 2, 1) := by decide +kernel
theorem dX12_init_77 : decode cX12_init 77 = .ok (.newarray .int, 2) := by decide +kernel
theorem dX12_init_79 : decode cX12_init 79 = .ok (.putfield 38, 3) := by decide +kernel
theorem dX12_init_82 : decode cX12_init 82 = .ok (.aload_n 0, 1) := by decide +kernel
theorem dX12_init_83 : decode cX12_init 83 = .ok (.iconst 2, 1) := by decide +kernel
theorem dX12_init_84 : decode cX12_init 84 = .ok (.newarray .int, 2) := by decide +kernel
theorem dX12_init_86 : decode cX12_init 86 = .ok (.putfield 41, 3) := by decide +kernel
theorem dX12_init_89 : decode cX12_init 89 = .ok (.aload_n 0, 1) := by decide +kernel
theorem dX12_init_90 : decode cX12_init 90 = .ok (.bipush 20, 2) := by decide +kernel
theorem dX12_init_92 : decode cX12_init 92 = .ok (.newarray .int, 2) := by decide +kernel
theorem dX12_init_94 : decode cX12_init 94 = .ok (.putfield 44, 3) := by decide +kernel
theorem dX12_init_97 : decode cX12_init 97 = .ok (.aload_n 0, 1) := by decide +kernel
theorem dX12_init_98 : decode cX12_init 98 = .ok (.bipush 20, 2) := by decide +kernel
theorem dX12_init_100 : decode cX12_init 100 = .ok (.newarray .int, 2) := by decide +kernel
theorem dX12_init_102 : decode cX12_init 102 = .ok (.putfield 47, 3) := by decide +kernel
theorem dX12_init_105 : decode cX12_init 105 = .ok (.aload_n 0, 1) := by decide +kernel
theorem dX12_init_106 : decode cX12_init 106 = .ok (.bipush 20, 2) := by decide +kernel
theorem dX12_init_108 : decode cX12_init 108 = .ok (.newarray .int, 2) := by decide +kernel
theorem dX12_init_110 : decode cX12_init 110 = .ok (.putfield 50, 3) := by decide +kernel
theorem dX12_init_113 : decode cX12_init 113 = .ok (.aload_n 0, 1) := by decide +kernel
theorem dX12_init_114 : decode cX12_init 114 = .ok (.bipush 20, 2) := by decide +kernel
theorem dX12_init_116 : decode cX12_init 116 = .ok (.newarray .boolean, 2) := by decide +kernel
theorem dX12_init_118 : decode cX12_init 118 = .ok (.putfield 53, 3) := by decide +kernel
theorem dX12_init_121 : decode cX12_init 121 = .ok (.aload_n 0, 1) := by decide +kernel
theorem dX12_init_122 : decode cX12_init 122 = .ok (.bipush 20, 2) := by decide +kernel
theorem dX12_init_124 : decode cX12_init 124 = .ok (.newarray .boolean, 2) := by decide +kernel
theorem dX12_init_126 : decode cX12_init 126 = .ok (.putfield 57, 3) := by decide +kernel
theorem dX12_init_129 : decode cX12_init 129 = .ok (.aload_n 0, 1) := by decide +kernel
theorem dX12_init_130 : decode cX12_init 130 = .ok (.bipush 20, 2) := by decide +kernel
theorem dX12_init_132 : decode cX12_init 132 = .ok (.newarray .int, 2) := by decide +kernel
theorem dX12_init_134 : decode cX12_init 134 = .ok (.putfield 60, 3) := by decide +kernel
theorem dX12_init_137 : decode cX12_init 137 = .ok (.aload_n 0, 1) := by decide +kernel
theorem dX12_init_138 : decode cX12_init 138 = .ok (.bipush 20, 2) := by decide +kernel
theorem dX12_init_140 : decode cX12_init 140 = .ok (.newarray .int, 2) := by decide +kernel
theorem dX12_init_142 : decode cX12_init 142 = .ok (.putfield 63, 3) := by decide +kernel
theorem dX12_init_145 : decode cX12_init 145 = .ok (.aload_n 0, 1) := by decide +kernel
theorem dX12_init_146 : decode cX12_init 146 = .ok (.bipush 20, 2) := by decide +kernel
theorem dX12_init_148 : decode cX12_init 148 = .ok (.newarray .int, 2) := by decide +kernel
theorem dX12_init_150 : decode cX12_init 150 = .ok (.putfield 66, 3) := by decide +kernel
theorem dX12_init_153 : decode cX12_init 153 = .ok (.aload_n 0, 1) := by decide +kernel
theorem dX12_init_154 : decode cX12_init 154 = .ok (.bipush 20, 2) := by decide +kernel
theorem dX12_init_156 : decode cX12_init 156 = .ok (.newarray .int, 2) := by decide +kernel
theorem dX12_init_158 : decode cX12_init 158 = .ok (.putfield 69, 3) := by decide +kernel
theorem dX12_init_161 : decode cX12_init 161 = .ok (.aload_n 0, 1) := by decide +kernel
theorem dX12_init_162 : decode cX12_init 162 = .ok (.bipush 20, 2) := by decide +kernel
theorem dX12_init_164 : decode cX12_init 164 = .ok (.newarray .int, 2) := by decide +kernel
theorem dX12_init_166 : decode cX12_init 166 = .ok (.putfield 72, 3) := by decide +kernel
theorem dX12_init_169 : decode cX12_init 169 = .ok (.aload_n 0, 1) := by decide +kernel
theorem dX12_init_170 : decode cX12_init 170 = .ok (.sipush 960, 3) := by decide +kernel
theorem dX12_init_173 : decode cX12_init 173 = .ok (.newarray .int, 2) := by decide +kernel
theorem dX12_init_175 : decode cX12_init 175 = .ok (.putfield 75, 3) := by decide +kernel
theorem dX12_init_178 : decode cX12_init 178 = .ok (.aload_n 0, 1) := by decide +kernel
theorem dX12_init_179 : decode cX12_init 179 = .ok (.bipush 6, 2) := by decide +kernel
theorem dX12_init_181 : decode cX12_init 181 = .ok (.newarray .int, 2) := by decide +kernel
theorem dX12_init_183 : decode cX12_init 183 = .ok (.putfield 78, 3) := by decide +kernel
theorem dX12_init_186 : decode cX12_init 186 = .ok (.aload_n 0, 1) := by decide +kernel
theorem dX12_init_187 : decode cX12_init 187 = .ok (.bipush 60, 2) := by decide +kernel
theorem dX12_init_189 : decode cX12_init 189 = .ok (.newarray .int, 2) := by decide +kernel
theorem dX12_init_191 : decode cX12_init 191 = .ok (.putfield 81, 3) := by decide +kernel
theorem dX12_init_194 : decode cX12_init 194 = .ok (.aload_n 0, 1) := by decide +kernel
theorem dX12_init_195 : decode cX12_init 195 = .ok (.bipush 60, 2) := by decide +kernel
theorem dX12_init_197 : decode cX12_init 197 = .ok (.newarray .int, 2) := by decide +kernel
theorem dX12_init_199 : decode cX12_init 199 = .ok (.putfield 84, 3) := by decide +kernel
theorem dX12_init_202 : decode cX12_init 202 = .ok (.aload_n 0, 1) := by decide +kernel
theorem dX12_init_203 : decode cX12_init 203 = .ok (.bipush 60, 2) := by decide +kernel
theorem dX12_init_205 : decode cX12_init 205 = .ok (.newarray .int, 2) := by decide +kernel
theorem dX12_init_207 : decode cX12_init 207 = .ok (.putfield 87, 3) := by decide +kernel
theorem dX12_init_210 : decode cX12_init 210 = .ok (.aload_n 0, 1) := by decide +kernel
theorem dX12_init_211 : decode cX12_init 211 = .ok (.bipush 60, 2) := by decide +kernel
theorem dX12_init_213 : decode cX12_init 213 = .ok (.newarray .int, 2) := by decide +kernel
theorem dX12_init_215 : decode cX12_init 215 = .ok (.putfield 90, 3) := by decide +kernel
theorem dX12_init_218 : decode cX12_init 218 = .ok (.aload_n 0, 1) := by decide +kernel
theorem dX12_init_219 : decode cX12_init 219 = .ok (.bipush 60, 2) := by decide +kernel
theorem dX12_init_221 : decode cX12_init 221 = .ok (.newarray .int, 2) := by decide +kernel
theorem dX12_init_223 : decode cX12_init 223 = .ok (.putfield 93, 3) := by decide +kernel
theorem dX12_init_226 : decode cX12_init 226 = .ok (.aload_n 0, 1) := by decide +kernel
theorem dX12_init_227 : decode cX12_init 227 = .ok (.bipush 60, 2) := by decide +kernel
theorem dX12_init_229 : decode cX12_init 229 = .ok (.newarray .int, 2) := by decide +kernel
theorem dX12_init_231 : decode cX12_init 231 = .ok (.putfield 96, 3) := by decide +kernel
theorem dX12_init_234 : decode cX12_init 234 = .ok (.aload_n 0, 1) := by decide +kernel
theorem dX12_init_235 : decode cX12_init 235 = .ok (.bipush 60, 2) := by decide +kernel
theorem dX12_init_237 : decode cX12_init 237 = .ok (.newarray .int, 2) := by decide +kernel
theorem dX12_init_239 : decode cX12_init 239 = .ok (.putfield 99, 3) := by decide +kernel
theorem dX12_init_242 : decode cX12_init 242 = .ok (.aload_n 0, 1) := by decide +kernel
theorem dX12_init_243 : decode cX12_init 243 = .ok (.bipush 60, 2) := by decide +kernel
theorem dX12_init_245 : decode cX12_init 245 = .ok (.newarray .boolean, 2) := by decide +kernel
theorem dX12_init_247 : decode cX12_init 247 = .ok (.putfield 102, 3) := by decide +kernel
theorem dX12_init_250 : decode cX12_init 250 = .ok (.aload_n 0, 1) := by decide +kernel
theorem dX12_init_251 : decode cX12_init 251 = .ok (.bipush 60, 2) := by decide +kernel
theorem dX12_init_253 : decode cX12_init 253 = .ok (.newarray .boolean, 2) := by decide +kernel
theorem dX12_init_255 : decode cX12_init 255 = .ok (.putfield 105, 3) := by decide +kernel
theorem dX12_init_258 : decode cX12_init 258 = .ok (.aload_n 0, 1) := by decide +kernel
theorem dX12_init_259 : decode cX12_init 259 = .ok (.bipush 40, 2) := by decide +kernel
theorem dX12_init_261 : decode cX12_init 261 = .ok (.newarray .int, 2) := by decide +kernel
theorem dX12_init_263 : decode cX12_init 263 = .ok (.putfield 108, 3) := by decide +kernel
theorem dX12_init_266 : decode cX12_init 266 = .ok (.aload_n 0, 1) := by decide +kernel
theorem dX12_init_267 : decode cX12_init 267 = .ok (.bipush 40, 2) := by decide +kernel
theorem dX12_init_269 : decode cX12_init 269 = .ok (.newarray .int, 2) := by decide +kernel
theorem dX12_init_271 : decode cX12_init 271 = .ok (.putfield 111, 3) := by decide +kernel
theorem dX12_init_274 : decode cX12_init 274 = .ok (.aload_n 0, 1) := by decide +kernel
theorem dX12_init_275 : decode cX12_init 275 = .ok (.bipush 40, 2) := by decide +kernel
theorem dX12_init_277 : decode cX12_init 277 = .ok (.newarray .int, 2) := by decide +kernel
theorem dX12_init_279 : decode cX12_init 279 = .ok (.putfield 114, 3) := by decide +kernel
theorem dX12_init_282 : decode cX12_init 282 = .ok (.aload_n 0, 1) := by decide +kernel
theorem dX12_init_283 : decode cX12_init 283 = .ok (.bipush 40, 2) := by decide +kernel
theorem dX12_init_285 : decode cX12_init 285 = .ok (.newarray .int, 2) := by decide +kernel
theorem dX12_init_287 : decode cX12_init 287 = .ok (.putfield 117, 3) := by decide +kernel
theorem dX12_init_290 : decode cX12_init 290 = .ok (.aload_n 0, 1) := by decide +kernel
theorem dX12_init_291 : decode cX12_init 291 = .ok (.bipush 40, 2) := by decide +kernel
theorem dX12_init_293 : decode cX12_init 293 = .ok (.newarray .int, 2) := by decide +kernel
theorem dX12_init_295 : decode cX12_init 295 = .ok (.putfield 120, 3) := by decide +kernel
theorem dX12_init_298 : decode cX12_init 298 = .ok (.aload_n 0, 1) := by decide +kernel
theorem dX12_init_299 : decode cX12_init 299 = .ok (.bipush 40, 2) := by decide +kernel
theorem dX12_init_301 : decode cX12_init 301 = .ok (.newarray .int, 2) := by decide +kernel
theorem dX12_init_303 : decode cX12_init 303 = .ok (.putfield 123, 3) := by decide +kernel
theorem dX12_init_306 : decode cX12_init 306 = .ok (.aload_n 0, 1) := by decide +kernel
theorem dX12_init_307 : decode cX12_init 307 = .ok (.bipush 14, 2) := by decide +kernel
theorem dX12_init_309 : decode cX12_init 309 = .ok (.newarray .int, 2) := by decide +kernel
theorem dX12_init_311 : decode cX12_init 311 = .ok (.putfield 126, 3) := by decide +kernel
theorem dX12_init_314 : decode cX12_init 314 = .ok (.aload_n 0, 1) := by decide +kernel
theorem dX12_init_315 : decode cX12_init 315 = .ok (.bipush 14, 2) := by decide +kernel
theorem dX12_init_317 : decode cX12_init 317 = .ok (.newarray .boolean, 2) := by decide +kernel
theorem dX12_init_319 : decode cX12_init 319 = .ok (.putfield 129, 3) := by decide +kernel
theorem dX12_init_322 : decode cX12_init 322 = .ok (.aload_n 0, 1) := by decide +kernel
theorem dX12_init_323 : decode cX12_init 323 = .ok (.iconst 4, 1) := by decide +kernel
theorem dX12_init_324 : decode cX12_init 324 = .ok (.newarray .boolean, 2) := by decide +kernel
theorem dX12_init_326 : decode cX12_init 326 = .ok (.putfield 132, 3) := by decide +kernel
theorem dX12_init_329 : decode cX12_init 329 = .ok (.aload_n 0, 1) := by decide +kernel
theorem dX12_init_330 : decode cX12_init 330 = .ok (.iconst 1, 1) := by decide +kernel
theorem dX12_init_331 : decode cX12_init 331 = .ok (.putfield 135, 3) := by decide +kernel
theorem dX12_init_334 : decode cX12_init 334 = .ok (.aload_n 0, 1) := by decide +kernel
theorem dX12_init_335 : decode cX12_init 335 = .ok (.bipush 20, 2) := by decide +kernel
theorem dX12_init_337 : decode cX12_init 337 = .ok (.newarray .int, 2) := by decide +kernel
theorem dX12_init_339 : decode cX12_init 339 = .ok (.putfield 138, 3) := by decide +kernel
theorem dX12_init_342 : decode cX12_init 342 = .ok (.aload_n 0, 1) := by decide +kernel
theorem dX12_init_343 : decode cX12_init 343 = .ok (.bipush 20, 2) := by decide +kernel
theorem dX12_init_345 : decode cX12_init 345 = .ok (.newarray .int, 2) := by decide +kernel
theorem dX12_init_347 : decode cX12_init 347 = .ok (.putfield 141, 3) := by decide +kernel
theorem dX12_init_350 : decode cX12_init 350 = .ok (.aload_n 0, 1) := by decide +kernel
theorem dX12_init_351 : decode cX12_init 351 = .ok (.bipush 20, 2) := by decide +kernel
theorem dX12_init_353 : decode cX12_init 353 = .ok (.newarray .int, 2) := by decide +kernel
theorem dX12_init_355 : decode cX12_init 355 = .ok (.putfield 144, 3) := by decide +kernel
theorem dX12_init_358 : decode cX12_init 358 = .ok (.aload_n 0, 1) := by decide +kernel
theorem dX12_init_359 : decode cX12_init 359 = .ok (.bipush 20, 2) := by decide +kernel
theorem dX12_init_361 : decode cX12_init 361 = .ok (.newarray .boolean, 2) := by decide +kernel
theorem dX12_init_363 : decode cX12_init 363 = .ok (.putfield 147, 3) := by decide +kernel
theorem dX12_init_366 : decode cX12_init 366 = .ok (.aload_n 0, 1) := by decide +kernel
theorem dX12_init_367 : decode cX12_init 367 = .ok (.iconst 2, 1) := by decide +kernel
theorem dX12_init_368 : decode cX12_init 368 = .ok (.newarray .int, 2) := by decide +kernel
theorem dX12_init_370 : decode cX12_init 370 = .ok (.putfield 150, 3) := by decide +kernel
theorem dX12_init_373 : decode cX12_init 373 = .ok (.aload_n 0, 1) := by decide +kernel
theorem dX12_init_374 : decode cX12_init 374 = .ok (.bipush 6, 2) := by decide +kernel
theorem dX12_init_376 : decode cX12_init 376 = .ok (.newarray .int, 2) := by decide +kernel
theorem dX12_init_378 : decode cX12_init 378 = .ok (.putfield 153, 3) := by decide +kernel
theorem dX12_init_381 : decode cX12_init 381 = .ok (.aload_n 0, 1) := by decide +kernel
theorem dX12_init_382 : decode cX12_init 382 = .ok (.bipush 121, 2) := by decide +kernel
theorem dX12_init_384 : decode cX12_init 384 = .ok (.newarray .int, 2) := by decide +kernel
theorem dX12_init_386 : decode cX12_init 386 = .ok (.putfield 156, 3) := by decide +kernel
theorem dX12_init_389 : decode cX12_init 389 = .ok (.aload_n 0, 1) := by decide +kernel
theorem dX12_init_390 : decode cX12_init 390 = .ok (.bipush 10, 2) := by decide +kernel
theorem dX12_init_392 : decode cX12_init 392 = .ok (.newarray .int, 2) := by decide +kernel
theorem dX12_init_394 : decode cX12_init 394 = .ok (.putfield 159, 3) := by decide +kernel
theorem dX12_init_397 : decode cX12_init 397 = .ok (.aload_n 0, 1) := by decide +kernel
theorem dX12_init_398 : decode cX12_init 398 = .ok (.bipush 60, 2) := by decide +kernel
theorem dX12_init_400 : decode cX12_init 400 = .ok (.newarray .int, 2) := by decide +kernel
theorem dX12_init_402 : decode cX12_init 402 = .ok (.putfield 162, 3) := by decide +kernel
theorem dX12_init_405 : decode cX12_init 405 = .ok (.aload_n 0, 1) := by decide +kernel
theorem dX12_init_406 : decode cX12_init 406 = .ok (.bipush 60, 2) := by decide +kernel
theorem dX12_init_408 : decode cX12_init 408 = .ok (.newarray .int, 2) := by decide +kernel
theorem dX12_init_410 : decode cX12_init 410 = .ok (.putfield 165, 3) := by decide +kernel
theorem dX12_init_413 : decode cX12_init 413 = .ok (.aload_n 0, 1) := by decide +kernel
theorem dX12_init_414 : decode cX12_init 414 = .ok (.bipush 60, 2) := by decide +kernel
theorem dX12_init_416 : decode cX12_init 416 = .ok (.newarray .int, 2) := by decide +kernel
theorem dX12_init_418 : decode cX12_init 418 = .ok (.putfield 168, 3) := by decide +kernel
theorem dX12_init_421 : decode cX12_init 421 = .ok (.aload_n 0, 1) := by decide +kernel
theorem dX12_init_422 : decode cX12_init 422 = .ok (.bipush 60, 2) := by decide +kernel
theorem dX12_init_424 : decode cX12_init 424 = .ok (.newarray .int, 2) := by decide +kernel
theorem dX12_init_426 : decode cX12_init 426 = .ok (.putfield 171, 3) := by decide +kernel
theorem dX12_init_429 : decode cX12_init 429 = .ok (.aload_n 0, 1) := by decide +kernel
theorem dX12_init_430 : decode cX12_init 430 = .ok (.bipush 60, 2) := by decide +kernel
theorem dX12_init_432 : decode cX12_init 432 = .ok (.newarray .int, 2) := by decide +kernel
theorem dX12_init_434 : decode cX12_init 434 = .ok (.putfield 174, 3) := by decide +kernel
theorem dX12_init_437 : decode cX12_init 437 = .ok (.aload_n 0, 1) := by decide +kernel
theorem dX12_init_438 : decode cX12_init 438 = .ok (.bipush 60, 2) := by decide +kernel
theorem dX12_init_440 : decode cX12_init 440 = .ok (.newarray .int, 2) := by decide +kernel
theorem dX12_init_442 : decode cX12_init 442 = .ok (.putfield 177, 3) := by decide +kernel
theorem dX12_init_445 : decode cX12_init 445 = .ok (.aload_n 0, 1) := by decide +kernel
theorem dX12_init_446 : decode cX12_init 446 = .ok (.iconst 4, 1) := by decide +kernel
theorem dX12_init_447 : decode cX12_init 447 = .ok (.newarray .int, 2) := by decide +kernel
theorem dX12_init_449 : decode cX12_init 449 = .ok (.putfield 180, 3) := by decide +kernel
theorem dX12_init_452 : decode cX12_init 452 = .ok (.aload_n 0, 1) := by decide +kernel
theorem dX12_init_453 : decode cX12_init 453 = .ok (.bipush 24, 2) := by decide +kernel
theorem dX12_init_455 : decode cX12_init 455 = .ok (.newarray .int, 2) := by decide +kernel
theorem dX12_init_457 : decode cX12_init 457 = .ok (.putfield 183, 3) := by decide +kernel
theorem dX12_init_460 : decode cX12_init 460 = .ok (.aload_n 0, 1) := by decide +kernel
theorem dX12_init_461 : decode cX12_init 461 = .ok (.bipush 16, 2) := by decide +kernel
theorem dX12_init_463 : decode cX12_init 463 = .ok (.newarray .int, 2) := by decide +kernel
theorem dX12_init_465 : decode cX12_init 465 = .ok (.putfield 186, 3) := by decide +kernel
theorem dX12_init_468 : decode cX12_init 468 = .ok (.aload_n 0, 1) := by decide +kernel
theorem dX12_init_469 : decode cX12_init 469 = .ok (.getfield 13, 3) := by decide +kernel
theorem dX12_init_472 : decode cX12_init 472 = .ok (.iconst 1, 1) := by decide +kernel
theorem dX12_init_473 : decode cX12_init 473 = .ok (.iconst 1, 1) := by decide +kernel
theorem dX12_init_474 : decode cX12_init 474 = .ok (.iastore, 1) := by decide +kernel
theorem dX12_init_475 : decode cX12_init 475 = .ok (.aload_n 0, 1) := by decide +kernel
theorem dX12_init_476 : decode cX12_init 476 = .ok (.getfield 17, 3) := by decide +kernel
theorem dX12_init_479 : decode cX12_init 479 = .ok (.iconst 0, 1) := by decide +kernel
theorem dX12_init_480 : decode cX12_init 480 = .ok (.iconst (-1), 1) := by decide +kernel
theorem dX12_init_481 : decode cX12_init 481 = .ok (.iastore, 1) := by decide +kernel
theorem dX12_init_482 : decode cX12_init 482 = .ok (.aload_n 0, 1) := by decide +kernel
theorem dX12_init_483 : decode cX12_init 483 = .ok (.getfield 17, 3) := by decide +kernel
theorem dX12_init_486 : decode cX12_init 486 = .ok (.iconst 1, 1) := by decide +kernel
theorem dX12_init_487 : decode cX12_init 487 = .ok (.iconst (-1), 1) := by decide +kernel
theorem dX12_init_488 : decode cX12_init 488 = .ok (.iastore, 1) := by decide +kernel
theorem dX12_init_489 : decode cX12_init 489 = .ok (.iconst 0, 1) := by decide +kernel
theorem dX12_init_490 : decode cX12_init 490 = .ok (.istore_n 1, 1) := by decide +kernel
theorem dX12_init_491 : decode cX12_init 491 = .ok (.iload_n 1, 1) := by decide +kernel
theorem dX12_init_492 : decode cX12_init 492 = .ok (.bipush 81, 2) := by decide +kernel
theorem dX12_init_494 : decode cX12_init 494 = .ok (.if_icmp .gt 23, 3) := by decide +kernel
theorem dX12_init_497 : decode cX12_init 497 = .ok (.aload_n 0, 1) := by decide +kernel
theorem dX12_init_498 : decode cX12_init 498 = .ok (.getfield 26, 3) := by decide +kernel
theorem dX12_init_501 : decode cX12_init 501 = .ok (.iload_n 1, 1) := by decide +kernel
theorem dX12_init_502 : decode cX12_init 502 = .ok (.iconst (-1), 1) := by decide +kernel
theorem dX12_init_503 : decode cX12_init 503 = .ok (.iastore, 1) := by decide +kernel
theorem dX12_init_504 : decode cX12_init 504 = .ok (.aload_n 0, 1) := by decide +kernel
theorem dX12_init_505 : decode cX12_init 505 = .ok (.getfield 35, 3) := by decide +kernel
theorem dX12_init_508 : decode cX12_init 508 = .ok (.iload_n 1, 1) := by decide +kernel
theorem dX12_init_509 : decode cX12_init 509 = .ok (.iconst (-1), 1) := by decide +kernel
theorem dX12_init_510 : decode cX12_init 510 = .ok (.iastore, 1) := by decide +kernel
theorem dX12_init_511 : decode cX12_init 511 = .ok (.iinc 1 1, 3) := by decide +kernel
theorem dX12_init_514 : decode cX12_init 514 = .ok (.goto (-23), 3) := by decide +kernel
theorem dX12_init_517 : decode cX12_init 517 = .ok (.aload_n 0, 1) := by decide +kernel
theorem dX12_init_518 : decode cX12_init 518 = .ok (.getfield 38, 3) := by decide +kernel
theorem dX12_init_521 : decode cX12_init 521 = .ok (.iconst 1, 1) := by decide +kernel
theorem dX12_init_522 : decode cX12_init 522 = .ok (.iconst 1, 1) := by decide +kernel
theorem dX12_init_523 : decode cX12_init 523 = .ok (.iastore, 1) := by decide +kernel
theorem dX12_init_524 : decode cX12_init 524 = .ok (.aload_n 0, 1) := by decide +kernel
theorem dX12_init_525 : decode cX12_init 525 = .ok (.getfield 41, 3) := by decide +kernel
theorem dX12_init_528 : decode cX12_init 528 = .ok (.iconst 0, 1) := by decide +kernel
theorem dX12_init_529 : decode cX12_init 529 = .ok (.iconst 1, 1) := by decide +kernel
theorem dX12_init_530 : decode cX12_init 530 = .ok (.iastore, 1) := by decide +kernel
theorem dX12_init_531 : decode cX12_init 531 = .ok (.aload_n 0, 1) := by decide +kernel
theorem dX12_init_532 : decode cX12_init 532 = .ok (.getfield 41, 3) := by decide +kernel
theorem dX12_init_535 : decode cX12_init 535 = .ok (.iconst 1, 1) := by decide +kernel
theorem dX12_init_536 : decode cX12_init 536 = .ok (.iconst 1, 1) := by decide +kernel
theorem dX12_init_537 : decode cX12_init 537 = .ok (.iastore, 1) := by decide +kernel
theorem dX12_init_538 : decode cX12_init 538 = .ok (.aload_n 0, 1) := by decide +kernel
theorem dX12_init_539 : decode cX12_init 539 = .ok (.getfield 78, 3) := by decide +kernel
theorem dX12_init_542 : decode cX12_init 542 = .ok (.iconst 0, 1) := by decide +kernel
theorem dX12_init_543 : decode cX12_init 543 = .ok (.iconst 1, 1) := by decide +kernel
theorem dX12_init_544 : decode cX12_init 544 = .ok (.iastore, 1) := by decide +kernel
theorem dX12_init_545 : decode cX12_init 545 = .ok (.aload_n 0, 1) := by decide +kernel
theorem dX12_init_546 : decode cX12_init 546 = .ok (.getfield 78, 3) := by decide +kernel
theorem dX12_init_549 : decode cX12_init 549 = .ok (.iconst 1, 1) := by decide +kernel
theorem dX12_init_550 : decode cX12_init 550 = .ok (.bipush 17, 2) := by decide +kernel
theorem dX12_init_552 : decode cX12_init 552 = .ok (.iastore, 1) := by decide +kernel
theorem dX12_init_553 : decode cX12_init 553 = .ok (.aload_n 0, 1) := by decide +kernel
theorem dX12_init_554 : decode cX12_init 554 = .ok (.getfield 78, 3) := by decide +kernel
theorem dX12_init_557 : decode cX12_init 557 = .ok (.iconst 2, 1) := by decide +kernel
theorem dX12_init_558 : decode cX12_init 558 = .ok (.bipush 31, 2) := by decide +kernel
theorem dX12_init_560 : decode cX12_init 560 = .ok (.iastore, 1) := by decide +kernel
theorem dX12_init_561 : decode cX12_init 561 = .ok (.aload_n 0, 1) := by decide +kernel
theorem dX12_init_562 : decode cX12_init 562 = .ok (.getfield 78, 3) := by decide +kernel
theorem dX12_init_565 : decode cX12_init 565 = .ok (.iconst 3, 1) := by decide +kernel
theorem dX12_init_566 : decode cX12_init 566 = .ok (.iconst 2, 1) := by decide +kernel
theorem dX12_init_567 : decode cX12_init 567 = .ok (.iastore, 1) := by decide +kernel
theorem dX12_init_568 : decode cX12_init 568 = .ok (.aload_n 0, 1) := by decide +kernel
theorem dX12_init_569 : decode cX12_init 569 = .ok (.getfield 78, 3) := by decide +kernel
theorem dX12_init_572 : decode cX12_init 572 = .ok (.iconst 4, 1) := by decide +kernel
theorem dX12_init_573 : decode cX12_init 573 = .ok (.bipush 10, 2) := by decide +kernel
theorem dX12_init_575 : decode cX12_init 575 = .ok (.iastore, 1) := by decide +kernel
theorem dX12_init_576 : decode cX12_init 576 = .ok (.aload_n 0, 1) := by decide +kernel
theorem dX12_init_577 : decode cX12_init 577 = .ok (.getfield 78, 3) := by decide +kernel
theorem dX12_init_580 : decode cX12_init 580 = .ok (.iconst 5, 1) := by decide +kernel
theorem dX12_init_581 : decode cX12_init 581 = .ok (.bipush 14, 2) := by decide +kernel
theorem dX12_init_583 : decode cX12_init 583 = .ok (.iastore, 1) := by decide +kernel
theorem dX12_init_584 : decode cX12_init 584 = .ok (.aload_n 0, 1) := by decide +kernel
theorem dX12_init_585 : decode cX12_init 585 = .ok (.getfield 138, 3) := by decide +kernel
theorem dX12_init_588 : decode cX12_init 588 = .ok (.iconst 0, 1) := by decide +kernel
theorem dX12_init_589 : decode cX12_init 589 = .ok (.bipush 15, 2) := by decide +kernel
theorem dX12_init_591 : decode cX12_init 591 = .ok (.iastore, 1) := by decide +kernel
theorem dX12_init_592 : decode cX12_init 592 = .ok (.aload_n 0, 1) := by decide +kernel
theorem dX12_init_593 : decode cX12_init 593 = .ok (.getfield 141, 3) := by decide +kernel
theorem dX12_init_596 : decode cX12_init 596 = .ok (.iconst 0, 1) := by decide +kernel
theorem dX12_init_597 : decode cX12_init 597 = .ok (.bipush 7, 2) := by decide +kernel
theorem dX12_init_599 : decode cX12_init 599 = .ok (.iastore, 1) := by decide +kernel
theorem dX12_init_600 : decode cX12_init 600 = .ok (.aload_n 0, 1) := by decide +kernel
theorem dX12_init_601 : decode cX12_init 601 = .ok (.getfield 144, 3) := by decide +kernel
theorem dX12_init_604 : decode cX12_init 604 = .ok (.iconst 0, 1) := by decide +kernel
theorem dX12_init_605 : decode cX12_init 605 = .ok (.bipush 48, 2) := by decide +kernel
theorem dX12_init_607 : decode cX12_init 607 = .ok (.iastore, 1) := by decide +kernel
theorem dX12_init_608 : decode cX12_init 608 = .ok (.return_, 1) := by decide +kernel
theorem dX12_thrown_0 : decode cX12_thrown 0 = .ok (.aload_n 0, 1) := by decide +kernel
theorem dX12_thrown_1 : decode cX12_thrown 1 = .ok (.getfield 189, 3) := by decide +kernel
theorem dX12_thrown_4 : decode cX12_thrown 4 = .ok (.ireturn, 1) := by decide +kernel
theorem dX12_goes_0 : decode cX12_goes 0 = .ok (.aload_n 0, 1) := by decide +kernel
theorem dX12_goes_1 : decode cX12_goes 1 = .ok (.iload_n 1, 1) := by decide +kernel
theorem dX12_goes_2 : decode cX12_goes 2 = .ok (.putfield 189, 3) := by decide +kernel
theorem dX12_goes_5 : decode cX12_goes 5 = .ok (.iload_n 1, 1) := by decide +kernel
theorem dX12_goes_6 : decode cX12_goes 6 = .ok (.ifCond .ne 7, 3) := by decide +kernel
theorem dX12_goes_9 : decode cX12_goes 9 = .ok (.iconst 1, 1) := by decide +kernel
theorem dX12_goes_10 : decode cX12_goes 10 = .ok (.goto 4, 3) := by decide +kernel
theorem dX12_goes_13 : decode cX12_goes 13 = .ok (.iconst 0, 1) := by decide +kernel
theorem dX12_goes_14 : decode cX12_goes 14 = .ok (.ireturn, 1) := by decide +kernel
theorem dX12_isIn_0 : decode cX12_isIn 0 = .ok (.iload_n 0, 1) := by decide +kernel
theorem dX12_isIn_1 : decode cX12_isIn 1 = .ok (.iload_n 1, 1) := by decide +kernel
theorem dX12_isIn_2 : decode cX12_isIn 2 = .ok (.if_icmp .lt 12, 3) := by decide +kernel
theorem dX12_isIn_5 : decode cX12_isIn 5 = .ok (.iload_n 0, 1) := by decide +kernel
theorem dX12_isIn_6 : decode cX12_isIn 6 = .ok (.iload_n 2, 1) := by decide +kernel
theorem dX12_isIn_7 : decode cX12_isIn 7 = .ok (.if_icmp .gt 7, 3) := by decide +kernel
theorem dX12_isIn_10 : decode cX12_isIn 10 = .ok (.iconst 1, 1) := by decide +kernel
theorem dX12_isIn_11 : decode cX12_isIn 11 = .ok (.goto 4, 3) := by decide +kernel
theorem dX12_isIn_14 : decode cX12_isIn 14 = .ok (.iconst 0, 1) := by decide +kernel
theorem dX12_isIn_15 : decode cX12_isIn 15 = .ok (.ireturn, 1) := by decide +kernel
theorem dX12_isPerson_0 : decode cX12_isPerson 0 = .ok (.iload_n 0, 1) := by decide +kernel
theorem dX12_isPerson_1 : decode cX12_isPerson 1 = .ok (.iconst 0, 1) := by decide +kernel
theorem dX12_isPerson_2 : decode cX12_isPerson 2 = .ok (.iconst 5, 1) := by decide +kernel
theorem dX12_isPerson_3 : decode cX12_isPerson 3 = .ok (.invokestatic 192, 3) := by decide +kernel
theorem dX12_isPerson_6 : decode cX12_isPerson 6 = .ok (.ireturn, 1) := by decide +kernel
theorem dX12_isRepository_0 : decode cX12_isRepository 0 = .ok (.iload_n 0, 1) := by decide +kernel
theorem dX12_isRepository_1 : decode cX12_isRepository 1 = .ok (.iconst 0, 1) := by decide +kernel
theorem dX12_isRepository_2 : decode cX12_isRepository 2 = .ok (.iconst 1, 1) := by decide +kernel
theorem dX12_isRepository_3 : decode cX12_isRepository 3 = .ok (.invokestatic 192, 3) := by decide +kernel
theorem dX12_isRepository_6 : decode cX12_isRepository 6 = .ok (.ireturn, 1) := by decide +kernel
theorem dX12_isFile_0 : decode cX12_isFile 0 = .ok (.iload_n 0, 1) := by decide +kernel
theorem dX12_isFile_1 : decode cX12_isFile 1 = .ok (.iconst 0, 1) := by decide +kernel
theorem dX12_isFile_2 : decode cX12_isFile 2 = .ok (.iconst 3, 1) := by decide +kernel
theorem dX12_isFile_3 : decode cX12_isFile 3 = .ok (.invokestatic 192, 3) := by decide +kernel
theorem dX12_isFile_6 : decode cX12_isFile 6 = .ok (.ireturn, 1) := by decide +kernel
theorem dX12_isCommit_0 : decode cX12_isCommit 0 = .ok (.iload_n 1, 1) := by decide +kernel
theorem dX12_isCommit_1 : decode cX12_isCommit 1 = .ok (.iconst 0, 1) := by decide +kernel
theorem dX12_isCommit_2 : decode cX12_isCommit 2 = .ok (.aload_n 0, 1) := by decide +kernel
theorem dX12_isCommit_3 : decode cX12_isCommit 3 = .ok (.getfield 7, 3) := by decide +kernel
theorem dX12_isCommit_6 : decode cX12_isCommit 6 = .ok (.iconst 1, 1) := by decide +kernel
theorem dX12_isCommit_7 : decode cX12_isCommit 7 = .ok (.isub, 1) := by decide +kernel
theorem dX12_isCommit_8 : decode cX12_isCommit 8 = .ok (.invokestatic 192, 3) := by decide +kernel
theorem dX12_isCommit_11 : decode cX12_isCommit 11 = .ok (.ireturn, 1) := by decide +kernel
theorem dX12_isChange_0 : decode cX12_isChange 0 = .ok (.iload_n 1, 1) := by decide +kernel
theorem dX12_isChange_1 : decode cX12_isChange 1 = .ok (.iconst 0, 1) := by decide +kernel
theorem dX12_isChange_2 : decode cX12_isChange 2 = .ok (.aload_n 0, 1) := by decide +kernel
theorem dX12_isChange_3 : decode cX12_isChange 3 = .ok (.getfield 196, 3) := by decide +kernel
theorem dX12_isChange_6 : decode cX12_isChange 6 = .ok (.iconst 1, 1) := by decide +kernel
theorem dX12_isChange_7 : decode cX12_isChange 7 = .ok (.isub, 1) := by decide +kernel
theorem dX12_isChange_8 : decode cX12_isChange 8 = .ok (.invokestatic 192, 3) := by decide +kernel
theorem dX12_isChange_11 : decode cX12_isChange 11 = .ok (.ireturn, 1) := by decide +kernel
theorem dX12_isSet_0 : decode cX12_isSet 0 = .ok (.aload_n 0, 1) := by decide +kernel
theorem dX12_isSet_1 : decode cX12_isSet 1 = .ok (.iload_n 1, 1) := by decide +kernel
theorem dX12_isSet_2 : decode cX12_isSet 2 = .ok (.invokevirtual 199, 3) := by decide +kernel
theorem dX12_isSet_5 : decode cX12_isSet 5 = .ok (.ifCond .eq 23, 3) := by decide +kernel
theorem dX12_isSet_8 : decode cX12_isSet 8 = .ok (.iload_n 2, 1) := by decide +kernel
theorem dX12_isSet_9 : decode cX12_isSet 9 = .ok (.iconst 0, 1) := by decide +kernel
theorem dX12_isSet_10 : decode cX12_isSet 10 = .ok (.aload_n 0, 1) := by decide +kernel
theorem dX12_isSet_11 : decode cX12_isSet 11 = .ok (.getfield 50, 3) := by decide +kernel
theorem dX12_isSet_14 : decode cX12_isSet 14 = .ok (.iload_n 1, 1) := by decide +kernel
theorem dX12_isSet_15 : decode cX12_isSet 15 = .ok (.iaload, 1) := by decide +kernel
theorem dX12_isSet_16 : decode cX12_isSet 16 = .ok (.iconst 1, 1) := by decide +kernel
theorem dX12_isSet_17 : decode cX12_isSet 17 = .ok (.isub, 1) := by decide +kernel
theorem dX12_isSet_18 : decode cX12_isSet 18 = .ok (.invokestatic 192, 3) := by decide +kernel
theorem dX12_isSet_21 : decode cX12_isSet 21 = .ok (.ifCond .eq 7, 3) := by decide +kernel
theorem dX12_isSet_24 : decode cX12_isSet 24 = .ok (.iconst 1, 1) := by decide +kernel
theorem dX12_isSet_25 : decode cX12_isSet 25 = .ok (.goto 4, 3) := by decide +kernel
theorem dX12_isSet_28 : decode cX12_isSet 28 = .ok (.iconst 0, 1) := by decide +kernel
theorem dX12_isSet_29 : decode cX12_isSet 29 = .ok (.ireturn, 1) := by decide +kernel
theorem dX12_lineAt_0 : decode cX12_lineAt 0 = .ok (.aload_n 0, 1) := by decide +kernel
theorem dX12_lineAt_1 : decode cX12_lineAt 1 = .ok (.getfield 23, 3) := by decide +kernel
theorem dX12_lineAt_4 : decode cX12_lineAt 4 = .ok (.bipush 10, 2) := by decide +kernel
theorem dX12_lineAt_6 : decode cX12_lineAt 6 = .ok (.iconst 4, 1) := by decide +kernel
theorem dX12_lineAt_7 : decode cX12_lineAt 7 = .ok (.iload_n 1, 1) := by decide +kernel
theorem dX12_lineAt_8 : decode cX12_lineAt 8 = .ok (.imul, 1) := by decide +kernel
theorem dX12_lineAt_9 : decode cX12_lineAt 9 = .ok (.iload_n 2, 1) := by decide +kernel
theorem dX12_lineAt_10 : decode cX12_lineAt 10 = .ok (.iadd, 1) := by decide +kernel
theorem dX12_lineAt_11 : decode cX12_lineAt 11 = .ok (.imul, 1) := by decide +kernel
theorem dX12_lineAt_12 : decode cX12_lineAt 12 = .ok (.iload_n 3, 1) := by decide +kernel
theorem dX12_lineAt_13 : decode cX12_lineAt 13 = .ok (.iadd, 1) := by decide +kernel
theorem dX12_lineAt_14 : decode cX12_lineAt 14 = .ok (.iaload, 1) := by decide +kernel
theorem dX12_lineAt_15 : decode cX12_lineAt 15 = .ok (.istore 4, 2) := by decide +kernel
theorem dX12_lineAt_17 : decode cX12_lineAt 17 = .ok (.aload_n 0, 1) := by decide +kernel
theorem dX12_lineAt_18 : decode cX12_lineAt 18 = .ok (.getfield 203, 3) := by decide +kernel
theorem dX12_lineAt_21 : decode cX12_lineAt 21 = .ok (.ifCond .eq 11, 3) := by decide +kernel
theorem dX12_lineAt_24 : decode cX12_lineAt 24 = .ok (.iload 4, 2) := by decide +kernel
theorem dX12_lineAt_26 : decode cX12_lineAt 26 = .ok (.bipush 100, 2) := by decide +kernel
theorem dX12_lineAt_28 : decode cX12_lineAt 28 = .ok (.irem, 1) := by decide +kernel
theorem dX12_lineAt_29 : decode cX12_lineAt 29 = .ok (.goto 5, 3) := by decide +kernel
theorem dX12_lineAt_32 : decode cX12_lineAt 32 = .ok (.iload 4, 2) := by decide +kernel
theorem dX12_lineAt_34 : decode cX12_lineAt 34 = .ok (.ireturn, 1) := by decide +kernel
theorem dX12_sizeOf_0 : decode cX12_sizeOf 0 = .ok (.aload_n 0, 1) := by decide +kernel
theorem dX12_sizeOf_1 : decode cX12_sizeOf 1 = .ok (.getfield 20, 3) := by decide +kernel
theorem dX12_sizeOf_4 : decode cX12_sizeOf 4 = .ok (.iconst 4, 1) := by decide +kernel
theorem dX12_sizeOf_5 : decode cX12_sizeOf 5 = .ok (.iload_n 1, 1) := by decide +kernel
theorem dX12_sizeOf_6 : decode cX12_sizeOf 6 = .ok (.imul, 1) := by decide +kernel
theorem dX12_sizeOf_7 : decode cX12_sizeOf 7 = .ok (.iload_n 2, 1) := by decide +kernel
theorem dX12_sizeOf_8 : decode cX12_sizeOf 8 = .ok (.iadd, 1) := by decide +kernel
theorem dX12_sizeOf_9 : decode cX12_sizeOf 9 = .ok (.iaload, 1) := by decide +kernel
theorem dX12_sizeOf_10 : decode cX12_sizeOf 10 = .ok (.ireturn, 1) := by decide +kernel
theorem dX12_copies_0 : decode cX12_copies 0 = .ok (.iconst 0, 1) := by decide +kernel
theorem dX12_copies_1 : decode cX12_copies 1 = .ok (.istore_n 3, 1) := by decide +kernel
theorem dX12_copies_2 : decode cX12_copies 2 = .ok (.iload_n 3, 1) := by decide +kernel
theorem dX12_copies_3 : decode cX12_copies 3 = .ok (.iconst 4, 1) := by decide +kernel
theorem dX12_copies_4 : decode cX12_copies 4 = .ok (.if_icmp .ge 29, 3) := by decide +kernel
theorem dX12_copies_7 : decode cX12_copies 7 = .ok (.aload_n 0, 1) := by decide +kernel
theorem dX12_copies_8 : decode cX12_copies 8 = .ok (.getfield 20, 3) := by decide +kernel
theorem dX12_copies_11 : decode cX12_copies 11 = .ok (.iconst 4, 1) := by decide +kernel
theorem dX12_copies_12 : decode cX12_copies 12 = .ok (.iload_n 2, 1) := by decide +kernel
theorem dX12_copies_13 : decode cX12_copies 13 = .ok (.imul, 1) := by decide +kernel
theorem dX12_copies_14 : decode cX12_copies 14 = .ok (.iload_n 3, 1) := by decide +kernel
theorem dX12_copies_15 : decode cX12_copies 15 = .ok (.iadd, 1) := by decide +kernel
theorem dX12_copies_16 : decode cX12_copies 16 = .ok (.aload_n 0, 1) := by decide +kernel
theorem dX12_copies_17 : decode cX12_copies 17 = .ok (.getfield 20, 3) := by decide +kernel
theorem dX12_copies_20 : decode cX12_copies 20 = .ok (.iconst 4, 1) := by decide +kernel
theorem dX12_copies_21 : decode cX12_copies 21 = .ok (.iload_n 1, 1) := by decide +kernel
theorem dX12_copies_22 : decode cX12_copies 22 = .ok (.imul, 1) := by decide +kernel
theorem dX12_copies_23 : decode cX12_copies 23 = .ok (.iload_n 3, 1) := by decide +kernel
theorem dX12_copies_24 : decode cX12_copies 24 = .ok (.iadd, 1) := by decide +kernel
theorem dX12_copies_25 : decode cX12_copies 25 = .ok (.iaload, 1) := by decide +kernel
theorem dX12_copies_26 : decode cX12_copies 26 = .ok (.iastore, 1) := by decide +kernel
theorem dX12_copies_27 : decode cX12_copies 27 = .ok (.iinc 3 1, 3) := by decide +kernel
theorem dX12_copies_30 : decode cX12_copies 30 = .ok (.goto (-28), 3) := by decide +kernel
theorem dX12_copies_33 : decode cX12_copies 33 = .ok (.iconst 0, 1) := by decide +kernel
theorem dX12_copies_34 : decode cX12_copies 34 = .ok (.istore_n 3, 1) := by decide +kernel
theorem dX12_copies_35 : decode cX12_copies 35 = .ok (.iload_n 3, 1) := by decide +kernel
theorem dX12_copies_36 : decode cX12_copies 36 = .ok (.bipush 40, 2) := by decide +kernel
theorem dX12_copies_38 : decode cX12_copies 38 = .ok (.if_icmp .ge 31, 3) := by decide +kernel
theorem dX12_copies_41 : decode cX12_copies 41 = .ok (.aload_n 0, 1) := by decide +kernel
theorem dX12_copies_42 : decode cX12_copies 42 = .ok (.getfield 23, 3) := by decide +kernel
theorem dX12_copies_45 : decode cX12_copies 45 = .ok (.bipush 40, 2) := by decide +kernel
theorem dX12_copies_47 : decode cX12_copies 47 = .ok (.iload_n 2, 1) := by decide +kernel
theorem dX12_copies_48 : decode cX12_copies 48 = .ok (.imul, 1) := by decide +kernel
theorem dX12_copies_49 : decode cX12_copies 49 = .ok (.iload_n 3, 1) := by decide +kernel
theorem dX12_copies_50 : decode cX12_copies 50 = .ok (.iadd, 1) := by decide +kernel
theorem dX12_copies_51 : decode cX12_copies 51 = .ok (.aload_n 0, 1) := by decide +kernel
theorem dX12_copies_52 : decode cX12_copies 52 = .ok (.getfield 23, 3) := by decide +kernel
theorem dX12_copies_55 : decode cX12_copies 55 = .ok (.bipush 40, 2) := by decide +kernel
theorem dX12_copies_57 : decode cX12_copies 57 = .ok (.iload_n 1, 1) := by decide +kernel
theorem dX12_copies_58 : decode cX12_copies 58 = .ok (.imul, 1) := by decide +kernel
theorem dX12_copies_59 : decode cX12_copies 59 = .ok (.iload_n 3, 1) := by decide +kernel
theorem dX12_copies_60 : decode cX12_copies 60 = .ok (.iadd, 1) := by decide +kernel
theorem dX12_copies_61 : decode cX12_copies 61 = .ok (.iaload, 1) := by decide +kernel
theorem dX12_copies_62 : decode cX12_copies 62 = .ok (.iastore, 1) := by decide +kernel
theorem dX12_copies_63 : decode cX12_copies 63 = .ok (.iinc 3 1, 3) := by decide +kernel
theorem dX12_copies_66 : decode cX12_copies 66 = .ok (.goto (-31), 3) := by decide +kernel
theorem dX12_copies_69 : decode cX12_copies 69 = .ok (.return_, 1) := by decide +kernel
theorem dX12_isSameFile_0 : decode cX12_isSameFile 0 = .ok (.aload_n 0, 1) := by decide +kernel
theorem dX12_isSameFile_1 : decode cX12_isSameFile 1 = .ok (.iload_n 1, 1) := by decide +kernel
theorem dX12_isSameFile_2 : decode cX12_isSameFile 2 = .ok (.iload_n 3, 1) := by decide +kernel
theorem dX12_isSameFile_3 : decode cX12_isSameFile 3 = .ok (.invokevirtual 207, 3) := by decide +kernel
theorem dX12_isSameFile_6 : decode cX12_isSameFile 6 = .ok (.aload_n 0, 1) := by decide +kernel
theorem dX12_isSameFile_7 : decode cX12_isSameFile 7 = .ok (.iload_n 2, 1) := by decide +kernel
theorem dX12_isSameFile_8 : decode cX12_isSameFile 8 = .ok (.iload_n 3, 1) := by decide +kernel
theorem dX12_isSameFile_9 : decode cX12_isSameFile 9 = .ok (.invokevirtual 207, 3) := by decide +kernel
theorem dX12_isSameFile_12 : decode cX12_isSameFile 12 = .ok (.if_icmp .ne 7, 3) := by decide +kernel
theorem dX12_isSameFile_15 : decode cX12_isSameFile 15 = .ok (.iconst 1, 1) := by decide +kernel
theorem dX12_isSameFile_16 : decode cX12_isSameFile 16 = .ok (.goto 4, 3) := by decide +kernel
theorem dX12_isSameFile_19 : decode cX12_isSameFile 19 = .ok (.iconst 0, 1) := by decide +kernel
theorem dX12_isSameFile_20 : decode cX12_isSameFile 20 = .ok (.istore 4, 2) := by decide +kernel
theorem dX12_isSameFile_22 : decode cX12_isSameFile 22 = .ok (.iconst 0, 1) := by decide +kernel
theorem dX12_isSameFile_23 : decode cX12_isSameFile 23 = .ok (.istore 5, 2) := by decide +kernel
theorem dX12_isSameFile_25 : decode cX12_isSameFile 25 = .ok (.iload 5, 2) := by decide +kernel
theorem dX12_isSameFile_27 : decode cX12_isSameFile 27 = .ok (.aload_n 0, 1) := by decide +kernel
theorem dX12_isSameFile_28 : decode cX12_isSameFile 28 = .ok (.iload_n 1, 1) := by decide +kernel
theorem dX12_isSameFile_29 : decode cX12_isSameFile 29 = .ok (.iload_n 3, 1) := by decide +kernel
theorem dX12_isSameFile_30 : decode cX12_isSameFile 30 = .ok (.invokevirtual 207, 3) := by decide +kernel
theorem dX12_isSameFile_33 : decode cX12_isSameFile 33 = .ok (.if_icmp .ge 56, 3) := by decide +kernel
theorem dX12_isSameFile_36 : decode cX12_isSameFile 36 = .ok (.iload 4, 2) := by decide +kernel
theorem dX12_isSameFile_38 : decode cX12_isSameFile 38 = .ok (.ifCond .eq 51, 3) := by decide +kernel
theorem dX12_isSameFile_41 : decode cX12_isSameFile 41 = .ok (.aload_n 0, 1) := by decide +kernel
theorem dX12_isSameFile_42 : decode cX12_isSameFile 42 = .ok (.getfield 23, 3) := by decide +kernel
theorem dX12_isSameFile_45 : decode cX12_isSameFile 45 = .ok (.bipush 10, 2) := by decide +kernel
theorem dX12_isSameFile_47 : decode cX12_isSameFile 47 = .ok (.iconst 4, 1) := by decide +kernel
theorem dX12_isSameFile_48 : decode cX12_isSameFile 48 = .ok (.iload_n 1, 1) := by decide +kernel
theorem dX12_isSameFile_49 : decode cX12_isSameFile 49 = .ok (.imul, 1) := by decide +kernel
theorem dX12_isSameFile_50 : decode cX12_isSameFile 50 = .ok (.iload_n 3, 1) := by decide +kernel
theorem dX12_isSameFile_51 : decode cX12_isSameFile 51 = .ok (.iadd, 1) := by decide +kernel
theorem dX12_isSameFile_52 : decode cX12_isSameFile 52 = .ok (.imul, 1) := by decide +kernel
theorem dX12_isSameFile_53 : decode cX12_isSameFile 53 = .ok (.iload 5, 2) := by decide +kernel
theorem dX12_isSameFile_55 : decode cX12_isSameFile 55 = .ok (.iadd, 1) := by decide +kernel
theorem dX12_isSameFile_56 : decode cX12_isSameFile 56 = .ok (.iaload, 1) := by decide +kernel
theorem dX12_isSameFile_57 : decode cX12_isSameFile 57 = .ok (.aload_n 0, 1) := by decide +kernel
theorem dX12_isSameFile_58 : decode cX12_isSameFile 58 = .ok (.getfield 23, 3) := by decide +kernel
theorem dX12_isSameFile_61 : decode cX12_isSameFile 61 = .ok (.bipush 10, 2) := by decide +kernel
theorem dX12_isSameFile_63 : decode cX12_isSameFile 63 = .ok (.iconst 4, 1) := by decide +kernel
theorem dX12_isSameFile_64 : decode cX12_isSameFile 64 = .ok (.iload_n 2, 1) := by decide +kernel
theorem dX12_isSameFile_65 : decode cX12_isSameFile 65 = .ok (.imul, 1) := by decide +kernel
theorem dX12_isSameFile_66 : decode cX12_isSameFile 66 = .ok (.iload_n 3, 1) := by decide +kernel
theorem dX12_isSameFile_67 : decode cX12_isSameFile 67 = .ok (.iadd, 1) := by decide +kernel
theorem dX12_isSameFile_68 : decode cX12_isSameFile 68 = .ok (.imul, 1) := by decide +kernel
theorem dX12_isSameFile_69 : decode cX12_isSameFile 69 = .ok (.iload 5, 2) := by decide +kernel
theorem dX12_isSameFile_71 : decode cX12_isSameFile 71 = .ok (.iadd, 1) := by decide +kernel
theorem dX12_isSameFile_72 : decode cX12_isSameFile 72 = .ok (.iaload, 1) := by decide +kernel
theorem dX12_isSameFile_73 : decode cX12_isSameFile 73 = .ok (.if_icmp .ne 7, 3) := by decide +kernel
theorem dX12_isSameFile_76 : decode cX12_isSameFile 76 = .ok (.iconst 1, 1) := by decide +kernel
theorem dX12_isSameFile_77 : decode cX12_isSameFile 77 = .ok (.goto 4, 3) := by decide +kernel
theorem dX12_isSameFile_80 : decode cX12_isSameFile 80 = .ok (.iconst 0, 1) := by decide +kernel
theorem dX12_isSameFile_81 : decode cX12_isSameFile 81 = .ok (.istore 4, 2) := by decide +kernel
theorem dX12_isSameFile_83 : decode cX12_isSameFile 83 = .ok (.iinc 5 1, 3) := by decide +kernel
theorem dX12_isSameFile_86 : decode cX12_isSameFile 86 = .ok (.goto (-61), 3) := by decide +kernel
theorem dX12_isSameFile_89 : decode cX12_isSameFile 89 = .ok (.iload 4, 2) := by decide +kernel
theorem dX12_isSameFile_91 : decode cX12_isSameFile 91 = .ok (.ireturn, 1) := by decide +kernel
theorem dX12_areSameFiles_0 : decode cX12_areSameFiles 0 = .ok (.aload_n 0, 1) := by decide +kernel
theorem dX12_areSameFiles_1 : decode cX12_areSameFiles 1 = .ok (.iload_n 1, 1) := by decide +kernel
theorem dX12_areSameFiles_2 : decode cX12_areSameFiles 2 = .ok (.iload_n 2, 1) := by decide +kernel
theorem dX12_areSameFiles_3 : decode cX12_areSameFiles 3 = .ok (.iconst 0, 1) := by decide +kernel
theorem dX12_areSameFiles_4 : decode cX12_areSameFiles 4 = .ok (.invokevirtual 211, 3) := by decide +kernel
theorem dX12_areSameFiles_7 : decode cX12_areSameFiles 7 = .ok (.ifCond .eq 37, 3) := by decide +kernel
theorem dX12_areSameFiles_10 : decode cX12_areSameFiles 10 = .ok (.aload_n 0, 1) := by decide +kernel
theorem dX12_areSameFiles_11 : decode cX12_areSameFiles 11 = .ok (.iload_n 1, 1) := by decide +kernel
theorem dX12_areSameFiles_12 : decode cX12_areSameFiles 12 = .ok (.iload_n 2, 1) := by decide +kernel
theorem dX12_areSameFiles_13 : decode cX12_areSameFiles 13 = .ok (.iconst 1, 1) := by decide +kernel
theorem dX12_areSameFiles_14 : decode cX12_areSameFiles 14 = .ok (.invokevirtual 211, 3) := by decide +kernel
theorem dX12_areSameFiles_17 : decode cX12_areSameFiles 17 = .ok (.ifCond .eq 27, 3) := by decide +kernel
theorem dX12_areSameFiles_20 : decode cX12_areSameFiles 20 = .ok (.aload_n 0, 1) := by decide +kernel
theorem dX12_areSameFiles_21 : decode cX12_areSameFiles 21 = .ok (.iload_n 1, 1) := by decide +kernel
theorem dX12_areSameFiles_22 : decode cX12_areSameFiles 22 = .ok (.iload_n 2, 1) := by decide +kernel
theorem dX12_areSameFiles_23 : decode cX12_areSameFiles 23 = .ok (.iconst 2, 1) := by decide +kernel
theorem dX12_areSameFiles_24 : decode cX12_areSameFiles 24 = .ok (.invokevirtual 211, 3) := by decide +kernel
theorem dX12_areSameFiles_27 : decode cX12_areSameFiles 27 = .ok (.ifCond .eq 17, 3) := by decide +kernel
theorem dX12_areSameFiles_30 : decode cX12_areSameFiles 30 = .ok (.aload_n 0, 1) := by decide +kernel
theorem dX12_areSameFiles_31 : decode cX12_areSameFiles 31 = .ok (.iload_n 1, 1) := by decide +kernel
theorem dX12_areSameFiles_32 : decode cX12_areSameFiles 32 = .ok (.iload_n 2, 1) := by decide +kernel
theorem dX12_areSameFiles_33 : decode cX12_areSameFiles 33 = .ok (.iconst 3, 1) := by decide +kernel
theorem dX12_areSameFiles_34 : decode cX12_areSameFiles 34 = .ok (.invokevirtual 211, 3) := by decide +kernel
theorem dX12_areSameFiles_37 : decode cX12_areSameFiles 37 = .ok (.ifCond .eq 7, 3) := by decide +kernel
theorem dX12_areSameFiles_40 : decode cX12_areSameFiles 40 = .ok (.iconst 1, 1) := by decide +kernel
theorem dX12_areSameFiles_41 : decode cX12_areSameFiles 41 = .ok (.goto 4, 3) := by decide +kernel
theorem dX12_areSameFiles_44 : decode cX12_areSameFiles 44 = .ok (.iconst 0, 1) := by decide +kernel
theorem dX12_areSameFiles_45 : decode cX12_areSameFiles 45 = .ok (.ireturn, 1) := by decide +kernel
theorem dX12_laysTable_0 : decode cX12_laysTable 0 = .ok (.aload_n 0, 1) := by decide +kernel
theorem dX12_laysTable_1 : decode cX12_laysTable 1 = .ok (.iload_n 1, 1) := by decide +kernel
theorem dX12_laysTable_2 : decode cX12_laysTable 2 = .ok (.iload_n 3, 1) := by decide +kernel
theorem dX12_laysTable_3 : decode cX12_laysTable 3 = .ok (.invokevirtual 207, 3) := by decide +kernel
theorem dX12_laysTable_6 : decode cX12_laysTable 6 = .ok (.istore 4, 2) := by decide +kernel
theorem dX12_laysTable_8 : decode cX12_laysTable 8 = .ok (.aload_n 0, 1) := by decide +kernel
theorem dX12_laysTable_9 : decode cX12_laysTable 9 = .ok (.iload_n 2, 1) := by decide +kernel
theorem dX12_laysTable_10 : decode cX12_laysTable 10 = .ok (.iload_n 3, 1) := by decide +kernel
theorem dX12_laysTable_11 : decode cX12_laysTable 11 = .ok (.invokevirtual 207, 3) := by decide +kernel
theorem dX12_laysTable_14 : decode cX12_laysTable 14 = .ok (.istore 5, 2) := by decide +kernel
theorem dX12_laysTable_16 : decode cX12_laysTable 16 = .ok (.iload 4, 2) := by decide +kernel
theorem dX12_laysTable_18 : decode cX12_laysTable 18 = .ok (.istore 6, 2) := by decide +kernel
theorem dX12_laysTable_20 : decode cX12_laysTable 20 = .ok (.iload 6, 2) := by decide +kernel
theorem dX12_laysTable_22 : decode cX12_laysTable 22 = .ok (.ifCond .lt 181, 3) := by decide +kernel
theorem dX12_laysTable_25 : decode cX12_laysTable 25 = .ok (.iload 5, 2) := by decide +kernel
theorem dX12_laysTable_27 : decode cX12_laysTable 27 = .ok (.istore 7, 2) := by decide +kernel
theorem dX12_laysTable_29 : decode cX12_laysTable 29 = .ok (.iload 7, 2) := by decide +kernel
theorem dX12_laysTable_31 : decode cX12_laysTable 31 = .ok (.ifCond .lt 166, 3) := by decide +kernel
theorem dX12_laysTable_34 : decode cX12_laysTable 34 = .ok (.iload 6, 2) := by decide +kernel
theorem dX12_laysTable_36 : decode cX12_laysTable 36 = .ok (.iload 4, 2) := by decide +kernel
theorem dX12_laysTable_38 : decode cX12_laysTable 38 = .ok (.if_icmp .ge 50, 3) := by decide +kernel
theorem dX12_laysTable_41 : decode cX12_laysTable 41 = .ok (.iload 7, 2) := by decide +kernel
theorem dX12_laysTable_43 : decode cX12_laysTable 43 = .ok (.iload 5, 2) := by decide +kernel
theorem dX12_laysTable_45 : decode cX12_laysTable 45 = .ok (.if_icmp .ge 43, 3) := by decide +kernel
theorem dX12_laysTable_48 : decode cX12_laysTable 48 = .ok (.aload_n 0, 1) := by decide +kernel
theorem dX12_laysTable_49 : decode cX12_laysTable 49 = .ok (.iload_n 1, 1) := by decide +kernel
theorem dX12_laysTable_50 : decode cX12_laysTable 50 = .ok (.iload_n 3, 1) := by decide +kernel
theorem dX12_laysTable_51 : decode cX12_laysTable 51 = .ok (.iload 6, 2) := by decide +kernel
theorem dX12_laysTable_53 : decode cX12_laysTable 53 = .ok (.invokevirtual 214, 3) := by decide +kernel
theorem dX12_laysTable_56 : decode cX12_laysTable 56 = .ok (.aload_n 0, 1) := by decide +kernel
theorem dX12_laysTable_57 : decode cX12_laysTable 57 = .ok (.iload_n 2, 1) := by decide +kernel
theorem dX12_laysTable_58 : decode cX12_laysTable 58 = .ok (.iload_n 3, 1) := by decide +kernel
theorem dX12_laysTable_59 : decode cX12_laysTable 59 = .ok (.iload 7, 2) := by decide +kernel
theorem dX12_laysTable_61 : decode cX12_laysTable 61 = .ok (.invokevirtual 214, 3) := by decide +kernel
theorem dX12_laysTable_64 : decode cX12_laysTable 64 = .ok (.if_icmp .ne 24, 3) := by decide +kernel
theorem dX12_laysTable_67 : decode cX12_laysTable 67 = .ok (.iconst 1, 1) := by decide +kernel
theorem dX12_laysTable_68 : decode cX12_laysTable 68 = .ok (.aload_n 0, 1) := by decide +kernel
theorem dX12_laysTable_69 : decode cX12_laysTable 69 = .ok (.getfield 156, 3) := by decide +kernel
theorem dX12_laysTable_72 : decode cX12_laysTable 72 = .ok (.bipush 11, 2) := by decide +kernel
theorem dX12_laysTable_74 : decode cX12_laysTable 74 = .ok (.iload 6, 2) := by decide +kernel
theorem dX12_laysTable_76 : decode cX12_laysTable 76 = .ok (.imul, 1) := by decide +kernel
theorem dX12_laysTable_77 : decode cX12_laysTable 77 = .ok (.iload 7, 2) := by decide +kernel
theorem dX12_laysTable_79 : decode cX12_laysTable 79 = .ok (.iadd, 1) := by decide +kernel
theorem dX12_laysTable_80 : decode cX12_laysTable 80 = .ok (.bipush 12, 2) := by decide +kernel
theorem dX12_laysTable_82 : decode cX12_laysTable 82 = .ok (.iadd, 1) := by decide +kernel
theorem dX12_laysTable_83 : decode cX12_laysTable 83 = .ok (.iaload, 1) := by decide +kernel
theorem dX12_laysTable_84 : decode cX12_laysTable 84 = .ok (.iadd, 1) := by decide +kernel
theorem dX12_laysTable_85 : decode cX12_laysTable 85 = .ok (.goto 4, 3) := by decide +kernel
theorem dX12_laysTable_88 : decode cX12_laysTable 88 = .ok (.iconst 0, 1) := by decide +kernel
theorem dX12_laysTable_89 : decode cX12_laysTable 89 = .ok (.istore 8, 2) := by decide +kernel
theorem dX12_laysTable_91 : decode cX12_laysTable 91 = .ok (.iload 6, 2) := by decide +kernel
theorem dX12_laysTable_93 : decode cX12_laysTable 93 = .ok (.iload 4, 2) := by decide +kernel
theorem dX12_laysTable_95 : decode cX12_laysTable 95 = .ok (.if_icmp .ge 22, 3) := by decide +kernel
theorem dX12_laysTable_98 : decode cX12_laysTable 98 = .ok (.aload_n 0, 1) := by decide +kernel
theorem dX12_laysTable_99 : decode cX12_laysTable 99 = .ok (.getfield 156, 3) := by decide +kernel
theorem dX12_laysTable_102 : decode cX12_laysTable 102 = .ok (.bipush 11, 2) := by decide +kernel
theorem dX12_laysTable_104 : decode cX12_laysTable 104 = .ok (.iload 6, 2) := by decide +kernel
theorem dX12_laysTable_106 : decode cX12_laysTable 106 = .ok (.imul, 1) := by decide +kernel
theorem dX12_laysTable_107 : decode cX12_laysTable 107 = .ok (.iload 7, 2) := by decide +kernel
theorem dX12_laysTable_109 : decode cX12_laysTable 109 = .ok (.iadd, 1) := by decide +kernel
theorem dX12_laysTable_110 : decode cX12_laysTable 110 = .ok (.bipush 11, 2) := by decide +kernel
theorem dX12_laysTable_112 : decode cX12_laysTable 112 = .ok (.iadd, 1) := by decide +kernel
theorem dX12_laysTable_113 : decode cX12_laysTable 113 = .ok (.iaload, 1) := by decide +kernel
theorem dX12_laysTable_114 : decode cX12_laysTable 114 = .ok (.goto 4, 3) := by decide +kernel
theorem dX12_laysTable_117 : decode cX12_laysTable 117 = .ok (.iconst 0, 1) := by decide +kernel
theorem dX12_laysTable_118 : decode cX12_laysTable 118 = .ok (.istore 9, 2) := by decide +kernel
theorem dX12_laysTable_120 : decode cX12_laysTable 120 = .ok (.iload 7, 2) := by decide +kernel
theorem dX12_laysTable_122 : decode cX12_laysTable 122 = .ok (.iload 5, 2) := by decide +kernel
theorem dX12_laysTable_124 : decode cX12_laysTable 124 = .ok (.if_icmp .ge 21, 3) := by decide +kernel
theorem dX12_laysTable_127 : decode cX12_laysTable 127 = .ok (.aload_n 0, 1) := by decide +kernel
theorem dX12_laysTable_128 : decode cX12_laysTable 128 = .ok (.getfield 156, 3) := by decide +kernel
theorem dX12_laysTable_131 : decode cX12_laysTable 131 = .ok (.bipush 11, 2) := by decide +kernel
theorem dX12_laysTable_133 : decode cX12_laysTable 133 = .ok (.iload 6, 2) := by decide +kernel
theorem dX12_laysTable_135 : decode cX12_laysTable 135 = .ok (.imul, 1) := by decide +kernel
theorem dX12_laysTable_136 : decode cX12_laysTable 136 = .ok (.iload 7, 2) := by decide +kernel
theorem dX12_laysTable_138 : decode cX12_laysTable 138 = .ok (.iadd, 1) := by decide +kernel
theorem dX12_laysTable_139 : decode cX12_laysTable 139 = .ok (.iconst 1, 1) := by decide +kernel
theorem dX12_laysTable_140 : decode cX12_laysTable 140 = .ok (.iadd, 1) := by decide +kernel
theorem dX12_laysTable_141 : decode cX12_laysTable 141 = .ok (.iaload, 1) := by decide +kernel
theorem dX12_laysTable_142 : decode cX12_laysTable 142 = .ok (.goto 4, 3) := by decide +kernel
theorem dX12_laysTable_145 : decode cX12_laysTable 145 = .ok (.iconst 0, 1) := by decide +kernel
theorem dX12_laysTable_146 : decode cX12_laysTable 146 = .ok (.istore 10, 2) := by decide +kernel
theorem dX12_laysTable_148 : decode cX12_laysTable 148 = .ok (.iload 9, 2) := by decide +kernel
theorem dX12_laysTable_150 : decode cX12_laysTable 150 = .ok (.iload 10, 2) := by decide +kernel
theorem dX12_laysTable_152 : decode cX12_laysTable 152 = .ok (.if_icmp .le 8, 3) := by decide +kernel
theorem dX12_laysTable_155 : decode cX12_laysTable 155 = .ok (.iload 9, 2) := by decide +kernel
theorem dX12_laysTable_157 : decode cX12_laysTable 157 = .ok (.goto 5, 3) := by decide +kernel
theorem dX12_laysTable_160 : decode cX12_laysTable 160 = .ok (.iload 10, 2) := by decide +kernel
theorem dX12_laysTable_162 : decode cX12_laysTable 162 = .ok (.istore 11, 2) := by decide +kernel
theorem dX12_laysTable_164 : decode cX12_laysTable 164 = .ok (.aload_n 0, 1) := by decide +kernel
theorem dX12_laysTable_165 : decode cX12_laysTable 165 = .ok (.getfield 156, 3) := by decide +kernel
theorem dX12_laysTable_168 : decode cX12_laysTable 168 = .ok (.bipush 11, 2) := by decide +kernel
theorem dX12_laysTable_170 : decode cX12_laysTable 170 = .ok (.iload 6, 2) := by decide +kernel
theorem dX12_laysTable_172 : decode cX12_laysTable 172 = .ok (.imul, 1) := by decide +kernel
theorem dX12_laysTable_173 : decode cX12_laysTable 173 = .ok (.iload 7, 2) := by decide +kernel
theorem dX12_laysTable_175 : decode cX12_laysTable 175 = .ok (.iadd, 1) := by decide +kernel
theorem dX12_laysTable_176 : decode cX12_laysTable 176 = .ok (.iload 8, 2) := by decide +kernel
theorem dX12_laysTable_178 : decode cX12_laysTable 178 = .ok (.iload 11, 2) := by decide +kernel
theorem dX12_laysTable_180 : decode cX12_laysTable 180 = .ok (.if_icmp .le 8, 3) := by decide +kernel
theorem dX12_laysTable_183 : decode cX12_laysTable 183 = .ok (.iload 8, 2) := by decide +kernel
theorem dX12_laysTable_185 : decode cX12_laysTable 185 = .ok (.goto 5, 3) := by decide +kernel
theorem dX12_laysTable_188 : decode cX12_laysTable 188 = .ok (.iload 11, 2) := by decide +kernel
theorem dX12_laysTable_190 : decode cX12_laysTable 190 = .ok (.iastore, 1) := by decide +kernel
theorem dX12_laysTable_191 : decode cX12_laysTable 191 = .ok (.iinc 7 (-1), 3) := by decide +kernel
theorem dX12_laysTable_194 : decode cX12_laysTable 194 = .ok (.goto (-165), 3) := by decide +kernel
theorem dX12_laysTable_197 : decode cX12_laysTable 197 = .ok (.iinc 6 (-1), 3) := by decide +kernel
theorem dX12_laysTable_200 : decode cX12_laysTable 200 = .ok (.goto (-180), 3) := by decide +kernel
theorem dX12_laysTable_203 : decode cX12_laysTable 203 = .ok (.return_, 1) := by decide +kernel
theorem dX12_pairs_0 : decode cX12_pairs 0 = .ok (.aload_n 0, 1) := by decide +kernel
theorem dX12_pairs_1 : decode cX12_pairs 1 = .ok (.iload_n 1, 1) := by decide +kernel
theorem dX12_pairs_2 : decode cX12_pairs 2 = .ok (.iload_n 2, 1) := by decide +kernel
theorem dX12_pairs_3 : decode cX12_pairs 3 = .ok (.iload_n 3, 1) := by decide +kernel
theorem dX12_pairs_4 : decode cX12_pairs 4 = .ok (.invokevirtual 218, 3) := by decide +kernel
theorem dX12_pairs_7 : decode cX12_pairs 7 = .ok (.iconst 0, 1) := by decide +kernel
theorem dX12_pairs_8 : decode cX12_pairs 8 = .ok (.istore 4, 2) := by decide +kernel
theorem dX12_pairs_10 : decode cX12_pairs 10 = .ok (.iconst 0, 1) := by decide +kernel
theorem dX12_pairs_11 : decode cX12_pairs 11 = .ok (.istore 5, 2) := by decide +kernel
theorem dX12_pairs_13 : decode cX12_pairs 13 = .ok (.iconst 0, 1) := by decide +kernel
theorem dX12_pairs_14 : decode cX12_pairs 14 = .ok (.istore 6, 2) := by decide +kernel
theorem dX12_pairs_16 : decode cX12_pairs 16 = .ok (.iload 6, 2) := by decide +kernel
theorem dX12_pairs_18 : decode cX12_pairs 18 = .ok (.bipush 10, 2) := by decide +kernel
theorem dX12_pairs_20 : decode cX12_pairs 20 = .ok (.if_icmp .ge 17, 3) := by decide +kernel
theorem dX12_pairs_23 : decode cX12_pairs 23 = .ok (.aload_n 0, 1) := by decide +kernel
theorem dX12_pairs_24 : decode cX12_pairs 24 = .ok (.getfield 159, 3) := by decide +kernel
theorem dX12_pairs_27 : decode cX12_pairs 27 = .ok (.iload 6, 2) := by decide +kernel
theorem dX12_pairs_29 : decode cX12_pairs 29 = .ok (.iconst (-1), 1) := by decide +kernel
theorem dX12_pairs_30 : decode cX12_pairs 30 = .ok (.iastore, 1) := by decide +kernel
theorem dX12_pairs_31 : decode cX12_pairs 31 = .ok (.iinc 6 1, 3) := by decide +kernel
theorem dX12_pairs_34 : decode cX12_pairs 34 = .ok (.goto (-18), 3) := by decide +kernel
theorem dX12_pairs_37 : decode cX12_pairs 37 = .ok (.iload 4, 2) := by decide +kernel
theorem dX12_pairs_39 : decode cX12_pairs 39 = .ok (.aload_n 0, 1) := by decide +kernel
theorem dX12_pairs_40 : decode cX12_pairs 40 = .ok (.iload_n 1, 1) := by decide +kernel
theorem dX12_pairs_41 : decode cX12_pairs 41 = .ok (.iload_n 3, 1) := by decide +kernel
theorem dX12_pairs_42 : decode cX12_pairs 42 = .ok (.invokevirtual 207, 3) := by decide +kernel
theorem dX12_pairs_45 : decode cX12_pairs 45 = .ok (.if_icmp .ge 140, 3) := by decide +kernel
theorem dX12_pairs_48 : decode cX12_pairs 48 = .ok (.iload 5, 2) := by decide +kernel
theorem dX12_pairs_50 : decode cX12_pairs 50 = .ok (.aload_n 0, 1) := by decide +kernel
theorem dX12_pairs_51 : decode cX12_pairs 51 = .ok (.iload_n 2, 1) := by decide +kernel
theorem dX12_pairs_52 : decode cX12_pairs 52 = .ok (.iload_n 3, 1) := by decide +kernel
theorem dX12_pairs_53 : decode cX12_pairs 53 = .ok (.invokevirtual 207, 3) := by decide +kernel
theorem dX12_pairs_56 : decode cX12_pairs 56 = .ok (.if_icmp .ge 129, 3) := by decide +kernel
theorem dX12_pairs_59 : decode cX12_pairs 59 = .ok (.aload_n 0, 1) := by decide +kernel
theorem dX12_pairs_60 : decode cX12_pairs 60 = .ok (.iload_n 1, 1) := by decide +kernel
theorem dX12_pairs_61 : decode cX12_pairs 61 = .ok (.iload_n 3, 1) := by decide +kernel
theorem dX12_pairs_62 : decode cX12_pairs 62 = .ok (.iload 4, 2) := by decide +kernel
theorem dX12_pairs_64 : decode cX12_pairs 64 = .ok (.invokevirtual 214, 3) := by decide +kernel
theorem dX12_pairs_67 : decode cX12_pairs 67 = .ok (.aload_n 0, 1) := by decide +kernel
theorem dX12_pairs_68 : decode cX12_pairs 68 = .ok (.iload_n 2, 1) := by decide +kernel
theorem dX12_pairs_69 : decode cX12_pairs 69 = .ok (.iload_n 3, 1) := by decide +kernel
theorem dX12_pairs_70 : decode cX12_pairs 70 = .ok (.iload 5, 2) := by decide +kernel
theorem dX12_pairs_72 : decode cX12_pairs 72 = .ok (.invokevirtual 214, 3) := by decide +kernel
theorem dX12_pairs_75 : decode cX12_pairs 75 = .ok (.if_icmp .ne 7, 3) := by decide +kernel
theorem dX12_pairs_78 : decode cX12_pairs 78 = .ok (.iconst 1, 1) := by decide +kernel
theorem dX12_pairs_79 : decode cX12_pairs 79 = .ok (.goto 4, 3) := by decide +kernel
theorem dX12_pairs_82 : decode cX12_pairs 82 = .ok (.iconst 0, 1) := by decide +kernel
theorem dX12_pairs_83 : decode cX12_pairs 83 = .ok (.istore 6, 2) := by decide +kernel
theorem dX12_pairs_85 : decode cX12_pairs 85 = .ok (.aload_n 0, 1) := by decide +kernel
theorem dX12_pairs_86 : decode cX12_pairs 86 = .ok (.getfield 156, 3) := by decide +kernel
theorem dX12_pairs_89 : decode cX12_pairs 89 = .ok (.bipush 11, 2) := by decide +kernel
theorem dX12_pairs_91 : decode cX12_pairs 91 = .ok (.iload 4, 2) := by decide +kernel
theorem dX12_pairs_93 : decode cX12_pairs 93 = .ok (.imul, 1) := by decide +kernel
theorem dX12_pairs_94 : decode cX12_pairs 94 = .ok (.iload 5, 2) := by decide +kernel
theorem dX12_pairs_96 : decode cX12_pairs 96 = .ok (.iadd, 1) := by decide +kernel
theorem dX12_pairs_97 : decode cX12_pairs 97 = .ok (.bipush 11, 2) := by decide +kernel
theorem dX12_pairs_99 : decode cX12_pairs 99 = .ok (.iadd, 1) := by decide +kernel
theorem dX12_pairs_100 : decode cX12_pairs 100 = .ok (.iaload, 1) := by decide +kernel
theorem dX12_pairs_101 : decode cX12_pairs 101 = .ok (.aload_n 0, 1) := by decide +kernel
theorem dX12_pairs_102 : decode cX12_pairs 102 = .ok (.getfield 156, 3) := by decide +kernel
theorem dX12_pairs_105 : decode cX12_pairs 105 = .ok (.bipush 11, 2) := by decide +kernel
theorem dX12_pairs_107 : decode cX12_pairs 107 = .ok (.iload 4, 2) := by decide +kernel
theorem dX12_pairs_109 : decode cX12_pairs 109 = .ok (.imul, 1) := by decide +kernel
theorem dX12_pairs_110 : decode cX12_pairs 110 = .ok (.iload 5, 2) := by decide +kernel
theorem dX12_pairs_112 : decode cX12_pairs 112 = .ok (.iadd, 1) := by decide +kernel
theorem dX12_pairs_113 : decode cX12_pairs 113 = .ok (.iaload, 1) := by decide +kernel
theorem dX12_pairs_114 : decode cX12_pairs 114 = .ok (.if_icmp .ne 7, 3) := by decide +kernel
theorem dX12_pairs_117 : decode cX12_pairs 117 = .ok (.iconst 1, 1) := by decide +kernel
theorem dX12_pairs_118 : decode cX12_pairs 118 = .ok (.goto 4, 3) := by decide +kernel
theorem dX12_pairs_121 : decode cX12_pairs 121 = .ok (.iconst 0, 1) := by decide +kernel
theorem dX12_pairs_122 : decode cX12_pairs 122 = .ok (.istore 7, 2) := by decide +kernel
theorem dX12_pairs_124 : decode cX12_pairs 124 = .ok (.aload_n 0, 1) := by decide +kernel
theorem dX12_pairs_125 : decode cX12_pairs 125 = .ok (.getfield 159, 3) := by decide +kernel
theorem dX12_pairs_128 : decode cX12_pairs 128 = .ok (.iload 4, 2) := by decide +kernel
theorem dX12_pairs_130 : decode cX12_pairs 130 = .ok (.iload 6, 2) := by decide +kernel
theorem dX12_pairs_132 : decode cX12_pairs 132 = .ok (.ifCond .eq 8, 3) := by decide +kernel
theorem dX12_pairs_135 : decode cX12_pairs 135 = .ok (.iload 5, 2) := by decide +kernel
theorem dX12_pairs_137 : decode cX12_pairs 137 = .ok (.goto 4, 3) := by decide +kernel
theorem dX12_pairs_140 : decode cX12_pairs 140 = .ok (.iconst (-1), 1) := by decide +kernel
theorem dX12_pairs_141 : decode cX12_pairs 141 = .ok (.iastore, 1) := by decide +kernel
theorem dX12_pairs_142 : decode cX12_pairs 142 = .ok (.iload 5, 2) := by decide +kernel
theorem dX12_pairs_144 : decode cX12_pairs 144 = .ok (.iload 6, 2) := by decide +kernel
theorem dX12_pairs_146 : decode cX12_pairs 146 = .ok (.ifCond .ne 8, 3) := by decide +kernel
theorem dX12_pairs_149 : decode cX12_pairs 149 = .ok (.iload 7, 2) := by decide +kernel
theorem dX12_pairs_151 : decode cX12_pairs 151 = .ok (.ifCond .ne 7, 3) := by decide +kernel
theorem dX12_pairs_154 : decode cX12_pairs 154 = .ok (.iconst 1, 1) := by decide +kernel
theorem dX12_pairs_155 : decode cX12_pairs 155 = .ok (.goto 4, 3) := by decide +kernel
theorem dX12_pairs_158 : decode cX12_pairs 158 = .ok (.iconst 0, 1) := by decide +kernel
theorem dX12_pairs_159 : decode cX12_pairs 159 = .ok (.iadd, 1) := by decide +kernel
theorem dX12_pairs_160 : decode cX12_pairs 160 = .ok (.istore 5, 2) := by decide +kernel
theorem dX12_pairs_162 : decode cX12_pairs 162 = .ok (.iload 4, 2) := by decide +kernel
theorem dX12_pairs_164 : decode cX12_pairs 164 = .ok (.iload 6, 2) := by decide +kernel
theorem dX12_pairs_166 : decode cX12_pairs 166 = .ok (.ifCond .ne 8, 3) := by decide +kernel
theorem dX12_pairs_169 : decode cX12_pairs 169 = .ok (.iload 7, 2) := by decide +kernel
theorem dX12_pairs_171 : decode cX12_pairs 171 = .ok (.ifCond .eq 7, 3) := by decide +kernel
theorem dX12_pairs_174 : decode cX12_pairs 174 = .ok (.iconst 1, 1) := by decide +kernel
theorem dX12_pairs_175 : decode cX12_pairs 175 = .ok (.goto 4, 3) := by decide +kernel
theorem dX12_pairs_178 : decode cX12_pairs 178 = .ok (.iconst 0, 1) := by decide +kernel
theorem dX12_pairs_179 : decode cX12_pairs 179 = .ok (.iadd, 1) := by decide +kernel
theorem dX12_pairs_180 : decode cX12_pairs 180 = .ok (.istore 4, 2) := by decide +kernel
theorem dX12_pairs_182 : decode cX12_pairs 182 = .ok (.goto (-145), 3) := by decide +kernel
theorem dX12_pairs_185 : decode cX12_pairs 185 = .ok (.return_, 1) := by decide +kernel
theorem dX12_laysHunks_0 : decode cX12_laysHunks 0 = .ok (.aload_n 0, 1) := by decide +kernel
theorem dX12_laysHunks_1 : decode cX12_laysHunks 1 = .ok (.iload_n 2, 1) := by decide +kernel
theorem dX12_laysHunks_2 : decode cX12_laysHunks 2 = .ok (.iload_n 3, 1) := by decide +kernel
theorem dX12_laysHunks_3 : decode cX12_laysHunks 3 = .ok (.iload 4, 2) := by decide +kernel
theorem dX12_laysHunks_5 : decode cX12_laysHunks 5 = .ok (.invokevirtual 222, 3) := by decide +kernel
theorem dX12_laysHunks_8 : decode cX12_laysHunks 8 = .ok (.aload_n 0, 1) := by decide +kernel
theorem dX12_laysHunks_9 : decode cX12_laysHunks 9 = .ok (.getfield 180, 3) := by decide +kernel
theorem dX12_laysHunks_12 : decode cX12_laysHunks 12 = .ok (.iload_n 1, 1) := by decide +kernel
theorem dX12_laysHunks_13 : decode cX12_laysHunks 13 = .ok (.iconst 0, 1) := by decide +kernel
theorem dX12_laysHunks_14 : decode cX12_laysHunks 14 = .ok (.iastore, 1) := by decide +kernel
theorem dX12_laysHunks_15 : decode cX12_laysHunks 15 = .ok (.iconst 0, 1) := by decide +kernel
theorem dX12_laysHunks_16 : decode cX12_laysHunks 16 = .ok (.istore 5, 2) := by decide +kernel
theorem dX12_laysHunks_18 : decode cX12_laysHunks 18 = .ok (.iconst 0, 1) := by decide +kernel
theorem dX12_laysHunks_19 : decode cX12_laysHunks 19 = .ok (.istore 6, 2) := by decide +kernel
theorem dX12_laysHunks_21 : decode cX12_laysHunks 21 = .ok (.iload 5, 2) := by decide +kernel
theorem dX12_laysHunks_23 : decode cX12_laysHunks 23 = .ok (.aload_n 0, 1) := by decide +kernel
theorem dX12_laysHunks_24 : decode cX12_laysHunks 24 = .ok (.iload_n 2, 1) := by decide +kernel
theorem dX12_laysHunks_25 : decode cX12_laysHunks 25 = .ok (.iload 4, 2) := by decide +kernel
theorem dX12_laysHunks_27 : decode cX12_laysHunks 27 = .ok (.invokevirtual 207, 3) := by decide +kernel
theorem dX12_laysHunks_30 : decode cX12_laysHunks 30 = .ok (.if_icmp .lt 15, 3) := by decide +kernel
theorem dX12_laysHunks_33 : decode cX12_laysHunks 33 = .ok (.iload 6, 2) := by decide +kernel
theorem dX12_laysHunks_35 : decode cX12_laysHunks 35 = .ok (.aload_n 0, 1) := by decide +kernel
theorem dX12_laysHunks_36 : decode cX12_laysHunks 36 = .ok (.iload_n 3, 1) := by decide +kernel
theorem dX12_laysHunks_37 : decode cX12_laysHunks 37 = .ok (.iload 4, 2) := by decide +kernel
theorem dX12_laysHunks_39 : decode cX12_laysHunks 39 = .ok (.invokevirtual 207, 3) := by decide +kernel
theorem dX12_laysHunks_42 : decode cX12_laysHunks 42 = .ok (.if_icmp .ge 213, 3) := by decide +kernel
theorem dX12_laysHunks_45 : decode cX12_laysHunks 45 = .ok (.iload 5, 2) := by decide +kernel
theorem dX12_laysHunks_47 : decode cX12_laysHunks 47 = .ok (.istore 7, 2) := by decide +kernel
theorem dX12_laysHunks_49 : decode cX12_laysHunks 49 = .ok (.iload 6, 2) := by decide +kernel
theorem dX12_laysHunks_51 : decode cX12_laysHunks 51 = .ok (.istore 8, 2) := by decide +kernel
theorem dX12_laysHunks_53 : decode cX12_laysHunks 53 = .ok (.iload 5, 2) := by decide +kernel
theorem dX12_laysHunks_55 : decode cX12_laysHunks 55 = .ok (.aload_n 0, 1) := by decide +kernel
theorem dX12_laysHunks_56 : decode cX12_laysHunks 56 = .ok (.iload_n 2, 1) := by decide +kernel
theorem dX12_laysHunks_57 : decode cX12_laysHunks 57 = .ok (.iload 4, 2) := by decide +kernel
theorem dX12_laysHunks_59 : decode cX12_laysHunks 59 = .ok (.invokevirtual 207, 3) := by decide +kernel
theorem dX12_laysHunks_62 : decode cX12_laysHunks 62 = .ok (.if_icmp .ge 20, 3) := by decide +kernel
theorem dX12_laysHunks_65 : decode cX12_laysHunks 65 = .ok (.aload_n 0, 1) := by decide +kernel
theorem dX12_laysHunks_66 : decode cX12_laysHunks 66 = .ok (.getfield 159, 3) := by decide +kernel
theorem dX12_laysHunks_69 : decode cX12_laysHunks 69 = .ok (.iload 5, 2) := by decide +kernel
theorem dX12_laysHunks_71 : decode cX12_laysHunks 71 = .ok (.iaload, 1) := by decide +kernel
theorem dX12_laysHunks_72 : decode cX12_laysHunks 72 = .ok (.iconst (-1), 1) := by decide +kernel
theorem dX12_laysHunks_73 : decode cX12_laysHunks 73 = .ok (.if_icmp .ne 9, 3) := by decide +kernel
theorem dX12_laysHunks_76 : decode cX12_laysHunks 76 = .ok (.iinc 5 1, 3) := by decide +kernel
theorem dX12_laysHunks_79 : decode cX12_laysHunks 79 = .ok (.goto (-26), 3) := by decide +kernel
theorem dX12_laysHunks_82 : decode cX12_laysHunks 82 = .ok (.iload 5, 2) := by decide +kernel
theorem dX12_laysHunks_84 : decode cX12_laysHunks 84 = .ok (.aload_n 0, 1) := by decide +kernel
theorem dX12_laysHunks_85 : decode cX12_laysHunks 85 = .ok (.iload_n 2, 1) := by decide +kernel
theorem dX12_laysHunks_86 : decode cX12_laysHunks 86 = .ok (.iload 4, 2) := by decide +kernel
theorem dX12_laysHunks_88 : decode cX12_laysHunks 88 = .ok (.invokevirtual 207, 3) := by decide +kernel
theorem dX12_laysHunks_91 : decode cX12_laysHunks 91 = .ok (.if_icmp .ge 13, 3) := by decide +kernel
theorem dX12_laysHunks_94 : decode cX12_laysHunks 94 = .ok (.aload_n 0, 1) := by decide +kernel
theorem dX12_laysHunks_95 : decode cX12_laysHunks 95 = .ok (.getfield 159, 3) := by decide +kernel
theorem dX12_laysHunks_98 : decode cX12_laysHunks 98 = .ok (.iload 5, 2) := by decide +kernel
theorem dX12_laysHunks_100 : decode cX12_laysHunks 100 = .ok (.iaload, 1) := by decide +kernel
theorem dX12_laysHunks_101 : decode cX12_laysHunks 101 = .ok (.goto 10, 3) := by decide +kernel
theorem dX12_laysHunks_104 : decode cX12_laysHunks 104 = .ok (.aload_n 0, 1) := by decide +kernel
theorem dX12_laysHunks_105 : decode cX12_laysHunks 105 = .ok (.iload_n 3, 1) := by decide +kernel
theorem dX12_laysHunks_106 : decode cX12_laysHunks 106 = .ok (.iload 4, 2) := by decide +kernel
theorem dX12_laysHunks_108 : decode cX12_laysHunks 108 = .ok (.invokevirtual 207, 3) := by decide +kernel
theorem dX12_laysHunks_111 : decode cX12_laysHunks 111 = .ok (.istore 6, 2) := by decide +kernel
theorem dX12_laysHunks_113 : decode cX12_laysHunks 113 = .ok (.iload 5, 2) := by decide +kernel
theorem dX12_laysHunks_115 : decode cX12_laysHunks 115 = .ok (.iload 7, 2) := by decide +kernel
theorem dX12_laysHunks_117 : decode cX12_laysHunks 117 = .ok (.if_icmp .gt 10, 3) := by decide +kernel
theorem dX12_laysHunks_120 : decode cX12_laysHunks 120 = .ok (.iload 6, 2) := by decide +kernel
theorem dX12_laysHunks_122 : decode cX12_laysHunks 122 = .ok (.iload 8, 2) := by decide +kernel
theorem dX12_laysHunks_124 : decode cX12_laysHunks 124 = .ok (.if_icmp .le 84, 3) := by decide +kernel
theorem dX12_laysHunks_127 : decode cX12_laysHunks 127 = .ok (.bipush 15, 2) := by decide +kernel
theorem dX12_laysHunks_129 : decode cX12_laysHunks 129 = .ok (.iload_n 1, 1) := by decide +kernel
theorem dX12_laysHunks_130 : decode cX12_laysHunks 130 = .ok (.imul, 1) := by decide +kernel
theorem dX12_laysHunks_131 : decode cX12_laysHunks 131 = .ok (.aload_n 0, 1) := by decide +kernel
theorem dX12_laysHunks_132 : decode cX12_laysHunks 132 = .ok (.getfield 180, 3) := by decide +kernel
theorem dX12_laysHunks_135 : decode cX12_laysHunks 135 = .ok (.iload_n 1, 1) := by decide +kernel
theorem dX12_laysHunks_136 : decode cX12_laysHunks 136 = .ok (.iaload, 1) := by decide +kernel
theorem dX12_laysHunks_137 : decode cX12_laysHunks 137 = .ok (.iadd, 1) := by decide +kernel
theorem dX12_laysHunks_138 : decode cX12_laysHunks 138 = .ok (.istore 9, 2) := by decide +kernel
theorem dX12_laysHunks_140 : decode cX12_laysHunks 140 = .ok (.aload_n 0, 1) := by decide +kernel
theorem dX12_laysHunks_141 : decode cX12_laysHunks 141 = .ok (.getfield 162, 3) := by decide +kernel
theorem dX12_laysHunks_144 : decode cX12_laysHunks 144 = .ok (.iload 9, 2) := by decide +kernel
theorem dX12_laysHunks_146 : decode cX12_laysHunks 146 = .ok (.iload 7, 2) := by decide +kernel
theorem dX12_laysHunks_148 : decode cX12_laysHunks 148 = .ok (.iastore, 1) := by decide +kernel
theorem dX12_laysHunks_149 : decode cX12_laysHunks 149 = .ok (.aload_n 0, 1) := by decide +kernel
theorem dX12_laysHunks_150 : decode cX12_laysHunks 150 = .ok (.getfield 165, 3) := by decide +kernel
theorem dX12_laysHunks_153 : decode cX12_laysHunks 153 = .ok (.iload 9, 2) := by decide +kernel
theorem dX12_laysHunks_155 : decode cX12_laysHunks 155 = .ok (.iload 8, 2) := by decide +kernel
theorem dX12_laysHunks_157 : decode cX12_laysHunks 157 = .ok (.iastore, 1) := by decide +kernel
theorem dX12_laysHunks_158 : decode cX12_laysHunks 158 = .ok (.aload_n 0, 1) := by decide +kernel
theorem dX12_laysHunks_159 : decode cX12_laysHunks 159 = .ok (.getfield 168, 3) := by decide +kernel
theorem dX12_laysHunks_162 : decode cX12_laysHunks 162 = .ok (.iload 9, 2) := by decide +kernel
theorem dX12_laysHunks_164 : decode cX12_laysHunks 164 = .ok (.iload 5, 2) := by decide +kernel
theorem dX12_laysHunks_166 : decode cX12_laysHunks 166 = .ok (.iload 7, 2) := by decide +kernel
theorem dX12_laysHunks_168 : decode cX12_laysHunks 168 = .ok (.isub, 1) := by decide +kernel
theorem dX12_laysHunks_169 : decode cX12_laysHunks 169 = .ok (.iastore, 1) := by decide +kernel
theorem dX12_laysHunks_170 : decode cX12_laysHunks 170 = .ok (.aload_n 0, 1) := by decide +kernel
theorem dX12_laysHunks_171 : decode cX12_laysHunks 171 = .ok (.getfield 171, 3) := by decide +kernel
theorem dX12_laysHunks_174 : decode cX12_laysHunks 174 = .ok (.iload 9, 2) := by decide +kernel
theorem dX12_laysHunks_176 : decode cX12_laysHunks 176 = .ok (.iload 6, 2) := by decide +kernel
theorem dX12_laysHunks_178 : decode cX12_laysHunks 178 = .ok (.iload 8, 2) := by decide +kernel
theorem dX12_laysHunks_180 : decode cX12_laysHunks 180 = .ok (.isub, 1) := by decide +kernel
theorem dX12_laysHunks_181 : decode cX12_laysHunks 181 = .ok (.iastore, 1) := by decide +kernel
theorem dX12_laysHunks_182 : decode cX12_laysHunks 182 = .ok (.aload_n 0, 1) := by decide +kernel
theorem dX12_laysHunks_183 : decode cX12_laysHunks 183 = .ok (.getfield 174, 3) := by decide +kernel
theorem dX12_laysHunks_186 : decode cX12_laysHunks 186 = .ok (.iload 9, 2) := by decide +kernel
theorem dX12_laysHunks_188 : decode cX12_laysHunks 188 = .ok (.iload_n 2, 1) := by decide +kernel
theorem dX12_laysHunks_189 : decode cX12_laysHunks 189 = .ok (.iastore, 1) := by decide +kernel
theorem dX12_laysHunks_190 : decode cX12_laysHunks 190 = .ok (.aload_n 0, 1) := by decide +kernel
theorem dX12_laysHunks_191 : decode cX12_laysHunks 191 = .ok (.getfield 177, 3) := by decide +kernel
theorem dX12_laysHunks_194 : decode cX12_laysHunks 194 = .ok (.iload 9, 2) := by decide +kernel
theorem dX12_laysHunks_196 : decode cX12_laysHunks 196 = .ok (.iload_n 3, 1) := by decide +kernel
theorem dX12_laysHunks_197 : decode cX12_laysHunks 197 = .ok (.iastore, 1) := by decide +kernel
theorem dX12_laysHunks_198 : decode cX12_laysHunks 198 = .ok (.aload_n 0, 1) := by decide +kernel
theorem dX12_laysHunks_199 : decode cX12_laysHunks 199 = .ok (.getfield 180, 3) := by decide +kernel
theorem dX12_laysHunks_202 : decode cX12_laysHunks 202 = .ok (.iload_n 1, 1) := by decide +kernel
theorem dX12_laysHunks_203 : decode cX12_laysHunks 203 = .ok (.dup2, 1) := by decide +kernel
theorem dX12_laysHunks_204 : decode cX12_laysHunks 204 = .ok (.iaload, 1) := by decide +kernel
theorem dX12_laysHunks_205 : decode cX12_laysHunks 205 = .ok (.iconst 1, 1) := by decide +kernel
theorem dX12_laysHunks_206 : decode cX12_laysHunks 206 = .ok (.iadd, 1) := by decide +kernel
theorem dX12_laysHunks_207 : decode cX12_laysHunks 207 = .ok (.iastore, 1) := by decide +kernel
theorem dX12_laysHunks_208 : decode cX12_laysHunks 208 = .ok (.iload 5, 2) := by decide +kernel
theorem dX12_laysHunks_210 : decode cX12_laysHunks 210 = .ok (.iload 5, 2) := by decide +kernel
theorem dX12_laysHunks_212 : decode cX12_laysHunks 212 = .ok (.aload_n 0, 1) := by decide +kernel
theorem dX12_laysHunks_213 : decode cX12_laysHunks 213 = .ok (.iload_n 2, 1) := by decide +kernel
theorem dX12_laysHunks_214 : decode cX12_laysHunks 214 = .ok (.iload 4, 2) := by decide +kernel
theorem dX12_laysHunks_216 : decode cX12_laysHunks 216 = .ok (.invokevirtual 207, 3) := by decide +kernel
theorem dX12_laysHunks_219 : decode cX12_laysHunks 219 = .ok (.if_icmp .ge 7, 3) := by decide +kernel
theorem dX12_laysHunks_222 : decode cX12_laysHunks 222 = .ok (.iconst 1, 1) := by decide +kernel
theorem dX12_laysHunks_223 : decode cX12_laysHunks 223 = .ok (.goto 4, 3) := by decide +kernel
theorem dX12_laysHunks_226 : decode cX12_laysHunks 226 = .ok (.iconst 0, 1) := by decide +kernel
theorem dX12_laysHunks_227 : decode cX12_laysHunks 227 = .ok (.iadd, 1) := by decide +kernel
theorem dX12_laysHunks_228 : decode cX12_laysHunks 228 = .ok (.istore 5, 2) := by decide +kernel
theorem dX12_laysHunks_230 : decode cX12_laysHunks 230 = .ok (.iload 6, 2) := by decide +kernel
theorem dX12_laysHunks_232 : decode cX12_laysHunks 232 = .ok (.iload 6, 2) := by decide +kernel
theorem dX12_laysHunks_234 : decode cX12_laysHunks 234 = .ok (.aload_n 0, 1) := by decide +kernel
theorem dX12_laysHunks_235 : decode cX12_laysHunks 235 = .ok (.iload_n 3, 1) := by decide +kernel
theorem dX12_laysHunks_236 : decode cX12_laysHunks 236 = .ok (.iload 4, 2) := by decide +kernel
theorem dX12_laysHunks_238 : decode cX12_laysHunks 238 = .ok (.invokevirtual 207, 3) := by decide +kernel
theorem dX12_laysHunks_241 : decode cX12_laysHunks 241 = .ok (.if_icmp .ge 7, 3) := by decide +kernel
theorem dX12_laysHunks_244 : decode cX12_laysHunks 244 = .ok (.iconst 1, 1) := by decide +kernel
theorem dX12_laysHunks_245 : decode cX12_laysHunks 245 = .ok (.goto 4, 3) := by decide +kernel
theorem dX12_laysHunks_248 : decode cX12_laysHunks 248 = .ok (.iconst 0, 1) := by decide +kernel
theorem dX12_laysHunks_249 : decode cX12_laysHunks 249 = .ok (.iadd, 1) := by decide +kernel
theorem dX12_laysHunks_250 : decode cX12_laysHunks 250 = .ok (.istore 6, 2) := by decide +kernel
theorem dX12_laysHunks_252 : decode cX12_laysHunks 252 = .ok (.goto (-231), 3) := by decide +kernel
theorem dX12_laysHunks_255 : decode cX12_laysHunks 255 = .ok (.return_, 1) := by decide +kernel
theorem dX12_areAlike_0 : decode cX12_areAlike 0 = .ok (.aload_n 0, 1) := by decide +kernel
theorem dX12_areAlike_1 : decode cX12_areAlike 1 = .ok (.getfield 168, 3) := by decide +kernel
theorem dX12_areAlike_4 : decode cX12_areAlike 4 = .ok (.iload_n 1, 1) := by decide +kernel
theorem dX12_areAlike_5 : decode cX12_areAlike 5 = .ok (.iaload, 1) := by decide +kernel
theorem dX12_areAlike_6 : decode cX12_areAlike 6 = .ok (.aload_n 0, 1) := by decide +kernel
theorem dX12_areAlike_7 : decode cX12_areAlike 7 = .ok (.getfield 168, 3) := by decide +kernel
theorem dX12_areAlike_10 : decode cX12_areAlike 10 = .ok (.iload_n 2, 1) := by decide +kernel
theorem dX12_areAlike_11 : decode cX12_areAlike 11 = .ok (.iaload, 1) := by decide +kernel
theorem dX12_areAlike_12 : decode cX12_areAlike 12 = .ok (.if_icmp .ne 22, 3) := by decide +kernel
theorem dX12_areAlike_15 : decode cX12_areAlike 15 = .ok (.aload_n 0, 1) := by decide +kernel
theorem dX12_areAlike_16 : decode cX12_areAlike 16 = .ok (.getfield 171, 3) := by decide +kernel
theorem dX12_areAlike_19 : decode cX12_areAlike 19 = .ok (.iload_n 1, 1) := by decide +kernel
theorem dX12_areAlike_20 : decode cX12_areAlike 20 = .ok (.iaload, 1) := by decide +kernel
theorem dX12_areAlike_21 : decode cX12_areAlike 21 = .ok (.aload_n 0, 1) := by decide +kernel
theorem dX12_areAlike_22 : decode cX12_areAlike 22 = .ok (.getfield 171, 3) := by decide +kernel
theorem dX12_areAlike_25 : decode cX12_areAlike 25 = .ok (.iload_n 2, 1) := by decide +kernel
theorem dX12_areAlike_26 : decode cX12_areAlike 26 = .ok (.iaload, 1) := by decide +kernel
theorem dX12_areAlike_27 : decode cX12_areAlike 27 = .ok (.if_icmp .ne 7, 3) := by decide +kernel
theorem dX12_areAlike_30 : decode cX12_areAlike 30 = .ok (.iconst 1, 1) := by decide +kernel
theorem dX12_areAlike_31 : decode cX12_areAlike 31 = .ok (.goto 4, 3) := by decide +kernel
theorem dX12_areAlike_34 : decode cX12_areAlike 34 = .ok (.iconst 0, 1) := by decide +kernel
theorem dX12_areAlike_35 : decode cX12_areAlike 35 = .ok (.istore 4, 2) := by decide +kernel
theorem dX12_areAlike_37 : decode cX12_areAlike 37 = .ok (.iconst 0, 1) := by decide +kernel
theorem dX12_areAlike_38 : decode cX12_areAlike 38 = .ok (.istore 5, 2) := by decide +kernel
theorem dX12_areAlike_40 : decode cX12_areAlike 40 = .ok (.iload 5, 2) := by decide +kernel
theorem dX12_areAlike_42 : decode cX12_areAlike 42 = .ok (.aload_n 0, 1) := by decide +kernel
theorem dX12_areAlike_43 : decode cX12_areAlike 43 = .ok (.getfield 168, 3) := by decide +kernel
theorem dX12_areAlike_46 : decode cX12_areAlike 46 = .ok (.iload_n 1, 1) := by decide +kernel
theorem dX12_areAlike_47 : decode cX12_areAlike 47 = .ok (.iaload, 1) := by decide +kernel
theorem dX12_areAlike_48 : decode cX12_areAlike 48 = .ok (.if_icmp .ge 64, 3) := by decide +kernel
theorem dX12_areAlike_51 : decode cX12_areAlike 51 = .ok (.iload 4, 2) := by decide +kernel
theorem dX12_areAlike_53 : decode cX12_areAlike 53 = .ok (.ifCond .eq 59, 3) := by decide +kernel
theorem dX12_areAlike_56 : decode cX12_areAlike 56 = .ok (.aload_n 0, 1) := by decide +kernel
theorem dX12_areAlike_57 : decode cX12_areAlike 57 = .ok (.aload_n 0, 1) := by decide +kernel
theorem dX12_areAlike_58 : decode cX12_areAlike 58 = .ok (.getfield 174, 3) := by decide +kernel
theorem dX12_areAlike_61 : decode cX12_areAlike 61 = .ok (.iload_n 1, 1) := by decide +kernel
theorem dX12_areAlike_62 : decode cX12_areAlike 62 = .ok (.iaload, 1) := by decide +kernel
theorem dX12_areAlike_63 : decode cX12_areAlike 63 = .ok (.iload_n 3, 1) := by decide +kernel
theorem dX12_areAlike_64 : decode cX12_areAlike 64 = .ok (.aload_n 0, 1) := by decide +kernel
theorem dX12_areAlike_65 : decode cX12_areAlike 65 = .ok (.getfield 162, 3) := by decide +kernel
theorem dX12_areAlike_68 : decode cX12_areAlike 68 = .ok (.iload_n 1, 1) := by decide +kernel
theorem dX12_areAlike_69 : decode cX12_areAlike 69 = .ok (.iaload, 1) := by decide +kernel
theorem dX12_areAlike_70 : decode cX12_areAlike 70 = .ok (.iload 5, 2) := by decide +kernel
theorem dX12_areAlike_72 : decode cX12_areAlike 72 = .ok (.iadd, 1) := by decide +kernel
theorem dX12_areAlike_73 : decode cX12_areAlike 73 = .ok (.invokevirtual 214, 3) := by decide +kernel
theorem dX12_areAlike_76 : decode cX12_areAlike 76 = .ok (.aload_n 0, 1) := by decide +kernel
theorem dX12_areAlike_77 : decode cX12_areAlike 77 = .ok (.aload_n 0, 1) := by decide +kernel
theorem dX12_areAlike_78 : decode cX12_areAlike 78 = .ok (.getfield 174, 3) := by decide +kernel
theorem dX12_areAlike_81 : decode cX12_areAlike 81 = .ok (.iload_n 2, 1) := by decide +kernel
theorem dX12_areAlike_82 : decode cX12_areAlike 82 = .ok (.iaload, 1) := by decide +kernel
theorem dX12_areAlike_83 : decode cX12_areAlike 83 = .ok (.iload_n 3, 1) := by decide +kernel
theorem dX12_areAlike_84 : decode cX12_areAlike 84 = .ok (.aload_n 0, 1) := by decide +kernel
theorem dX12_areAlike_85 : decode cX12_areAlike 85 = .ok (.getfield 162, 3) := by decide +kernel
theorem dX12_areAlike_88 : decode cX12_areAlike 88 = .ok (.iload_n 2, 1) := by decide +kernel
theorem dX12_areAlike_89 : decode cX12_areAlike 89 = .ok (.iaload, 1) := by decide +kernel
theorem dX12_areAlike_90 : decode cX12_areAlike 90 = .ok (.iload 5, 2) := by decide +kernel
theorem dX12_areAlike_92 : decode cX12_areAlike 92 = .ok (.iadd, 1) := by decide +kernel
theorem dX12_areAlike_93 : decode cX12_areAlike 93 = .ok (.invokevirtual 214, 3) := by decide +kernel
theorem dX12_areAlike_96 : decode cX12_areAlike 96 = .ok (.if_icmp .ne 7, 3) := by decide +kernel
theorem dX12_areAlike_99 : decode cX12_areAlike 99 = .ok (.iconst 1, 1) := by decide +kernel
theorem dX12_areAlike_100 : decode cX12_areAlike 100 = .ok (.goto 4, 3) := by decide +kernel
theorem dX12_areAlike_103 : decode cX12_areAlike 103 = .ok (.iconst 0, 1) := by decide +kernel
theorem dX12_areAlike_104 : decode cX12_areAlike 104 = .ok (.istore 4, 2) := by decide +kernel
theorem dX12_areAlike_106 : decode cX12_areAlike 106 = .ok (.iinc 5 1, 3) := by decide +kernel
theorem dX12_areAlike_109 : decode cX12_areAlike 109 = .ok (.goto (-69), 3) := by decide +kernel
theorem dX12_areAlike_112 : decode cX12_areAlike 112 = .ok (.iconst 0, 1) := by decide +kernel
theorem dX12_areAlike_113 : decode cX12_areAlike 113 = .ok (.istore 5, 2) := by decide +kernel
theorem dX12_areAlike_115 : decode cX12_areAlike 115 = .ok (.iload 5, 2) := by decide +kernel
theorem dX12_areAlike_117 : decode cX12_areAlike 117 = .ok (.aload_n 0, 1) := by decide +kernel
theorem dX12_areAlike_118 : decode cX12_areAlike 118 = .ok (.getfield 171, 3) := by decide +kernel
theorem dX12_areAlike_121 : decode cX12_areAlike 121 = .ok (.iload_n 1, 1) := by decide +kernel
theorem dX12_areAlike_122 : decode cX12_areAlike 122 = .ok (.iaload, 1) := by decide +kernel
theorem dX12_areAlike_123 : decode cX12_areAlike 123 = .ok (.if_icmp .ge 64, 3) := by decide +kernel
theorem dX12_areAlike_126 : decode cX12_areAlike 126 = .ok (.iload 4, 2) := by decide +kernel
theorem dX12_areAlike_128 : decode cX12_areAlike 128 = .ok (.ifCond .eq 59, 3) := by decide +kernel
theorem dX12_areAlike_131 : decode cX12_areAlike 131 = .ok (.aload_n 0, 1) := by decide +kernel
theorem dX12_areAlike_132 : decode cX12_areAlike 132 = .ok (.aload_n 0, 1) := by decide +kernel
theorem dX12_areAlike_133 : decode cX12_areAlike 133 = .ok (.getfield 177, 3) := by decide +kernel
theorem dX12_areAlike_136 : decode cX12_areAlike 136 = .ok (.iload_n 1, 1) := by decide +kernel
theorem dX12_areAlike_137 : decode cX12_areAlike 137 = .ok (.iaload, 1) := by decide +kernel
theorem dX12_areAlike_138 : decode cX12_areAlike 138 = .ok (.iload_n 3, 1) := by decide +kernel
theorem dX12_areAlike_139 : decode cX12_areAlike 139 = .ok (.aload_n 0, 1) := by decide +kernel
theorem dX12_areAlike_140 : decode cX12_areAlike 140 = .ok (.getfield 165, 3) := by decide +kernel
theorem dX12_areAlike_143 : decode cX12_areAlike 143 = .ok (.iload_n 1, 1) := by decide +kernel
theorem dX12_areAlike_144 : decode cX12_areAlike 144 = .ok (.iaload, 1) := by decide +kernel
theorem dX12_areAlike_145 : decode cX12_areAlike 145 = .ok (.iload 5, 2) := by decide +kernel
theorem dX12_areAlike_147 : decode cX12_areAlike 147 = .ok (.iadd, 1) := by decide +kernel
theorem dX12_areAlike_148 : decode cX12_areAlike 148 = .ok (.invokevirtual 214, 3) := by decide +kernel
theorem dX12_areAlike_151 : decode cX12_areAlike 151 = .ok (.aload_n 0, 1) := by decide +kernel
theorem dX12_areAlike_152 : decode cX12_areAlike 152 = .ok (.aload_n 0, 1) := by decide +kernel
theorem dX12_areAlike_153 : decode cX12_areAlike 153 = .ok (.getfield 177, 3) := by decide +kernel
theorem dX12_areAlike_156 : decode cX12_areAlike 156 = .ok (.iload_n 2, 1) := by decide +kernel
theorem dX12_areAlike_157 : decode cX12_areAlike 157 = .ok (.iaload, 1) := by decide +kernel
theorem dX12_areAlike_158 : decode cX12_areAlike 158 = .ok (.iload_n 3, 1) := by decide +kernel
theorem dX12_areAlike_159 : decode cX12_areAlike 159 = .ok (.aload_n 0, 1) := by decide +kernel
theorem dX12_areAlike_160 : decode cX12_areAlike 160 = .ok (.getfield 165, 3) := by decide +kernel
theorem dX12_areAlike_163 : decode cX12_areAlike 163 = .ok (.iload_n 2, 1) := by decide +kernel
theorem dX12_areAlike_164 : decode cX12_areAlike 164 = .ok (.iaload, 1) := by decide +kernel
theorem dX12_areAlike_165 : decode cX12_areAlike 165 = .ok (.iload 5, 2) := by decide +kernel
theorem dX12_areAlike_167 : decode cX12_areAlike 167 = .ok (.iadd, 1) := by decide +kernel
theorem dX12_areAlike_168 : decode cX12_areAlike 168 = .ok (.invokevirtual 214, 3) := by decide +kernel
theorem dX12_areAlike_171 : decode cX12_areAlike 171 = .ok (.if_icmp .ne 7, 3) := by decide +kernel
theorem dX12_areAlike_174 : decode cX12_areAlike 174 = .ok (.iconst 1, 1) := by decide +kernel
theorem dX12_areAlike_175 : decode cX12_areAlike 175 = .ok (.goto 4, 3) := by decide +kernel
theorem dX12_areAlike_178 : decode cX12_areAlike 178 = .ok (.iconst 0, 1) := by decide +kernel
theorem dX12_areAlike_179 : decode cX12_areAlike 179 = .ok (.istore 4, 2) := by decide +kernel
theorem dX12_areAlike_181 : decode cX12_areAlike 181 = .ok (.iinc 5 1, 3) := by decide +kernel
theorem dX12_areAlike_184 : decode cX12_areAlike 184 = .ok (.goto (-69), 3) := by decide +kernel
theorem dX12_areAlike_187 : decode cX12_areAlike 187 = .ok (.iload 4, 2) := by decide +kernel
theorem dX12_areAlike_189 : decode cX12_areAlike 189 = .ok (.ireturn, 1) := by decide +kernel
theorem dX12_fills_0 : decode cX12_fills 0 = .ok (.iconst 0, 1) := by decide +kernel
theorem dX12_fills_1 : decode cX12_fills 1 = .ok (.istore 5, 2) := by decide +kernel
theorem dX12_fills_3 : decode cX12_fills 3 = .ok (.iload 5, 2) := by decide +kernel
theorem dX12_fills_5 : decode cX12_fills 5 = .ok (.iload 4, 2) := by decide +kernel
theorem dX12_fills_7 : decode cX12_fills 7 = .ok (.if_icmp .ge 38, 3) := by decide +kernel
theorem dX12_fills_10 : decode cX12_fills 10 = .ok (.aload_n 0, 1) := by decide +kernel
theorem dX12_fills_11 : decode cX12_fills 11 = .ok (.getfield 183, 3) := by decide +kernel
theorem dX12_fills_14 : decode cX12_fills 14 = .ok (.aload_n 0, 1) := by decide +kernel
theorem dX12_fills_15 : decode cX12_fills 15 = .ok (.getfield 224, 3) := by decide +kernel
theorem dX12_fills_18 : decode cX12_fills 18 = .ok (.aload_n 0, 1) := by decide +kernel
theorem dX12_fills_19 : decode cX12_fills 19 = .ok (.iload_n 1, 1) := by decide +kernel
theorem dX12_fills_20 : decode cX12_fills 20 = .ok (.iload_n 2, 1) := by decide +kernel
theorem dX12_fills_21 : decode cX12_fills 21 = .ok (.iload_n 3, 1) := by decide +kernel
theorem dX12_fills_22 : decode cX12_fills 22 = .ok (.iload 5, 2) := by decide +kernel
theorem dX12_fills_24 : decode cX12_fills 24 = .ok (.iadd, 1) := by decide +kernel
theorem dX12_fills_25 : decode cX12_fills 25 = .ok (.invokevirtual 214, 3) := by decide +kernel
theorem dX12_fills_28 : decode cX12_fills 28 = .ok (.iastore, 1) := by decide +kernel
theorem dX12_fills_29 : decode cX12_fills 29 = .ok (.aload_n 0, 1) := by decide +kernel
theorem dX12_fills_30 : decode cX12_fills 30 = .ok (.dup, 1) := by decide +kernel
theorem dX12_fills_31 : decode cX12_fills 31 = .ok (.getfield 224, 3) := by decide +kernel
theorem dX12_fills_34 : decode cX12_fills 34 = .ok (.iconst 1, 1) := by decide +kernel
theorem dX12_fills_35 : decode cX12_fills 35 = .ok (.iadd, 1) := by decide +kernel
theorem dX12_fills_36 : decode cX12_fills 36 = .ok (.putfield 224, 3) := by decide +kernel
theorem dX12_fills_39 : decode cX12_fills 39 = .ok (.iinc 5 1, 3) := by decide +kernel
theorem dX12_fills_42 : decode cX12_fills 42 = .ok (.goto (-39), 3) := by decide +kernel
theorem dX12_fills_45 : decode cX12_fills 45 = .ok (.return_, 1) := by decide +kernel
theorem dX12_isConflict_0 : decode cX12_isConflict 0 = .ok (.iconst 0, 1) := by decide +kernel
theorem dX12_isConflict_1 : decode cX12_isConflict 1 = .ok (.istore_n 2, 1) := by decide +kernel
theorem dX12_isConflict_2 : decode cX12_isConflict 2 = .ok (.iconst 0, 1) := by decide +kernel
theorem dX12_isConflict_3 : decode cX12_isConflict 3 = .ok (.istore_n 3, 1) := by decide +kernel
theorem dX12_isConflict_4 : decode cX12_isConflict 4 = .ok (.iload_n 3, 1) := by decide +kernel
theorem dX12_isConflict_5 : decode cX12_isConflict 5 = .ok (.aload_n 0, 1) := by decide +kernel
theorem dX12_isConflict_6 : decode cX12_isConflict 6 = .ok (.getfield 180, 3) := by decide +kernel
theorem dX12_isConflict_9 : decode cX12_isConflict 9 = .ok (.iconst 0, 1) := by decide +kernel
theorem dX12_isConflict_10 : decode cX12_isConflict 10 = .ok (.iaload, 1) := by decide +kernel
theorem dX12_isConflict_11 : decode cX12_isConflict 11 = .ok (.if_icmp .ge 129, 3) := by decide +kernel
theorem dX12_isConflict_14 : decode cX12_isConflict 14 = .ok (.bipush 15, 2) := by decide +kernel
theorem dX12_isConflict_16 : decode cX12_isConflict 16 = .ok (.istore 4, 2) := by decide +kernel
theorem dX12_isConflict_18 : decode cX12_isConflict 18 = .ok (.iload 4, 2) := by decide +kernel
theorem dX12_isConflict_20 : decode cX12_isConflict 20 = .ok (.bipush 15, 2) := by decide +kernel
theorem dX12_isConflict_22 : decode cX12_isConflict 22 = .ok (.aload_n 0, 1) := by decide +kernel
theorem dX12_isConflict_23 : decode cX12_isConflict 23 = .ok (.getfield 180, 3) := by decide +kernel
theorem dX12_isConflict_26 : decode cX12_isConflict 26 = .ok (.iconst 1, 1) := by decide +kernel
theorem dX12_isConflict_27 : decode cX12_isConflict 27 = .ok (.iaload, 1) := by decide +kernel
theorem dX12_isConflict_28 : decode cX12_isConflict 28 = .ok (.iadd, 1) := by decide +kernel
theorem dX12_isConflict_29 : decode cX12_isConflict 29 = .ok (.if_icmp .ge 105, 3) := by decide +kernel
theorem dX12_isConflict_32 : decode cX12_isConflict 32 = .ok (.aload_n 0, 1) := by decide +kernel
theorem dX12_isConflict_33 : decode cX12_isConflict 33 = .ok (.getfield 162, 3) := by decide +kernel
theorem dX12_isConflict_36 : decode cX12_isConflict 36 = .ok (.iload_n 3, 1) := by decide +kernel
theorem dX12_isConflict_37 : decode cX12_isConflict 37 = .ok (.iaload, 1) := by decide +kernel
theorem dX12_isConflict_38 : decode cX12_isConflict 38 = .ok (.aload_n 0, 1) := by decide +kernel
theorem dX12_isConflict_39 : decode cX12_isConflict 39 = .ok (.getfield 162, 3) := by decide +kernel
theorem dX12_isConflict_42 : decode cX12_isConflict 42 = .ok (.iload 4, 2) := by decide +kernel
theorem dX12_isConflict_44 : decode cX12_isConflict 44 = .ok (.iaload, 1) := by decide +kernel
theorem dX12_isConflict_45 : decode cX12_isConflict 45 = .ok (.aload_n 0, 1) := by decide +kernel
theorem dX12_isConflict_46 : decode cX12_isConflict 46 = .ok (.getfield 168, 3) := by decide +kernel
theorem dX12_isConflict_49 : decode cX12_isConflict 49 = .ok (.iload 4, 2) := by decide +kernel
theorem dX12_isConflict_51 : decode cX12_isConflict 51 = .ok (.iaload, 1) := by decide +kernel
theorem dX12_isConflict_52 : decode cX12_isConflict 52 = .ok (.iadd, 1) := by decide +kernel
theorem dX12_isConflict_53 : decode cX12_isConflict 53 = .ok (.if_icmp .gt 30, 3) := by decide +kernel
theorem dX12_isConflict_56 : decode cX12_isConflict 56 = .ok (.aload_n 0, 1) := by decide +kernel
theorem dX12_isConflict_57 : decode cX12_isConflict 57 = .ok (.getfield 162, 3) := by decide +kernel
theorem dX12_isConflict_60 : decode cX12_isConflict 60 = .ok (.iload 4, 2) := by decide +kernel
theorem dX12_isConflict_62 : decode cX12_isConflict 62 = .ok (.iaload, 1) := by decide +kernel
theorem dX12_isConflict_63 : decode cX12_isConflict 63 = .ok (.aload_n 0, 1) := by decide +kernel
theorem dX12_isConflict_64 : decode cX12_isConflict 64 = .ok (.getfield 162, 3) := by decide +kernel
theorem dX12_isConflict_67 : decode cX12_isConflict 67 = .ok (.iload_n 3, 1) := by decide +kernel
theorem dX12_isConflict_68 : decode cX12_isConflict 68 = .ok (.iaload, 1) := by decide +kernel
theorem dX12_isConflict_69 : decode cX12_isConflict 69 = .ok (.aload_n 0, 1) := by decide +kernel
theorem dX12_isConflict_70 : decode cX12_isConflict 70 = .ok (.getfield 168, 3) := by decide +kernel
theorem dX12_isConflict_73 : decode cX12_isConflict 73 = .ok (.iload_n 3, 1) := by decide +kernel
theorem dX12_isConflict_74 : decode cX12_isConflict 74 = .ok (.iaload, 1) := by decide +kernel
theorem dX12_isConflict_75 : decode cX12_isConflict 75 = .ok (.iadd, 1) := by decide +kernel
theorem dX12_isConflict_76 : decode cX12_isConflict 76 = .ok (.if_icmp .gt 7, 3) := by decide +kernel
theorem dX12_isConflict_79 : decode cX12_isConflict 79 = .ok (.iconst 1, 1) := by decide +kernel
theorem dX12_isConflict_80 : decode cX12_isConflict 80 = .ok (.goto 4, 3) := by decide +kernel
theorem dX12_isConflict_83 : decode cX12_isConflict 83 = .ok (.iconst 0, 1) := by decide +kernel
theorem dX12_isConflict_84 : decode cX12_isConflict 84 = .ok (.istore 5, 2) := by decide +kernel
theorem dX12_isConflict_86 : decode cX12_isConflict 86 = .ok (.iload_n 2, 1) := by decide +kernel
theorem dX12_isConflict_87 : decode cX12_isConflict 87 = .ok (.ifCond .ne 35, 3) := by decide +kernel
theorem dX12_isConflict_90 : decode cX12_isConflict 90 = .ok (.iload 5, 2) := by decide +kernel
theorem dX12_isConflict_92 : decode cX12_isConflict 92 = .ok (.ifCond .eq 34, 3) := by decide +kernel
theorem dX12_isConflict_95 : decode cX12_isConflict 95 = .ok (.aload_n 0, 1) := by decide +kernel
theorem dX12_isConflict_96 : decode cX12_isConflict 96 = .ok (.getfield 162, 3) := by decide +kernel
theorem dX12_isConflict_99 : decode cX12_isConflict 99 = .ok (.iload_n 3, 1) := by decide +kernel
theorem dX12_isConflict_100 : decode cX12_isConflict 100 = .ok (.iaload, 1) := by decide +kernel
theorem dX12_isConflict_101 : decode cX12_isConflict 101 = .ok (.aload_n 0, 1) := by decide +kernel
theorem dX12_isConflict_102 : decode cX12_isConflict 102 = .ok (.getfield 162, 3) := by decide +kernel
theorem dX12_isConflict_105 : decode cX12_isConflict 105 = .ok (.iload 4, 2) := by decide +kernel
theorem dX12_isConflict_107 : decode cX12_isConflict 107 = .ok (.iaload, 1) := by decide +kernel
theorem dX12_isConflict_108 : decode cX12_isConflict 108 = .ok (.if_icmp .ne 14, 3) := by decide +kernel
theorem dX12_isConflict_111 : decode cX12_isConflict 111 = .ok (.aload_n 0, 1) := by decide +kernel
theorem dX12_isConflict_112 : decode cX12_isConflict 112 = .ok (.iload_n 3, 1) := by decide +kernel
theorem dX12_isConflict_113 : decode cX12_isConflict 113 = .ok (.iload 4, 2) := by decide +kernel
theorem dX12_isConflict_115 : decode cX12_isConflict 115 = .ok (.iload_n 1, 1) := by decide +kernel
theorem dX12_isConflict_116 : decode cX12_isConflict 116 = .ok (.invokevirtual 227, 3) := by decide +kernel
theorem dX12_isConflict_119 : decode cX12_isConflict 119 = .ok (.ifCond .ne 7, 3) := by decide +kernel
theorem dX12_isConflict_122 : decode cX12_isConflict 122 = .ok (.iconst 1, 1) := by decide +kernel
theorem dX12_isConflict_123 : decode cX12_isConflict 123 = .ok (.goto 4, 3) := by decide +kernel
theorem dX12_isConflict_126 : decode cX12_isConflict 126 = .ok (.iconst 0, 1) := by decide +kernel
theorem dX12_isConflict_127 : decode cX12_isConflict 127 = .ok (.istore_n 2, 1) := by decide +kernel
theorem dX12_isConflict_128 : decode cX12_isConflict 128 = .ok (.iinc 4 1, 3) := by decide +kernel
theorem dX12_isConflict_131 : decode cX12_isConflict 131 = .ok (.goto (-113), 3) := by decide +kernel
theorem dX12_isConflict_134 : decode cX12_isConflict 134 = .ok (.iinc 3 1, 3) := by decide +kernel
theorem dX12_isConflict_137 : decode cX12_isConflict 137 = .ok (.goto (-133), 3) := by decide +kernel
theorem dX12_isConflict_140 : decode cX12_isConflict 140 = .ok (.iload_n 2, 1) := by decide +kernel
theorem dX12_isConflict_141 : decode cX12_isConflict 141 = .ok (.ireturn, 1) := by decide +kernel
theorem dX12_mergesFile_0 : decode cX12_mergesFile 0 = .ok (.aload_n 0, 1) := by decide +kernel
theorem dX12_mergesFile_1 : decode cX12_mergesFile 1 = .ok (.iconst 0, 1) := by decide +kernel
theorem dX12_mergesFile_2 : decode cX12_mergesFile 2 = .ok (.iload_n 1, 1) := by decide +kernel
theorem dX12_mergesFile_3 : decode cX12_mergesFile 3 = .ok (.iload_n 2, 1) := by decide +kernel
theorem dX12_mergesFile_4 : decode cX12_mergesFile 4 = .ok (.iload 4, 2) := by decide +kernel
theorem dX12_mergesFile_6 : decode cX12_mergesFile 6 = .ok (.invokevirtual 230, 3) := by decide +kernel
theorem dX12_mergesFile_9 : decode cX12_mergesFile 9 = .ok (.aload_n 0, 1) := by decide +kernel
theorem dX12_mergesFile_10 : decode cX12_mergesFile 10 = .ok (.iconst 1, 1) := by decide +kernel
theorem dX12_mergesFile_11 : decode cX12_mergesFile 11 = .ok (.iload_n 1, 1) := by decide +kernel
theorem dX12_mergesFile_12 : decode cX12_mergesFile 12 = .ok (.iload_n 3, 1) := by decide +kernel
theorem dX12_mergesFile_13 : decode cX12_mergesFile 13 = .ok (.iload 4, 2) := by decide +kernel
theorem dX12_mergesFile_15 : decode cX12_mergesFile 15 = .ok (.invokevirtual 230, 3) := by decide +kernel
theorem dX12_mergesFile_18 : decode cX12_mergesFile 18 = .ok (.aload_n 0, 1) := by decide +kernel
theorem dX12_mergesFile_19 : decode cX12_mergesFile 19 = .ok (.iload 4, 2) := by decide +kernel
theorem dX12_mergesFile_21 : decode cX12_mergesFile 21 = .ok (.invokevirtual 234, 3) := by decide +kernel
theorem dX12_mergesFile_24 : decode cX12_mergesFile 24 = .ok (.ifCond .eq 5, 3) := by decide +kernel
theorem dX12_mergesFile_27 : decode cX12_mergesFile 27 = .ok (.iconst 0, 1) := by decide +kernel
theorem dX12_mergesFile_28 : decode cX12_mergesFile 28 = .ok (.ireturn, 1) := by decide +kernel
theorem dX12_mergesFile_29 : decode cX12_mergesFile 29 = .ok (.aload_n 0, 1) := by decide +kernel
theorem dX12_mergesFile_30 : decode cX12_mergesFile 30 = .ok (.iconst 0, 1) := by decide +kernel
theorem dX12_mergesFile_31 : decode cX12_mergesFile 31 = .ok (.putfield 224, 3) := by decide +kernel
theorem dX12_mergesFile_34 : decode cX12_mergesFile 34 = .ok (.iconst 0, 1) := by decide +kernel
theorem dX12_mergesFile_35 : decode cX12_mergesFile 35 = .ok (.istore 5, 2) := by decide +kernel
theorem dX12_mergesFile_37 : decode cX12_mergesFile 37 = .ok (.iconst 0, 1) := by decide +kernel
theorem dX12_mergesFile_38 : decode cX12_mergesFile 38 = .ok (.istore 6, 2) := by decide +kernel
theorem dX12_mergesFile_40 : decode cX12_mergesFile 40 = .ok (.bipush 15, 2) := by decide +kernel
theorem dX12_mergesFile_42 : decode cX12_mergesFile 42 = .ok (.istore 7, 2) := by decide +kernel
theorem dX12_mergesFile_44 : decode cX12_mergesFile 44 = .ok (.iload 6, 2) := by decide +kernel
theorem dX12_mergesFile_46 : decode cX12_mergesFile 46 = .ok (.aload_n 0, 1) := by decide +kernel
theorem dX12_mergesFile_47 : decode cX12_mergesFile 47 = .ok (.getfield 180, 3) := by decide +kernel
theorem dX12_mergesFile_50 : decode cX12_mergesFile 50 = .ok (.iconst 0, 1) := by decide +kernel
theorem dX12_mergesFile_51 : decode cX12_mergesFile 51 = .ok (.iaload, 1) := by decide +kernel
theorem dX12_mergesFile_52 : decode cX12_mergesFile 52 = .ok (.if_icmp .lt 17, 3) := by decide +kernel
theorem dX12_mergesFile_55 : decode cX12_mergesFile 55 = .ok (.iload 7, 2) := by decide +kernel
theorem dX12_mergesFile_57 : decode cX12_mergesFile 57 = .ok (.bipush 15, 2) := by decide +kernel
theorem dX12_mergesFile_59 : decode cX12_mergesFile 59 = .ok (.aload_n 0, 1) := by decide +kernel
theorem dX12_mergesFile_60 : decode cX12_mergesFile 60 = .ok (.getfield 180, 3) := by decide +kernel
theorem dX12_mergesFile_63 : decode cX12_mergesFile 63 = .ok (.iconst 1, 1) := by decide +kernel
theorem dX12_mergesFile_64 : decode cX12_mergesFile 64 = .ok (.iaload, 1) := by decide +kernel
theorem dX12_mergesFile_65 : decode cX12_mergesFile 65 = .ok (.iadd, 1) := by decide +kernel
theorem dX12_mergesFile_66 : decode cX12_mergesFile 66 = .ok (.if_icmp .ge 210, 3) := by decide +kernel
theorem dX12_mergesFile_69 : decode cX12_mergesFile 69 = .ok (.iload 6, 2) := by decide +kernel
theorem dX12_mergesFile_71 : decode cX12_mergesFile 71 = .ok (.aload_n 0, 1) := by decide +kernel
theorem dX12_mergesFile_72 : decode cX12_mergesFile 72 = .ok (.getfield 180, 3) := by decide +kernel
theorem dX12_mergesFile_75 : decode cX12_mergesFile 75 = .ok (.iconst 0, 1) := by decide +kernel
theorem dX12_mergesFile_76 : decode cX12_mergesFile 76 = .ok (.iaload, 1) := by decide +kernel
theorem dX12_mergesFile_77 : decode cX12_mergesFile 77 = .ok (.if_icmp .ge 38, 3) := by decide +kernel
theorem dX12_mergesFile_80 : decode cX12_mergesFile 80 = .ok (.iload 7, 2) := by decide +kernel
theorem dX12_mergesFile_82 : decode cX12_mergesFile 82 = .ok (.bipush 15, 2) := by decide +kernel
theorem dX12_mergesFile_84 : decode cX12_mergesFile 84 = .ok (.aload_n 0, 1) := by decide +kernel
theorem dX12_mergesFile_85 : decode cX12_mergesFile 85 = .ok (.getfield 180, 3) := by decide +kernel
theorem dX12_mergesFile_88 : decode cX12_mergesFile 88 = .ok (.iconst 1, 1) := by decide +kernel
theorem dX12_mergesFile_89 : decode cX12_mergesFile 89 = .ok (.iaload, 1) := by decide +kernel
theorem dX12_mergesFile_90 : decode cX12_mergesFile 90 = .ok (.iadd, 1) := by decide +kernel
theorem dX12_mergesFile_91 : decode cX12_mergesFile 91 = .ok (.if_icmp .eq 20, 3) := by decide +kernel
theorem dX12_mergesFile_94 : decode cX12_mergesFile 94 = .ok (.aload_n 0, 1) := by decide +kernel
theorem dX12_mergesFile_95 : decode cX12_mergesFile 95 = .ok (.getfield 162, 3) := by decide +kernel
theorem dX12_mergesFile_98 : decode cX12_mergesFile 98 = .ok (.iload 6, 2) := by decide +kernel
theorem dX12_mergesFile_100 : decode cX12_mergesFile 100 = .ok (.iaload, 1) := by decide +kernel
theorem dX12_mergesFile_101 : decode cX12_mergesFile 101 = .ok (.aload_n 0, 1) := by decide +kernel
theorem dX12_mergesFile_102 : decode cX12_mergesFile 102 = .ok (.getfield 162, 3) := by decide +kernel
theorem dX12_mergesFile_105 : decode cX12_mergesFile 105 = .ok (.iload 7, 2) := by decide +kernel
theorem dX12_mergesFile_107 : decode cX12_mergesFile 107 = .ok (.iaload, 1) := by decide +kernel
theorem dX12_mergesFile_108 : decode cX12_mergesFile 108 = .ok (.if_icmp .gt 7, 3) := by decide +kernel
theorem dX12_mergesFile_111 : decode cX12_mergesFile 111 = .ok (.iconst 1, 1) := by decide +kernel
theorem dX12_mergesFile_112 : decode cX12_mergesFile 112 = .ok (.goto 4, 3) := by decide +kernel
theorem dX12_mergesFile_115 : decode cX12_mergesFile 115 = .ok (.iconst 0, 1) := by decide +kernel
theorem dX12_mergesFile_116 : decode cX12_mergesFile 116 = .ok (.istore 8, 2) := by decide +kernel
theorem dX12_mergesFile_118 : decode cX12_mergesFile 118 = .ok (.iload 8, 2) := by decide +kernel
theorem dX12_mergesFile_120 : decode cX12_mergesFile 120 = .ok (.ifCond .eq 38, 3) := by decide +kernel
theorem dX12_mergesFile_123 : decode cX12_mergesFile 123 = .ok (.iload 7, 2) := by decide +kernel
theorem dX12_mergesFile_125 : decode cX12_mergesFile 125 = .ok (.bipush 15, 2) := by decide +kernel
theorem dX12_mergesFile_127 : decode cX12_mergesFile 127 = .ok (.aload_n 0, 1) := by decide +kernel
theorem dX12_mergesFile_128 : decode cX12_mergesFile 128 = .ok (.getfield 180, 3) := by decide +kernel
theorem dX12_mergesFile_131 : decode cX12_mergesFile 131 = .ok (.iconst 1, 1) := by decide +kernel
theorem dX12_mergesFile_132 : decode cX12_mergesFile 132 = .ok (.iaload, 1) := by decide +kernel
theorem dX12_mergesFile_133 : decode cX12_mergesFile 133 = .ok (.iadd, 1) := by decide +kernel
theorem dX12_mergesFile_134 : decode cX12_mergesFile 134 = .ok (.if_icmp .ge 24, 3) := by decide +kernel
theorem dX12_mergesFile_137 : decode cX12_mergesFile 137 = .ok (.aload_n 0, 1) := by decide +kernel
theorem dX12_mergesFile_138 : decode cX12_mergesFile 138 = .ok (.getfield 162, 3) := by decide +kernel
theorem dX12_mergesFile_141 : decode cX12_mergesFile 141 = .ok (.iload 6, 2) := by decide +kernel
theorem dX12_mergesFile_143 : decode cX12_mergesFile 143 = .ok (.iaload, 1) := by decide +kernel
theorem dX12_mergesFile_144 : decode cX12_mergesFile 144 = .ok (.aload_n 0, 1) := by decide +kernel
theorem dX12_mergesFile_145 : decode cX12_mergesFile 145 = .ok (.getfield 162, 3) := by decide +kernel
theorem dX12_mergesFile_148 : decode cX12_mergesFile 148 = .ok (.iload 7, 2) := by decide +kernel
theorem dX12_mergesFile_150 : decode cX12_mergesFile 150 = .ok (.iaload, 1) := by decide +kernel
theorem dX12_mergesFile_151 : decode cX12_mergesFile 151 = .ok (.if_icmp .ne 7, 3) := by decide +kernel
theorem dX12_mergesFile_154 : decode cX12_mergesFile 154 = .ok (.iconst 1, 1) := by decide +kernel
theorem dX12_mergesFile_155 : decode cX12_mergesFile 155 = .ok (.goto 4, 3) := by decide +kernel
theorem dX12_mergesFile_158 : decode cX12_mergesFile 158 = .ok (.iconst 0, 1) := by decide +kernel
theorem dX12_mergesFile_159 : decode cX12_mergesFile 159 = .ok (.istore 9, 2) := by decide +kernel
theorem dX12_mergesFile_161 : decode cX12_mergesFile 161 = .ok (.iload 8, 2) := by decide +kernel
theorem dX12_mergesFile_163 : decode cX12_mergesFile 163 = .ok (.ifCond .eq 8, 3) := by decide +kernel
theorem dX12_mergesFile_166 : decode cX12_mergesFile 166 = .ok (.iload 6, 2) := by decide +kernel
theorem dX12_mergesFile_168 : decode cX12_mergesFile 168 = .ok (.goto 5, 3) := by decide +kernel
theorem dX12_mergesFile_171 : decode cX12_mergesFile 171 = .ok (.iload 7, 2) := by decide +kernel
theorem dX12_mergesFile_173 : decode cX12_mergesFile 173 = .ok (.istore 10, 2) := by decide +kernel
theorem dX12_mergesFile_175 : decode cX12_mergesFile 175 = .ok (.aload_n 0, 1) := by decide +kernel
theorem dX12_mergesFile_176 : decode cX12_mergesFile 176 = .ok (.iload_n 1, 1) := by decide +kernel
theorem dX12_mergesFile_177 : decode cX12_mergesFile 177 = .ok (.iload 4, 2) := by decide +kernel
theorem dX12_mergesFile_179 : decode cX12_mergesFile 179 = .ok (.iload 5, 2) := by decide +kernel
theorem dX12_mergesFile_181 : decode cX12_mergesFile 181 = .ok (.aload_n 0, 1) := by decide +kernel
theorem dX12_mergesFile_182 : decode cX12_mergesFile 182 = .ok (.getfield 162, 3) := by decide +kernel
theorem dX12_mergesFile_185 : decode cX12_mergesFile 185 = .ok (.iload 10, 2) := by decide +kernel
theorem dX12_mergesFile_187 : decode cX12_mergesFile 187 = .ok (.iaload, 1) := by decide +kernel
theorem dX12_mergesFile_188 : decode cX12_mergesFile 188 = .ok (.iload 5, 2) := by decide +kernel
theorem dX12_mergesFile_190 : decode cX12_mergesFile 190 = .ok (.isub, 1) := by decide +kernel
theorem dX12_mergesFile_191 : decode cX12_mergesFile 191 = .ok (.invokevirtual 237, 3) := by decide +kernel
theorem dX12_mergesFile_194 : decode cX12_mergesFile 194 = .ok (.aload_n 0, 1) := by decide +kernel
theorem dX12_mergesFile_195 : decode cX12_mergesFile 195 = .ok (.aload_n 0, 1) := by decide +kernel
theorem dX12_mergesFile_196 : decode cX12_mergesFile 196 = .ok (.getfield 177, 3) := by decide +kernel
theorem dX12_mergesFile_199 : decode cX12_mergesFile 199 = .ok (.iload 10, 2) := by decide +kernel
theorem dX12_mergesFile_201 : decode cX12_mergesFile 201 = .ok (.iaload, 1) := by decide +kernel
theorem dX12_mergesFile_202 : decode cX12_mergesFile 202 = .ok (.iload 4, 2) := by decide +kernel
theorem dX12_mergesFile_204 : decode cX12_mergesFile 204 = .ok (.aload_n 0, 1) := by decide +kernel
theorem dX12_mergesFile_205 : decode cX12_mergesFile 205 = .ok (.getfield 165, 3) := by decide +kernel
theorem dX12_mergesFile_208 : decode cX12_mergesFile 208 = .ok (.iload 10, 2) := by decide +kernel
theorem dX12_mergesFile_210 : decode cX12_mergesFile 210 = .ok (.iaload, 1) := by decide +kernel
theorem dX12_mergesFile_211 : decode cX12_mergesFile 211 = .ok (.aload_n 0, 1) := by decide +kernel
theorem dX12_mergesFile_212 : decode cX12_mergesFile 212 = .ok (.getfield 171, 3) := by decide +kernel
theorem dX12_mergesFile_215 : decode cX12_mergesFile 215 = .ok (.iload 10, 2) := by decide +kernel
theorem dX12_mergesFile_217 : decode cX12_mergesFile 217 = .ok (.iaload, 1) := by decide +kernel
theorem dX12_mergesFile_218 : decode cX12_mergesFile 218 = .ok (.invokevirtual 237, 3) := by decide +kernel
theorem dX12_mergesFile_221 : decode cX12_mergesFile 221 = .ok (.aload_n 0, 1) := by decide +kernel
theorem dX12_mergesFile_222 : decode cX12_mergesFile 222 = .ok (.getfield 162, 3) := by decide +kernel
theorem dX12_mergesFile_225 : decode cX12_mergesFile 225 = .ok (.iload 10, 2) := by decide +kernel
theorem dX12_mergesFile_227 : decode cX12_mergesFile 227 = .ok (.iaload, 1) := by decide +kernel
theorem dX12_mergesFile_228 : decode cX12_mergesFile 228 = .ok (.aload_n 0, 1) := by decide +kernel
theorem dX12_mergesFile_229 : decode cX12_mergesFile 229 = .ok (.getfield 168, 3) := by decide +kernel
theorem dX12_mergesFile_232 : decode cX12_mergesFile 232 = .ok (.iload 10, 2) := by decide +kernel
theorem dX12_mergesFile_234 : decode cX12_mergesFile 234 = .ok (.iaload, 1) := by decide +kernel
theorem dX12_mergesFile_235 : decode cX12_mergesFile 235 = .ok (.iadd, 1) := by decide +kernel
theorem dX12_mergesFile_236 : decode cX12_mergesFile 236 = .ok (.istore 5, 2) := by decide +kernel
theorem dX12_mergesFile_238 : decode cX12_mergesFile 238 = .ok (.iload 6, 2) := by decide +kernel
theorem dX12_mergesFile_240 : decode cX12_mergesFile 240 = .ok (.iload 8, 2) := by decide +kernel
theorem dX12_mergesFile_242 : decode cX12_mergesFile 242 = .ok (.ifCond .eq 7, 3) := by decide +kernel
theorem dX12_mergesFile_245 : decode cX12_mergesFile 245 = .ok (.iconst 1, 1) := by decide +kernel
theorem dX12_mergesFile_246 : decode cX12_mergesFile 246 = .ok (.goto 4, 3) := by decide +kernel
theorem dX12_mergesFile_249 : decode cX12_mergesFile 249 = .ok (.iconst 0, 1) := by decide +kernel
theorem dX12_mergesFile_250 : decode cX12_mergesFile 250 = .ok (.iadd, 1) := by decide +kernel
theorem dX12_mergesFile_251 : decode cX12_mergesFile 251 = .ok (.istore 6, 2) := by decide +kernel
theorem dX12_mergesFile_253 : decode cX12_mergesFile 253 = .ok (.iload 7, 2) := by decide +kernel
theorem dX12_mergesFile_255 : decode cX12_mergesFile 255 = .ok (.iload 8, 2) := by decide +kernel
theorem dX12_mergesFile_257 : decode cX12_mergesFile 257 = .ok (.ifCond .eq 8, 3) := by decide +kernel
theorem dX12_mergesFile_260 : decode cX12_mergesFile 260 = .ok (.iload 9, 2) := by decide +kernel
theorem dX12_mergesFile_262 : decode cX12_mergesFile 262 = .ok (.ifCond .eq 7, 3) := by decide +kernel
theorem dX12_mergesFile_265 : decode cX12_mergesFile 265 = .ok (.iconst 1, 1) := by decide +kernel
theorem dX12_mergesFile_266 : decode cX12_mergesFile 266 = .ok (.goto 4, 3) := by decide +kernel
theorem dX12_mergesFile_269 : decode cX12_mergesFile 269 = .ok (.iconst 0, 1) := by decide +kernel
theorem dX12_mergesFile_270 : decode cX12_mergesFile 270 = .ok (.iadd, 1) := by decide +kernel
theorem dX12_mergesFile_271 : decode cX12_mergesFile 271 = .ok (.istore 7, 2) := by decide +kernel
theorem dX12_mergesFile_273 : decode cX12_mergesFile 273 = .ok (.goto (-229), 3) := by decide +kernel
theorem dX12_mergesFile_276 : decode cX12_mergesFile 276 = .ok (.aload_n 0, 1) := by decide +kernel
theorem dX12_mergesFile_277 : decode cX12_mergesFile 277 = .ok (.iload_n 1, 1) := by decide +kernel
theorem dX12_mergesFile_278 : decode cX12_mergesFile 278 = .ok (.iload 4, 2) := by decide +kernel
theorem dX12_mergesFile_280 : decode cX12_mergesFile 280 = .ok (.iload 5, 2) := by decide +kernel
theorem dX12_mergesFile_282 : decode cX12_mergesFile 282 = .ok (.aload_n 0, 1) := by decide +kernel
theorem dX12_mergesFile_283 : decode cX12_mergesFile 283 = .ok (.iload_n 1, 1) := by decide +kernel
theorem dX12_mergesFile_284 : decode cX12_mergesFile 284 = .ok (.iload 4, 2) := by decide +kernel
theorem dX12_mergesFile_286 : decode cX12_mergesFile 286 = .ok (.invokevirtual 207, 3) := by decide +kernel
theorem dX12_mergesFile_289 : decode cX12_mergesFile 289 = .ok (.iload 5, 2) := by decide +kernel
theorem dX12_mergesFile_291 : decode cX12_mergesFile 291 = .ok (.isub, 1) := by decide +kernel
theorem dX12_mergesFile_292 : decode cX12_mergesFile 292 = .ok (.invokevirtual 237, 3) := by decide +kernel
theorem dX12_mergesFile_295 : decode cX12_mergesFile 295 = .ok (.aload_n 0, 1) := by decide +kernel
theorem dX12_mergesFile_296 : decode cX12_mergesFile 296 = .ok (.getfield 224, 3) := by decide +kernel
theorem dX12_mergesFile_299 : decode cX12_mergesFile 299 = .ok (.bipush 10, 2) := by decide +kernel
theorem dX12_mergesFile_301 : decode cX12_mergesFile 301 = .ok (.if_icmp .gt 7, 3) := by decide +kernel
theorem dX12_mergesFile_304 : decode cX12_mergesFile 304 = .ok (.iconst 1, 1) := by decide +kernel
theorem dX12_mergesFile_305 : decode cX12_mergesFile 305 = .ok (.goto 4, 3) := by decide +kernel
theorem dX12_mergesFile_308 : decode cX12_mergesFile 308 = .ok (.iconst 0, 1) := by decide +kernel
theorem dX12_mergesFile_309 : decode cX12_mergesFile 309 = .ok (.ireturn, 1) := by decide +kernel
theorem dX12_merges_0 : decode cX12_merges 0 = .ok (.iconst 1, 1) := by decide +kernel
theorem dX12_merges_1 : decode cX12_merges 1 = .ok (.istore 4, 2) := by decide +kernel
theorem dX12_merges_3 : decode cX12_merges 3 = .ok (.iconst 0, 1) := by decide +kernel
theorem dX12_merges_4 : decode cX12_merges 4 = .ok (.istore 5, 2) := by decide +kernel
theorem dX12_merges_6 : decode cX12_merges 6 = .ok (.iload 5, 2) := by decide +kernel
theorem dX12_merges_8 : decode cX12_merges 8 = .ok (.iconst 4, 1) := by decide +kernel
theorem dX12_merges_9 : decode cX12_merges 9 = .ok (.if_icmp .ge 96, 3) := by decide +kernel
theorem dX12_merges_12 : decode cX12_merges 12 = .ok (.iload 4, 2) := by decide +kernel
theorem dX12_merges_14 : decode cX12_merges 14 = .ok (.ifCond .eq 91, 3) := by decide +kernel
theorem dX12_merges_17 : decode cX12_merges 17 = .ok (.aload_n 0, 1) := by decide +kernel
theorem dX12_merges_18 : decode cX12_merges 18 = .ok (.iload_n 1, 1) := by decide +kernel
theorem dX12_merges_19 : decode cX12_merges 19 = .ok (.iload_n 2, 1) := by decide +kernel
theorem dX12_merges_20 : decode cX12_merges 20 = .ok (.iload_n 3, 1) := by decide +kernel
theorem dX12_merges_21 : decode cX12_merges 21 = .ok (.iload 5, 2) := by decide +kernel
theorem dX12_merges_23 : decode cX12_merges 23 = .ok (.invokevirtual 240, 3) := by decide +kernel
theorem dX12_merges_26 : decode cX12_merges 26 = .ok (.istore 4, 2) := by decide +kernel
theorem dX12_merges_28 : decode cX12_merges 28 = .ok (.aload_n 0, 1) := by decide +kernel
theorem dX12_merges_29 : decode cX12_merges 29 = .ok (.getfield 20, 3) := by decide +kernel
theorem dX12_merges_32 : decode cX12_merges 32 = .ok (.sipush 324, 3) := by decide +kernel
theorem dX12_merges_35 : decode cX12_merges 35 = .ok (.iload 5, 2) := by decide +kernel
theorem dX12_merges_37 : decode cX12_merges 37 = .ok (.iadd, 1) := by decide +kernel
theorem dX12_merges_38 : decode cX12_merges 38 = .ok (.iload 4, 2) := by decide +kernel
theorem dX12_merges_40 : decode cX12_merges 40 = .ok (.ifCond .eq 10, 3) := by decide +kernel
theorem dX12_merges_43 : decode cX12_merges 43 = .ok (.aload_n 0, 1) := by decide +kernel
theorem dX12_merges_44 : decode cX12_merges 44 = .ok (.getfield 224, 3) := by decide +kernel
theorem dX12_merges_47 : decode cX12_merges 47 = .ok (.goto 4, 3) := by decide +kernel
theorem dX12_merges_50 : decode cX12_merges 50 = .ok (.iconst 0, 1) := by decide +kernel
theorem dX12_merges_51 : decode cX12_merges 51 = .ok (.iastore, 1) := by decide +kernel
theorem dX12_merges_52 : decode cX12_merges 52 = .ok (.iconst 0, 1) := by decide +kernel
theorem dX12_merges_53 : decode cX12_merges 53 = .ok (.istore 6, 2) := by decide +kernel
theorem dX12_merges_55 : decode cX12_merges 55 = .ok (.iload 6, 2) := by decide +kernel
theorem dX12_merges_57 : decode cX12_merges 57 = .ok (.aload_n 0, 1) := by decide +kernel
theorem dX12_merges_58 : decode cX12_merges 58 = .ok (.getfield 224, 3) := by decide +kernel
theorem dX12_merges_61 : decode cX12_merges 61 = .ok (.if_icmp .ge 38, 3) := by decide +kernel
theorem dX12_merges_64 : decode cX12_merges 64 = .ok (.iload 4, 2) := by decide +kernel
theorem dX12_merges_66 : decode cX12_merges 66 = .ok (.ifCond .eq 33, 3) := by decide +kernel
theorem dX12_merges_69 : decode cX12_merges 69 = .ok (.aload_n 0, 1) := by decide +kernel
theorem dX12_merges_70 : decode cX12_merges 70 = .ok (.getfield 23, 3) := by decide +kernel
theorem dX12_merges_73 : decode cX12_merges 73 = .ok (.bipush 10, 2) := by decide +kernel
theorem dX12_merges_75 : decode cX12_merges 75 = .ok (.sipush 324, 3) := by decide +kernel
theorem dX12_merges_78 : decode cX12_merges 78 = .ok (.iload 5, 2) := by decide +kernel
theorem dX12_merges_80 : decode cX12_merges 80 = .ok (.iadd, 1) := by decide +kernel
theorem dX12_merges_81 : decode cX12_merges 81 = .ok (.imul, 1) := by decide +kernel
theorem dX12_merges_82 : decode cX12_merges 82 = .ok (.iload 6, 2) := by decide +kernel
theorem dX12_merges_84 : decode cX12_merges 84 = .ok (.iadd, 1) := by decide +kernel
theorem dX12_merges_85 : decode cX12_merges 85 = .ok (.aload_n 0, 1) := by decide +kernel
theorem dX12_merges_86 : decode cX12_merges 86 = .ok (.getfield 183, 3) := by decide +kernel
theorem dX12_merges_89 : decode cX12_merges 89 = .ok (.iload 6, 2) := by decide +kernel
theorem dX12_merges_91 : decode cX12_merges 91 = .ok (.iaload, 1) := by decide +kernel
theorem dX12_merges_92 : decode cX12_merges 92 = .ok (.iastore, 1) := by decide +kernel
theorem dX12_merges_93 : decode cX12_merges 93 = .ok (.iinc 6 1, 3) := by decide +kernel
theorem dX12_merges_96 : decode cX12_merges 96 = .ok (.goto (-41), 3) := by decide +kernel
theorem dX12_merges_99 : decode cX12_merges 99 = .ok (.iinc 5 1, 3) := by decide +kernel
theorem dX12_merges_102 : decode cX12_merges 102 = .ok (.goto (-96), 3) := by decide +kernel
theorem dX12_merges_105 : decode cX12_merges 105 = .ok (.iload 4, 2) := by decide +kernel
theorem dX12_merges_107 : decode cX12_merges 107 = .ok (.ireturn, 1) := by decide +kernel
theorem dX12_commitAt_0 : decode cX12_commitAt 0 = .ok (.iconst (-1), 1) := by decide +kernel
theorem dX12_commitAt_1 : decode cX12_commitAt 1 = .ok (.istore_n 3, 1) := by decide +kernel
theorem dX12_commitAt_2 : decode cX12_commitAt 2 = .ok (.iconst 0, 1) := by decide +kernel
theorem dX12_commitAt_3 : decode cX12_commitAt 3 = .ok (.istore 4, 2) := by decide +kernel
theorem dX12_commitAt_5 : decode cX12_commitAt 5 = .ok (.iload 4, 2) := by decide +kernel
theorem dX12_commitAt_7 : decode cX12_commitAt 7 = .ok (.aload_n 0, 1) := by decide +kernel
theorem dX12_commitAt_8 : decode cX12_commitAt 8 = .ok (.getfield 7, 3) := by decide +kernel
theorem dX12_commitAt_11 : decode cX12_commitAt 11 = .ok (.if_icmp .ge 38, 3) := by decide +kernel
theorem dX12_commitAt_14 : decode cX12_commitAt 14 = .ok (.aload_n 0, 1) := by decide +kernel
theorem dX12_commitAt_15 : decode cX12_commitAt 15 = .ok (.getfield 26, 3) := by decide +kernel
theorem dX12_commitAt_18 : decode cX12_commitAt 18 = .ok (.iload 4, 2) := by decide +kernel
theorem dX12_commitAt_20 : decode cX12_commitAt 20 = .ok (.iaload, 1) := by decide +kernel
theorem dX12_commitAt_21 : decode cX12_commitAt 21 = .ok (.iload_n 1, 1) := by decide +kernel
theorem dX12_commitAt_22 : decode cX12_commitAt 22 = .ok (.if_icmp .ne 19, 3) := by decide +kernel
theorem dX12_commitAt_25 : decode cX12_commitAt 25 = .ok (.aload_n 0, 1) := by decide +kernel
theorem dX12_commitAt_26 : decode cX12_commitAt 26 = .ok (.getfield 29, 3) := by decide +kernel
theorem dX12_commitAt_29 : decode cX12_commitAt 29 = .ok (.iload 4, 2) := by decide +kernel
theorem dX12_commitAt_31 : decode cX12_commitAt 31 = .ok (.iaload, 1) := by decide +kernel
theorem dX12_commitAt_32 : decode cX12_commitAt 32 = .ok (.iload_n 2, 1) := by decide +kernel
theorem dX12_commitAt_33 : decode cX12_commitAt 33 = .ok (.if_icmp .ne 8, 3) := by decide +kernel
theorem dX12_commitAt_36 : decode cX12_commitAt 36 = .ok (.iload 4, 2) := by decide +kernel
theorem dX12_commitAt_38 : decode cX12_commitAt 38 = .ok (.goto 4, 3) := by decide +kernel
theorem dX12_commitAt_41 : decode cX12_commitAt 41 = .ok (.iload_n 3, 1) := by decide +kernel
theorem dX12_commitAt_42 : decode cX12_commitAt 42 = .ok (.istore_n 3, 1) := by decide +kernel
theorem dX12_commitAt_43 : decode cX12_commitAt 43 = .ok (.iinc 4 1, 3) := by decide +kernel
theorem dX12_commitAt_46 : decode cX12_commitAt 46 = .ok (.goto (-41), 3) := by decide +kernel
theorem dX12_commitAt_49 : decode cX12_commitAt 49 = .ok (.iload_n 3, 1) := by decide +kernel
theorem dX12_commitAt_50 : decode cX12_commitAt 50 = .ok (.ireturn, 1) := by decide +kernel
theorem dX12_current_0 : decode cX12_current 0 = .ok (.aload_n 0, 1) := by decide +kernel
theorem dX12_current_1 : decode cX12_current 1 = .ok (.iload_n 1, 1) := by decide +kernel
theorem dX12_current_2 : decode cX12_current 2 = .ok (.aload_n 0, 1) := by decide +kernel
theorem dX12_current_3 : decode cX12_current 3 = .ok (.getfield 50, 3) := by decide +kernel
theorem dX12_current_6 : decode cX12_current 6 = .ok (.iload_n 1, 1) := by decide +kernel
theorem dX12_current_7 : decode cX12_current 7 = .ok (.iaload, 1) := by decide +kernel
theorem dX12_current_8 : decode cX12_current 8 = .ok (.iconst 1, 1) := by decide +kernel
theorem dX12_current_9 : decode cX12_current 9 = .ok (.isub, 1) := by decide +kernel
theorem dX12_current_10 : decode cX12_current 10 = .ok (.invokevirtual 244, 3) := by decide +kernel
theorem dX12_current_13 : decode cX12_current 13 = .ok (.ireturn, 1) := by decide +kernel
theorem dX12_parent_0 : decode cX12_parent 0 = .ok (.aload_n 0, 1) := by decide +kernel
theorem dX12_parent_1 : decode cX12_parent 1 = .ok (.getfield 17, 3) := by decide +kernel
theorem dX12_parent_4 : decode cX12_parent 4 = .ok (.aload_n 0, 1) := by decide +kernel
theorem dX12_parent_5 : decode cX12_parent 5 = .ok (.iload_n 1, 1) := by decide +kernel
theorem dX12_parent_6 : decode cX12_parent 6 = .ok (.invokevirtual 247, 3) := by decide +kernel
theorem dX12_parent_9 : decode cX12_parent 9 = .ok (.iaload, 1) := by decide +kernel
theorem dX12_parent_10 : decode cX12_parent 10 = .ok (.istore_n 2, 1) := by decide +kernel
theorem dX12_parent_11 : decode cX12_parent 11 = .ok (.aload_n 0, 1) := by decide +kernel
theorem dX12_parent_12 : decode cX12_parent 12 = .ok (.getfield 26, 3) := by decide +kernel
theorem dX12_parent_15 : decode cX12_parent 15 = .ok (.iload_n 2, 1) := by decide +kernel
theorem dX12_parent_16 : decode cX12_parent 16 = .ok (.iaload, 1) := by decide +kernel
theorem dX12_parent_17 : decode cX12_parent 17 = .ok (.ireturn, 1) := by decide +kernel
theorem dX12_isOutdated_0 : decode cX12_isOutdated 0 = .ok (.aload_n 0, 1) := by decide +kernel
theorem dX12_isOutdated_1 : decode cX12_isOutdated 1 = .ok (.getfield 17, 3) := by decide +kernel
theorem dX12_isOutdated_4 : decode cX12_isOutdated 4 = .ok (.aload_n 0, 1) := by decide +kernel
theorem dX12_isOutdated_5 : decode cX12_isOutdated 5 = .ok (.iload_n 1, 1) := by decide +kernel
theorem dX12_isOutdated_6 : decode cX12_isOutdated 6 = .ok (.invokevirtual 247, 3) := by decide +kernel
theorem dX12_isOutdated_9 : decode cX12_isOutdated 9 = .ok (.iaload, 1) := by decide +kernel
theorem dX12_isOutdated_10 : decode cX12_isOutdated 10 = .ok (.istore_n 2, 1) := by decide +kernel
theorem dX12_isOutdated_11 : decode cX12_isOutdated 11 = .ok (.aload_n 0, 1) := by decide +kernel
theorem dX12_isOutdated_12 : decode cX12_isOutdated 12 = .ok (.getfield 26, 3) := by decide +kernel
theorem dX12_isOutdated_15 : decode cX12_isOutdated 15 = .ok (.iload_n 2, 1) := by decide +kernel
theorem dX12_isOutdated_16 : decode cX12_isOutdated 16 = .ok (.iaload, 1) := by decide +kernel
theorem dX12_isOutdated_17 : decode cX12_isOutdated 17 = .ok (.iconst (-1), 1) := by decide +kernel
theorem dX12_isOutdated_18 : decode cX12_isOutdated 18 = .ok (.if_icmp .eq 21, 3) := by decide +kernel
theorem dX12_isOutdated_21 : decode cX12_isOutdated 21 = .ok (.iload_n 2, 1) := by decide +kernel
theorem dX12_isOutdated_22 : decode cX12_isOutdated 22 = .ok (.aload_n 0, 1) := by decide +kernel
theorem dX12_isOutdated_23 : decode cX12_isOutdated 23 = .ok (.aload_n 0, 1) := by decide +kernel
theorem dX12_isOutdated_24 : decode cX12_isOutdated 24 = .ok (.getfield 26, 3) := by decide +kernel
theorem dX12_isOutdated_27 : decode cX12_isOutdated 27 = .ok (.iload_n 2, 1) := by decide +kernel
theorem dX12_isOutdated_28 : decode cX12_isOutdated 28 = .ok (.iaload, 1) := by decide +kernel
theorem dX12_isOutdated_29 : decode cX12_isOutdated 29 = .ok (.invokevirtual 247, 3) := by decide +kernel
theorem dX12_isOutdated_32 : decode cX12_isOutdated 32 = .ok (.if_icmp .eq 7, 3) := by decide +kernel
theorem dX12_isOutdated_35 : decode cX12_isOutdated 35 = .ok (.iconst 1, 1) := by decide +kernel
theorem dX12_isOutdated_36 : decode cX12_isOutdated 36 = .ok (.goto 4, 3) := by decide +kernel
theorem dX12_isOutdated_39 : decode cX12_isOutdated 39 = .ok (.iconst 0, 1) := by decide +kernel
theorem dX12_isOutdated_40 : decode cX12_isOutdated 40 = .ok (.ireturn, 1) := by decide +kernel
theorem dX12_repoOf_0 : decode cX12_repoOf 0 = .ok (.aload_n 0, 1) := by decide +kernel
theorem dX12_repoOf_1 : decode cX12_repoOf 1 = .ok (.getfield 13, 3) := by decide +kernel
theorem dX12_repoOf_4 : decode cX12_repoOf 4 = .ok (.aload_n 0, 1) := by decide +kernel
theorem dX12_repoOf_5 : decode cX12_repoOf 5 = .ok (.iload_n 1, 1) := by decide +kernel
theorem dX12_repoOf_6 : decode cX12_repoOf 6 = .ok (.invokevirtual 247, 3) := by decide +kernel
theorem dX12_repoOf_9 : decode cX12_repoOf 9 = .ok (.iaload, 1) := by decide +kernel
theorem dX12_repoOf_10 : decode cX12_repoOf 10 = .ok (.ireturn, 1) := by decide +kernel
theorem dX12_reviewersOf_0 : decode cX12_reviewersOf 0 = .ok (.aload_n 0, 1) := by decide +kernel
theorem dX12_reviewersOf_1 : decode cX12_reviewersOf 1 = .ok (.getfield 66, 3) := by decide +kernel
theorem dX12_reviewersOf_4 : decode cX12_reviewersOf 4 = .ok (.iload_n 1, 1) := by decide +kernel
theorem dX12_reviewersOf_5 : decode cX12_reviewersOf 5 = .ok (.iaload, 1) := by decide +kernel
theorem dX12_reviewersOf_6 : decode cX12_reviewersOf 6 = .ok (.istore_n 2, 1) := by decide +kernel
theorem dX12_reviewersOf_7 : decode cX12_reviewersOf 7 = .ok (.iconst 0, 1) := by decide +kernel
theorem dX12_reviewersOf_8 : decode cX12_reviewersOf 8 = .ok (.istore_n 3, 1) := by decide +kernel
theorem dX12_reviewersOf_9 : decode cX12_reviewersOf 9 = .ok (.iload_n 3, 1) := by decide +kernel
theorem dX12_reviewersOf_10 : decode cX12_reviewersOf 10 = .ok (.aload_n 0, 1) := by decide +kernel
theorem dX12_reviewersOf_11 : decode cX12_reviewersOf 11 = .ok (.getfield 251, 3) := by decide +kernel
theorem dX12_reviewersOf_14 : decode cX12_reviewersOf 14 = .ok (.if_icmp .ge 43, 3) := by decide +kernel
theorem dX12_reviewersOf_17 : decode cX12_reviewersOf 17 = .ok (.iload_n 2, 1) := by decide +kernel
theorem dX12_reviewersOf_18 : decode cX12_reviewersOf 18 = .ok (.aload_n 0, 1) := by decide +kernel
theorem dX12_reviewersOf_19 : decode cX12_reviewersOf 19 = .ok (.getfield 84, 3) := by decide +kernel
theorem dX12_reviewersOf_22 : decode cX12_reviewersOf 22 = .ok (.iload_n 3, 1) := by decide +kernel
theorem dX12_reviewersOf_23 : decode cX12_reviewersOf 23 = .ok (.iaload, 1) := by decide +kernel
theorem dX12_reviewersOf_24 : decode cX12_reviewersOf 24 = .ok (.iload_n 1, 1) := by decide +kernel
theorem dX12_reviewersOf_25 : decode cX12_reviewersOf 25 = .ok (.if_icmp .ne 23, 3) := by decide +kernel
theorem dX12_reviewersOf_28 : decode cX12_reviewersOf 28 = .ok (.aload_n 0, 1) := by decide +kernel
theorem dX12_reviewersOf_29 : decode cX12_reviewersOf 29 = .ok (.getfield 102, 3) := by decide +kernel
theorem dX12_reviewersOf_32 : decode cX12_reviewersOf 32 = .ok (.iload_n 3, 1) := by decide +kernel
theorem dX12_reviewersOf_33 : decode cX12_reviewersOf 33 = .ok (.baload, 1) := by decide +kernel
theorem dX12_reviewersOf_34 : decode cX12_reviewersOf 34 = .ok (.ifCond .ne 14, 3) := by decide +kernel
theorem dX12_reviewersOf_37 : decode cX12_reviewersOf 37 = .ok (.iconst 1, 1) := by decide +kernel
theorem dX12_reviewersOf_38 : decode cX12_reviewersOf 38 = .ok (.aload_n 0, 1) := by decide +kernel
theorem dX12_reviewersOf_39 : decode cX12_reviewersOf 39 = .ok (.getfield 81, 3) := by decide +kernel
theorem dX12_reviewersOf_42 : decode cX12_reviewersOf 42 = .ok (.iload_n 3, 1) := by decide +kernel
theorem dX12_reviewersOf_43 : decode cX12_reviewersOf 43 = .ok (.iaload, 1) := by decide +kernel
theorem dX12_reviewersOf_44 : decode cX12_reviewersOf 44 = .ok (.ishl, 1) := by decide +kernel
theorem dX12_reviewersOf_45 : decode cX12_reviewersOf 45 = .ok (.goto 4, 3) := by decide +kernel
theorem dX12_reviewersOf_48 : decode cX12_reviewersOf 48 = .ok (.iconst 0, 1) := by decide +kernel
theorem dX12_reviewersOf_49 : decode cX12_reviewersOf 49 = .ok (.ior, 1) := by decide +kernel
theorem dX12_reviewersOf_50 : decode cX12_reviewersOf 50 = .ok (.istore_n 2, 1) := by decide +kernel
theorem dX12_reviewersOf_51 : decode cX12_reviewersOf 51 = .ok (.iinc 3 1, 3) := by decide +kernel
theorem dX12_reviewersOf_54 : decode cX12_reviewersOf 54 = .ok (.goto (-45), 3) := by decide +kernel
theorem dX12_reviewersOf_57 : decode cX12_reviewersOf 57 = .ok (.iconst 0, 1) := by decide +kernel
theorem dX12_reviewersOf_58 : decode cX12_reviewersOf 58 = .ok (.istore_n 3, 1) := by decide +kernel
theorem dX12_reviewersOf_59 : decode cX12_reviewersOf 59 = .ok (.iload_n 3, 1) := by decide +kernel
theorem dX12_reviewersOf_60 : decode cX12_reviewersOf 60 = .ok (.aload_n 0, 1) := by decide +kernel
theorem dX12_reviewersOf_61 : decode cX12_reviewersOf 61 = .ok (.getfield 7, 3) := by decide +kernel
theorem dX12_reviewersOf_64 : decode cX12_reviewersOf 64 = .ok (.if_icmp .ge 92, 3) := by decide +kernel
theorem dX12_reviewersOf_67 : decode cX12_reviewersOf 67 = .ok (.iconst 0, 1) := by decide +kernel
theorem dX12_reviewersOf_68 : decode cX12_reviewersOf 68 = .ok (.istore 4, 2) := by decide +kernel
theorem dX12_reviewersOf_70 : decode cX12_reviewersOf 70 = .ok (.iload 4, 2) := by decide +kernel
theorem dX12_reviewersOf_72 : decode cX12_reviewersOf 72 = .ok (.bipush 6, 2) := by decide +kernel
theorem dX12_reviewersOf_74 : decode cX12_reviewersOf 74 = .ok (.if_icmp .ge 76, 3) := by decide +kernel
theorem dX12_reviewersOf_77 : decode cX12_reviewersOf 77 = .ok (.aload_n 0, 1) := by decide +kernel
theorem dX12_reviewersOf_78 : decode cX12_reviewersOf 78 = .ok (.getfield 75, 3) := by decide +kernel
theorem dX12_reviewersOf_81 : decode cX12_reviewersOf 81 = .ok (.bipush 12, 2) := by decide +kernel
theorem dX12_reviewersOf_83 : decode cX12_reviewersOf 83 = .ok (.iload_n 3, 1) := by decide +kernel
theorem dX12_reviewersOf_84 : decode cX12_reviewersOf 84 = .ok (.imul, 1) := by decide +kernel
theorem dX12_reviewersOf_85 : decode cX12_reviewersOf 85 = .ok (.iconst 2, 1) := by decide +kernel
theorem dX12_reviewersOf_86 : decode cX12_reviewersOf 86 = .ok (.iload 4, 2) := by decide +kernel
theorem dX12_reviewersOf_88 : decode cX12_reviewersOf 88 = .ok (.imul, 1) := by decide +kernel
theorem dX12_reviewersOf_89 : decode cX12_reviewersOf 89 = .ok (.iadd, 1) := by decide +kernel
theorem dX12_reviewersOf_90 : decode cX12_reviewersOf 90 = .ok (.iaload, 1) := by decide +kernel
theorem dX12_reviewersOf_91 : decode cX12_reviewersOf 91 = .ok (.aload_n 0, 1) := by decide +kernel
theorem dX12_reviewersOf_92 : decode cX12_reviewersOf 92 = .ok (.getfield 75, 3) := by decide +kernel
theorem dX12_reviewersOf_95 : decode cX12_reviewersOf 95 = .ok (.bipush 12, 2) := by decide +kernel
theorem dX12_reviewersOf_97 : decode cX12_reviewersOf 97 = .ok (.iload_n 3, 1) := by decide +kernel
theorem dX12_reviewersOf_98 : decode cX12_reviewersOf 98 = .ok (.imul, 1) := by decide +kernel
theorem dX12_reviewersOf_99 : decode cX12_reviewersOf 99 = .ok (.iconst 2, 1) := by decide +kernel
theorem dX12_reviewersOf_100 : decode cX12_reviewersOf 100 = .ok (.iload 4, 2) := by decide +kernel
theorem dX12_reviewersOf_102 : decode cX12_reviewersOf 102 = .ok (.imul, 1) := by decide +kernel
theorem dX12_reviewersOf_103 : decode cX12_reviewersOf 103 = .ok (.iadd, 1) := by decide +kernel
theorem dX12_reviewersOf_104 : decode cX12_reviewersOf 104 = .ok (.iconst 1, 1) := by decide +kernel
theorem dX12_reviewersOf_105 : decode cX12_reviewersOf 105 = .ok (.iadd, 1) := by decide +kernel
theorem dX12_reviewersOf_106 : decode cX12_reviewersOf 106 = .ok (.iaload, 1) := by decide +kernel
theorem dX12_reviewersOf_107 : decode cX12_reviewersOf 107 = .ok (.iadd, 1) := by decide +kernel
theorem dX12_reviewersOf_108 : decode cX12_reviewersOf 108 = .ok (.ifCond .le 7, 3) := by decide +kernel
theorem dX12_reviewersOf_111 : decode cX12_reviewersOf 111 = .ok (.iconst 1, 1) := by decide +kernel
theorem dX12_reviewersOf_112 : decode cX12_reviewersOf 112 = .ok (.goto 4, 3) := by decide +kernel
theorem dX12_reviewersOf_115 : decode cX12_reviewersOf 115 = .ok (.iconst 0, 1) := by decide +kernel
theorem dX12_reviewersOf_116 : decode cX12_reviewersOf 116 = .ok (.istore 5, 2) := by decide +kernel
theorem dX12_reviewersOf_118 : decode cX12_reviewersOf 118 = .ok (.iload_n 2, 1) := by decide +kernel
theorem dX12_reviewersOf_119 : decode cX12_reviewersOf 119 = .ok (.aload_n 0, 1) := by decide +kernel
theorem dX12_reviewersOf_120 : decode cX12_reviewersOf 120 = .ok (.getfield 26, 3) := by decide +kernel
theorem dX12_reviewersOf_123 : decode cX12_reviewersOf 123 = .ok (.iload_n 3, 1) := by decide +kernel
theorem dX12_reviewersOf_124 : decode cX12_reviewersOf 124 = .ok (.iaload, 1) := by decide +kernel
theorem dX12_reviewersOf_125 : decode cX12_reviewersOf 125 = .ok (.iload_n 1, 1) := by decide +kernel
theorem dX12_reviewersOf_126 : decode cX12_reviewersOf 126 = .ok (.if_icmp .ne 15, 3) := by decide +kernel
theorem dX12_reviewersOf_129 : decode cX12_reviewersOf 129 = .ok (.iload 5, 2) := by decide +kernel
theorem dX12_reviewersOf_131 : decode cX12_reviewersOf 131 = .ok (.ifCond .eq 10, 3) := by decide +kernel
theorem dX12_reviewersOf_134 : decode cX12_reviewersOf 134 = .ok (.iconst 1, 1) := by decide +kernel
theorem dX12_reviewersOf_135 : decode cX12_reviewersOf 135 = .ok (.iload 4, 2) := by decide +kernel
theorem dX12_reviewersOf_137 : decode cX12_reviewersOf 137 = .ok (.ishl, 1) := by decide +kernel
theorem dX12_reviewersOf_138 : decode cX12_reviewersOf 138 = .ok (.goto 4, 3) := by decide +kernel
theorem dX12_reviewersOf_141 : decode cX12_reviewersOf 141 = .ok (.iconst 0, 1) := by decide +kernel
theorem dX12_reviewersOf_142 : decode cX12_reviewersOf 142 = .ok (.ior, 1) := by decide +kernel
theorem dX12_reviewersOf_143 : decode cX12_reviewersOf 143 = .ok (.istore_n 2, 1) := by decide +kernel
theorem dX12_reviewersOf_144 : decode cX12_reviewersOf 144 = .ok (.iinc 4 1, 3) := by decide +kernel
theorem dX12_reviewersOf_147 : decode cX12_reviewersOf 147 = .ok (.goto (-77), 3) := by decide +kernel
theorem dX12_reviewersOf_150 : decode cX12_reviewersOf 150 = .ok (.iinc 3 1, 3) := by decide +kernel
theorem dX12_reviewersOf_153 : decode cX12_reviewersOf 153 = .ok (.goto (-94), 3) := by decide +kernel
theorem dX12_reviewersOf_156 : decode cX12_reviewersOf 156 = .ok (.iload_n 2, 1) := by decide +kernel
theorem dX12_reviewersOf_157 : decode cX12_reviewersOf 157 = .ok (.iconst 1, 1) := by decide +kernel
theorem dX12_reviewersOf_158 : decode cX12_reviewersOf 158 = .ok (.aload_n 0, 1) := by decide +kernel
theorem dX12_reviewersOf_159 : decode cX12_reviewersOf 159 = .ok (.getfield 44, 3) := by decide +kernel
theorem dX12_reviewersOf_162 : decode cX12_reviewersOf 162 = .ok (.iload_n 1, 1) := by decide +kernel
theorem dX12_reviewersOf_163 : decode cX12_reviewersOf 163 = .ok (.iaload, 1) := by decide +kernel
theorem dX12_reviewersOf_164 : decode cX12_reviewersOf 164 = .ok (.ishl, 1) := by decide +kernel
theorem dX12_reviewersOf_165 : decode cX12_reviewersOf 165 = .ok (.iconst (-1), 1) := by decide +kernel
theorem dX12_reviewersOf_166 : decode cX12_reviewersOf 166 = .ok (.ixor, 1) := by decide +kernel
theorem dX12_reviewersOf_167 : decode cX12_reviewersOf 167 = .ok (.iand, 1) := by decide +kernel
theorem dX12_reviewersOf_168 : decode cX12_reviewersOf 168 = .ok (.ireturn, 1) := by decide +kernel
theorem dX12_canSee_0 : decode cX12_canSee 0 = .ok (.aload_n 0, 1) := by decide +kernel
theorem dX12_canSee_1 : decode cX12_canSee 1 = .ok (.getfield 57, 3) := by decide +kernel
theorem dX12_canSee_4 : decode cX12_canSee 4 = .ok (.iload_n 2, 1) := by decide +kernel
theorem dX12_canSee_5 : decode cX12_canSee 5 = .ok (.baload, 1) := by decide +kernel
theorem dX12_canSee_6 : decode cX12_canSee 6 = .ok (.ifCond .eq 26, 3) := by decide +kernel
theorem dX12_canSee_9 : decode cX12_canSee 9 = .ok (.aload_n 0, 1) := by decide +kernel
theorem dX12_canSee_10 : decode cX12_canSee 10 = .ok (.getfield 44, 3) := by decide +kernel
theorem dX12_canSee_13 : decode cX12_canSee 13 = .ok (.iload_n 2, 1) := by decide +kernel
theorem dX12_canSee_14 : decode cX12_canSee 14 = .ok (.iaload, 1) := by decide +kernel
theorem dX12_canSee_15 : decode cX12_canSee 15 = .ok (.iload_n 1, 1) := by decide +kernel
theorem dX12_canSee_16 : decode cX12_canSee 16 = .ok (.if_icmp .eq 16, 3) := by decide +kernel
theorem dX12_canSee_19 : decode cX12_canSee 19 = .ok (.aload_n 0, 1) := by decide +kernel
theorem dX12_canSee_20 : decode cX12_canSee 20 = .ok (.iload_n 2, 1) := by decide +kernel
theorem dX12_canSee_21 : decode cX12_canSee 21 = .ok (.invokevirtual 254, 3) := by decide +kernel
theorem dX12_canSee_24 : decode cX12_canSee 24 = .ok (.iload_n 1, 1) := by decide +kernel
theorem dX12_canSee_25 : decode cX12_canSee 25 = .ok (.ishr, 1) := by decide +kernel
theorem dX12_canSee_26 : decode cX12_canSee 26 = .ok (.iconst 1, 1) := by decide +kernel
theorem dX12_canSee_27 : decode cX12_canSee 27 = .ok (.iand, 1) := by decide +kernel
theorem dX12_canSee_28 : decode cX12_canSee 28 = .ok (.iconst 1, 1) := by decide +kernel
theorem dX12_canSee_29 : decode cX12_canSee 29 = .ok (.if_icmp .ne 7, 3) := by decide +kernel
theorem dX12_canSee_32 : decode cX12_canSee 32 = .ok (.iconst 1, 1) := by decide +kernel
theorem dX12_canSee_33 : decode cX12_canSee 33 = .ok (.goto 4, 3) := by decide +kernel
theorem dX12_canSee_36 : decode cX12_canSee 36 = .ok (.iconst 0, 1) := by decide +kernel
theorem dX12_canSee_37 : decode cX12_canSee 37 = .ok (.ireturn, 1) := by decide +kernel
theorem dX12_tells_0 : decode cX12_tells 0 = .ok (.aload_n 0, 1) := by decide +kernel
theorem dX12_tells_1 : decode cX12_tells 1 = .ok (.iload_n 1, 1) := by decide +kernel
theorem dX12_tells_2 : decode cX12_tells 2 = .ok (.invokevirtual 254, 3) := by decide +kernel
theorem dX12_tells_5 : decode cX12_tells 5 = .ok (.iconst 1, 1) := by decide +kernel
theorem dX12_tells_6 : decode cX12_tells 6 = .ok (.aload_n 0, 1) := by decide +kernel
theorem dX12_tells_7 : decode cX12_tells 7 = .ok (.getfield 44, 3) := by decide +kernel
theorem dX12_tells_10 : decode cX12_tells 10 = .ok (.iload_n 1, 1) := by decide +kernel
theorem dX12_tells_11 : decode cX12_tells 11 = .ok (.iaload, 1) := by decide +kernel
theorem dX12_tells_12 : decode cX12_tells 12 = .ok (.ishl, 1) := by decide +kernel
theorem dX12_tells_13 : decode cX12_tells 13 = .ok (.ior, 1) := by decide +kernel
theorem dX12_tells_14 : decode cX12_tells 14 = .ok (.istore_n 3, 1) := by decide +kernel
theorem dX12_tells_15 : decode cX12_tells 15 = .ok (.iload_n 3, 1) := by decide +kernel
theorem dX12_tells_16 : decode cX12_tells 16 = .ok (.aload_n 0, 1) := by decide +kernel
theorem dX12_tells_17 : decode cX12_tells 17 = .ok (.getfield 57, 3) := by decide +kernel
theorem dX12_tells_20 : decode cX12_tells 20 = .ok (.iload_n 1, 1) := by decide +kernel
theorem dX12_tells_21 : decode cX12_tells 21 = .ok (.baload, 1) := by decide +kernel
theorem dX12_tells_22 : decode cX12_tells 22 = .ok (.ifCond .ne 12, 3) := by decide +kernel
theorem dX12_tells_25 : decode cX12_tells 25 = .ok (.aload_n 0, 1) := by decide +kernel
theorem dX12_tells_26 : decode cX12_tells 26 = .ok (.getfield 53, 3) := by decide +kernel
theorem dX12_tells_29 : decode cX12_tells 29 = .ok (.iload_n 1, 1) := by decide +kernel
theorem dX12_tells_30 : decode cX12_tells 30 = .ok (.baload, 1) := by decide +kernel
theorem dX12_tells_31 : decode cX12_tells 31 = .ok (.ifCond .eq 7, 3) := by decide +kernel
theorem dX12_tells_34 : decode cX12_tells 34 = .ok (.iconst 0, 1) := by decide +kernel
theorem dX12_tells_35 : decode cX12_tells 35 = .ok (.goto 13, 3) := by decide +kernel
theorem dX12_tells_38 : decode cX12_tells 38 = .ok (.aload_n 0, 1) := by decide +kernel
theorem dX12_tells_39 : decode cX12_tells 39 = .ok (.getfield 150, 3) := by decide +kernel
theorem dX12_tells_42 : decode cX12_tells 42 = .ok (.aload_n 0, 1) := by decide +kernel
theorem dX12_tells_43 : decode cX12_tells 43 = .ok (.iload_n 1, 1) := by decide +kernel
theorem dX12_tells_44 : decode cX12_tells 44 = .ok (.invokevirtual 257, 3) := by decide +kernel
theorem dX12_tells_47 : decode cX12_tells 47 = .ok (.iaload, 1) := by decide +kernel
theorem dX12_tells_48 : decode cX12_tells 48 = .ok (.ior, 1) := by decide +kernel
theorem dX12_tells_49 : decode cX12_tells 49 = .ok (.istore_n 3, 1) := by decide +kernel
theorem dX12_tells_50 : decode cX12_tells 50 = .ok (.iconst 0, 1) := by decide +kernel
theorem dX12_tells_51 : decode cX12_tells 51 = .ok (.istore 4, 2) := by decide +kernel
theorem dX12_tells_53 : decode cX12_tells 53 = .ok (.iload 4, 2) := by decide +kernel
theorem dX12_tells_55 : decode cX12_tells 55 = .ok (.bipush 6, 2) := by decide +kernel
theorem dX12_tells_57 : decode cX12_tells 57 = .ok (.if_icmp .ge 40, 3) := by decide +kernel
theorem dX12_tells_60 : decode cX12_tells 60 = .ok (.aload_n 0, 1) := by decide +kernel
theorem dX12_tells_61 : decode cX12_tells 61 = .ok (.getfield 153, 3) := by decide +kernel
theorem dX12_tells_64 : decode cX12_tells 64 = .ok (.iload 4, 2) := by decide +kernel
theorem dX12_tells_66 : decode cX12_tells 66 = .ok (.dup2, 1) := by decide +kernel
theorem dX12_tells_67 : decode cX12_tells 67 = .ok (.iaload, 1) := by decide +kernel
theorem dX12_tells_68 : decode cX12_tells 68 = .ok (.iload 4, 2) := by decide +kernel
theorem dX12_tells_70 : decode cX12_tells 70 = .ok (.iload_n 2, 1) := by decide +kernel
theorem dX12_tells_71 : decode cX12_tells 71 = .ok (.if_icmp .eq 17, 3) := by decide +kernel
theorem dX12_tells_74 : decode cX12_tells 74 = .ok (.iload_n 3, 1) := by decide +kernel
theorem dX12_tells_75 : decode cX12_tells 75 = .ok (.iload 4, 2) := by decide +kernel
theorem dX12_tells_77 : decode cX12_tells 77 = .ok (.ishr, 1) := by decide +kernel
theorem dX12_tells_78 : decode cX12_tells 78 = .ok (.iconst 1, 1) := by decide +kernel
theorem dX12_tells_79 : decode cX12_tells 79 = .ok (.iand, 1) := by decide +kernel
theorem dX12_tells_80 : decode cX12_tells 80 = .ok (.iconst 1, 1) := by decide +kernel
theorem dX12_tells_81 : decode cX12_tells 81 = .ok (.if_icmp .ne 7, 3) := by decide +kernel
theorem dX12_tells_84 : decode cX12_tells 84 = .ok (.iconst 1, 1) := by decide +kernel
theorem dX12_tells_85 : decode cX12_tells 85 = .ok (.goto 4, 3) := by decide +kernel
theorem dX12_tells_88 : decode cX12_tells 88 = .ok (.iconst 0, 1) := by decide +kernel
theorem dX12_tells_89 : decode cX12_tells 89 = .ok (.iadd, 1) := by decide +kernel
theorem dX12_tells_90 : decode cX12_tells 90 = .ok (.iastore, 1) := by decide +kernel
theorem dX12_tells_91 : decode cX12_tells 91 = .ok (.iinc 4 1, 3) := by decide +kernel
theorem dX12_tells_94 : decode cX12_tells 94 = .ok (.goto (-41), 3) := by decide +kernel
theorem dX12_tells_97 : decode cX12_tells 97 = .ok (.aload_n 0, 1) := by decide +kernel
theorem dX12_tells_98 : decode cX12_tells 98 = .ok (.getfield 72, 3) := by decide +kernel
theorem dX12_tells_101 : decode cX12_tells 101 = .ok (.iload_n 1, 1) := by decide +kernel
theorem dX12_tells_102 : decode cX12_tells 102 = .ok (.aload_n 0, 1) := by decide +kernel
theorem dX12_tells_103 : decode cX12_tells 103 = .ok (.getfield 260, 3) := by decide +kernel
theorem dX12_tells_106 : decode cX12_tells 106 = .ok (.iastore, 1) := by decide +kernel
theorem dX12_tells_107 : decode cX12_tells 107 = .ok (.return_, 1) := by decide +kernel
theorem dX12_givesTurns_0 : decode cX12_givesTurns 0 = .ok (.aload_n 0, 1) := by decide +kernel
theorem dX12_givesTurns_1 : decode cX12_givesTurns 1 = .ok (.getfield 69, 3) := by decide +kernel
theorem dX12_givesTurns_4 : decode cX12_givesTurns 4 = .ok (.iload_n 1, 1) := by decide +kernel
theorem dX12_givesTurns_5 : decode cX12_givesTurns 5 = .ok (.dup2, 1) := by decide +kernel
theorem dX12_givesTurns_6 : decode cX12_givesTurns 6 = .ok (.iaload, 1) := by decide +kernel
theorem dX12_givesTurns_7 : decode cX12_givesTurns 7 = .ok (.aload_n 0, 1) := by decide +kernel
theorem dX12_givesTurns_8 : decode cX12_givesTurns 8 = .ok (.getfield 47, 3) := by decide +kernel
theorem dX12_givesTurns_11 : decode cX12_givesTurns 11 = .ok (.iload_n 1, 1) := by decide +kernel
theorem dX12_givesTurns_12 : decode cX12_givesTurns 12 = .ok (.iaload, 1) := by decide +kernel
theorem dX12_givesTurns_13 : decode cX12_givesTurns 13 = .ok (.ifCond .ne 16, 3) := by decide +kernel
theorem dX12_givesTurns_16 : decode cX12_givesTurns 16 = .ok (.aload_n 0, 1) := by decide +kernel
theorem dX12_givesTurns_17 : decode cX12_givesTurns 17 = .ok (.getfield 53, 3) := by decide +kernel
theorem dX12_givesTurns_20 : decode cX12_givesTurns 20 = .ok (.iload_n 1, 1) := by decide +kernel
theorem dX12_givesTurns_21 : decode cX12_givesTurns 21 = .ok (.baload, 1) := by decide +kernel
theorem dX12_givesTurns_22 : decode cX12_givesTurns 22 = .ok (.ifCond .ne 7, 3) := by decide +kernel
theorem dX12_givesTurns_25 : decode cX12_givesTurns 25 = .ok (.iload_n 2, 1) := by decide +kernel
theorem dX12_givesTurns_26 : decode cX12_givesTurns 26 = .ok (.goto 4, 3) := by decide +kernel
theorem dX12_givesTurns_29 : decode cX12_givesTurns 29 = .ok (.iconst 0, 1) := by decide +kernel
theorem dX12_givesTurns_30 : decode cX12_givesTurns 30 = .ok (.ior, 1) := by decide +kernel
theorem dX12_givesTurns_31 : decode cX12_givesTurns 31 = .ok (.iastore, 1) := by decide +kernel
theorem dX12_givesTurns_32 : decode cX12_givesTurns 32 = .ok (.return_, 1) := by decide +kernel
theorem dX12_askedOf_0 : decode cX12_askedOf 0 = .ok (.aload_n 0, 1) := by decide +kernel
theorem dX12_askedOf_1 : decode cX12_askedOf 1 = .ok (.iload_n 1, 1) := by decide +kernel
theorem dX12_askedOf_2 : decode cX12_askedOf 2 = .ok (.invokevirtual 254, 3) := by decide +kernel
theorem dX12_askedOf_5 : decode cX12_askedOf 5 = .ok (.istore_n 2, 1) := by decide +kernel
theorem dX12_askedOf_6 : decode cX12_askedOf 6 = .ok (.iconst 0, 1) := by decide +kernel
theorem dX12_askedOf_7 : decode cX12_askedOf 7 = .ok (.istore_n 3, 1) := by decide +kernel
theorem dX12_askedOf_8 : decode cX12_askedOf 8 = .ok (.iload_n 3, 1) := by decide +kernel
theorem dX12_askedOf_9 : decode cX12_askedOf 9 = .ok (.bipush 6, 2) := by decide +kernel
theorem dX12_askedOf_11 : decode cX12_askedOf 11 = .ok (.if_icmp .ge 36, 3) := by decide +kernel
theorem dX12_askedOf_14 : decode cX12_askedOf 14 = .ok (.iload_n 2, 1) := by decide +kernel
theorem dX12_askedOf_15 : decode cX12_askedOf 15 = .ok (.aload_n 0, 1) := by decide +kernel
theorem dX12_askedOf_16 : decode cX12_askedOf 16 = .ok (.iload_n 3, 1) := by decide +kernel
theorem dX12_askedOf_17 : decode cX12_askedOf 17 = .ok (.aload_n 0, 1) := by decide +kernel
theorem dX12_askedOf_18 : decode cX12_askedOf 18 = .ok (.iload_n 1, 1) := by decide +kernel
theorem dX12_askedOf_19 : decode cX12_askedOf 19 = .ok (.invokevirtual 247, 3) := by decide +kernel
theorem dX12_askedOf_22 : decode cX12_askedOf 22 = .ok (.iconst 0, 1) := by decide +kernel
theorem dX12_askedOf_23 : decode cX12_askedOf 23 = .ok (.invokevirtual 263, 3) := by decide +kernel
theorem dX12_askedOf_26 : decode cX12_askedOf 26 = .ok (.iconst 2, 1) := by decide +kernel
theorem dX12_askedOf_27 : decode cX12_askedOf 27 = .ok (.if_icmp .ne 11, 3) := by decide +kernel
theorem dX12_askedOf_30 : decode cX12_askedOf 30 = .ok (.iconst 1, 1) := by decide +kernel
theorem dX12_askedOf_31 : decode cX12_askedOf 31 = .ok (.iload_n 3, 1) := by decide +kernel
theorem dX12_askedOf_32 : decode cX12_askedOf 32 = .ok (.ishl, 1) := by decide +kernel
theorem dX12_askedOf_33 : decode cX12_askedOf 33 = .ok (.iconst (-1), 1) := by decide +kernel
theorem dX12_askedOf_34 : decode cX12_askedOf 34 = .ok (.ixor, 1) := by decide +kernel
theorem dX12_askedOf_35 : decode cX12_askedOf 35 = .ok (.goto 4, 3) := by decide +kernel
theorem dX12_askedOf_38 : decode cX12_askedOf 38 = .ok (.iconst (-1), 1) := by decide +kernel
theorem dX12_askedOf_39 : decode cX12_askedOf 39 = .ok (.iand, 1) := by decide +kernel
theorem dX12_askedOf_40 : decode cX12_askedOf 40 = .ok (.istore_n 2, 1) := by decide +kernel
theorem dX12_askedOf_41 : decode cX12_askedOf 41 = .ok (.iinc 3 1, 3) := by decide +kernel
theorem dX12_askedOf_44 : decode cX12_askedOf 44 = .ok (.goto (-36), 3) := by decide +kernel
theorem dX12_askedOf_47 : decode cX12_askedOf 47 = .ok (.iload_n 2, 1) := by decide +kernel
theorem dX12_askedOf_48 : decode cX12_askedOf 48 = .ok (.ireturn, 1) := by decide +kernel
theorem dX12_turnsOn_0 : decode cX12_turnsOn 0 = .ok (.aload_n 0, 1) := by decide +kernel
theorem dX12_turnsOn_1 : decode cX12_turnsOn 1 = .ok (.getfield 69, 3) := by decide +kernel
theorem dX12_turnsOn_4 : decode cX12_turnsOn 4 = .ok (.iload_n 1, 1) := by decide +kernel
theorem dX12_turnsOn_5 : decode cX12_turnsOn 5 = .ok (.dup2, 1) := by decide +kernel
theorem dX12_turnsOn_6 : decode cX12_turnsOn 6 = .ok (.iaload, 1) := by decide +kernel
theorem dX12_turnsOn_7 : decode cX12_turnsOn 7 = .ok (.iconst 1, 1) := by decide +kernel
theorem dX12_turnsOn_8 : decode cX12_turnsOn 8 = .ok (.iload_n 2, 1) := by decide +kernel
theorem dX12_turnsOn_9 : decode cX12_turnsOn 9 = .ok (.ishl, 1) := by decide +kernel
theorem dX12_turnsOn_10 : decode cX12_turnsOn 10 = .ok (.iconst (-1), 1) := by decide +kernel
theorem dX12_turnsOn_11 : decode cX12_turnsOn 11 = .ok (.ixor, 1) := by decide +kernel
theorem dX12_turnsOn_12 : decode cX12_turnsOn 12 = .ok (.iand, 1) := by decide +kernel
theorem dX12_turnsOn_13 : decode cX12_turnsOn 13 = .ok (.iastore, 1) := by decide +kernel
theorem dX12_turnsOn_14 : decode cX12_turnsOn 14 = .ok (.iload_n 2, 1) := by decide +kernel
theorem dX12_turnsOn_15 : decode cX12_turnsOn 15 = .ok (.aload_n 0, 1) := by decide +kernel
theorem dX12_turnsOn_16 : decode cX12_turnsOn 16 = .ok (.getfield 44, 3) := by decide +kernel
theorem dX12_turnsOn_19 : decode cX12_turnsOn 19 = .ok (.iload_n 1, 1) := by decide +kernel
theorem dX12_turnsOn_20 : decode cX12_turnsOn 20 = .ok (.iaload, 1) := by decide +kernel
theorem dX12_turnsOn_21 : decode cX12_turnsOn 21 = .ok (.if_icmp .eq 19, 3) := by decide +kernel
theorem dX12_turnsOn_24 : decode cX12_turnsOn 24 = .ok (.aload_n 0, 1) := by decide +kernel
theorem dX12_turnsOn_25 : decode cX12_turnsOn 25 = .ok (.iload_n 1, 1) := by decide +kernel
theorem dX12_turnsOn_26 : decode cX12_turnsOn 26 = .ok (.iconst 1, 1) := by decide +kernel
theorem dX12_turnsOn_27 : decode cX12_turnsOn 27 = .ok (.aload_n 0, 1) := by decide +kernel
theorem dX12_turnsOn_28 : decode cX12_turnsOn 28 = .ok (.getfield 44, 3) := by decide +kernel
theorem dX12_turnsOn_31 : decode cX12_turnsOn 31 = .ok (.iload_n 1, 1) := by decide +kernel
theorem dX12_turnsOn_32 : decode cX12_turnsOn 32 = .ok (.iaload, 1) := by decide +kernel
theorem dX12_turnsOn_33 : decode cX12_turnsOn 33 = .ok (.ishl, 1) := by decide +kernel
theorem dX12_turnsOn_34 : decode cX12_turnsOn 34 = .ok (.invokevirtual 266, 3) := by decide +kernel
theorem dX12_turnsOn_37 : decode cX12_turnsOn 37 = .ok (.goto 17, 3) := by decide +kernel
theorem dX12_turnsOn_40 : decode cX12_turnsOn 40 = .ok (.iload_n 3, 1) := by decide +kernel
theorem dX12_turnsOn_41 : decode cX12_turnsOn 41 = .ok (.ifCond .ne 13, 3) := by decide +kernel
theorem dX12_turnsOn_44 : decode cX12_turnsOn 44 = .ok (.aload_n 0, 1) := by decide +kernel
theorem dX12_turnsOn_45 : decode cX12_turnsOn 45 = .ok (.iload_n 1, 1) := by decide +kernel
theorem dX12_turnsOn_46 : decode cX12_turnsOn 46 = .ok (.aload_n 0, 1) := by decide +kernel
theorem dX12_turnsOn_47 : decode cX12_turnsOn 47 = .ok (.iload_n 1, 1) := by decide +kernel
theorem dX12_turnsOn_48 : decode cX12_turnsOn 48 = .ok (.invokevirtual 270, 3) := by decide +kernel
theorem dX12_turnsOn_51 : decode cX12_turnsOn 51 = .ok (.invokevirtual 266, 3) := by decide +kernel
theorem dX12_turnsOn_54 : decode cX12_turnsOn 54 = .ok (.return_, 1) := by decide +kernel
theorem dX12_areAllAlike_0 : decode cX12_areAllAlike 0 = .ok (.iconst 1, 1) := by decide +kernel
theorem dX12_areAllAlike_1 : decode cX12_areAllAlike 1 = .ok (.istore 5, 2) := by decide +kernel
theorem dX12_areAllAlike_3 : decode cX12_areAllAlike 3 = .ok (.iconst 0, 1) := by decide +kernel
theorem dX12_areAllAlike_4 : decode cX12_areAllAlike 4 = .ok (.istore 6, 2) := by decide +kernel
theorem dX12_areAllAlike_6 : decode cX12_areAllAlike 6 = .ok (.iload 6, 2) := by decide +kernel
theorem dX12_areAllAlike_8 : decode cX12_areAllAlike 8 = .ok (.iconst 4, 1) := by decide +kernel
theorem dX12_areAllAlike_9 : decode cX12_areAllAlike 9 = .ok (.if_icmp .ge 95, 3) := by decide +kernel
theorem dX12_areAllAlike_12 : decode cX12_areAllAlike 12 = .ok (.iload 5, 2) := by decide +kernel
theorem dX12_areAllAlike_14 : decode cX12_areAllAlike 14 = .ok (.ifCond .eq 90, 3) := by decide +kernel
theorem dX12_areAllAlike_17 : decode cX12_areAllAlike 17 = .ok (.aload_n 0, 1) := by decide +kernel
theorem dX12_areAllAlike_18 : decode cX12_areAllAlike 18 = .ok (.iconst 0, 1) := by decide +kernel
theorem dX12_areAllAlike_19 : decode cX12_areAllAlike 19 = .ok (.iload_n 1, 1) := by decide +kernel
theorem dX12_areAllAlike_20 : decode cX12_areAllAlike 20 = .ok (.iload_n 2, 1) := by decide +kernel
theorem dX12_areAllAlike_21 : decode cX12_areAllAlike 21 = .ok (.iload 6, 2) := by decide +kernel
theorem dX12_areAllAlike_23 : decode cX12_areAllAlike 23 = .ok (.invokevirtual 230, 3) := by decide +kernel
theorem dX12_areAllAlike_26 : decode cX12_areAllAlike 26 = .ok (.aload_n 0, 1) := by decide +kernel
theorem dX12_areAllAlike_27 : decode cX12_areAllAlike 27 = .ok (.iconst 1, 1) := by decide +kernel
theorem dX12_areAllAlike_28 : decode cX12_areAllAlike 28 = .ok (.iload_n 3, 1) := by decide +kernel
theorem dX12_areAllAlike_29 : decode cX12_areAllAlike 29 = .ok (.iload 4, 2) := by decide +kernel
theorem dX12_areAllAlike_31 : decode cX12_areAllAlike 31 = .ok (.iload 6, 2) := by decide +kernel
theorem dX12_areAllAlike_33 : decode cX12_areAllAlike 33 = .ok (.invokevirtual 230, 3) := by decide +kernel
theorem dX12_areAllAlike_36 : decode cX12_areAllAlike 36 = .ok (.aload_n 0, 1) := by decide +kernel
theorem dX12_areAllAlike_37 : decode cX12_areAllAlike 37 = .ok (.getfield 180, 3) := by decide +kernel
theorem dX12_areAllAlike_40 : decode cX12_areAllAlike 40 = .ok (.iconst 0, 1) := by decide +kernel
theorem dX12_areAllAlike_41 : decode cX12_areAllAlike 41 = .ok (.iaload, 1) := by decide +kernel
theorem dX12_areAllAlike_42 : decode cX12_areAllAlike 42 = .ok (.aload_n 0, 1) := by decide +kernel
theorem dX12_areAllAlike_43 : decode cX12_areAllAlike 43 = .ok (.getfield 180, 3) := by decide +kernel
theorem dX12_areAllAlike_46 : decode cX12_areAllAlike 46 = .ok (.iconst 1, 1) := by decide +kernel
theorem dX12_areAllAlike_47 : decode cX12_areAllAlike 47 = .ok (.iaload, 1) := by decide +kernel
theorem dX12_areAllAlike_48 : decode cX12_areAllAlike 48 = .ok (.if_icmp .ne 7, 3) := by decide +kernel
theorem dX12_areAllAlike_51 : decode cX12_areAllAlike 51 = .ok (.iconst 1, 1) := by decide +kernel
theorem dX12_areAllAlike_52 : decode cX12_areAllAlike 52 = .ok (.goto 4, 3) := by decide +kernel
theorem dX12_areAllAlike_55 : decode cX12_areAllAlike 55 = .ok (.iconst 0, 1) := by decide +kernel
theorem dX12_areAllAlike_56 : decode cX12_areAllAlike 56 = .ok (.istore 5, 2) := by decide +kernel
theorem dX12_areAllAlike_58 : decode cX12_areAllAlike 58 = .ok (.iconst 0, 1) := by decide +kernel
theorem dX12_areAllAlike_59 : decode cX12_areAllAlike 59 = .ok (.istore 7, 2) := by decide +kernel
theorem dX12_areAllAlike_61 : decode cX12_areAllAlike 61 = .ok (.iload 7, 2) := by decide +kernel
theorem dX12_areAllAlike_63 : decode cX12_areAllAlike 63 = .ok (.aload_n 0, 1) := by decide +kernel
theorem dX12_areAllAlike_64 : decode cX12_areAllAlike 64 = .ok (.getfield 180, 3) := by decide +kernel
theorem dX12_areAllAlike_67 : decode cX12_areAllAlike 67 = .ok (.iconst 0, 1) := by decide +kernel
theorem dX12_areAllAlike_68 : decode cX12_areAllAlike 68 = .ok (.iaload, 1) := by decide +kernel
theorem dX12_areAllAlike_69 : decode cX12_areAllAlike 69 = .ok (.if_icmp .ge 29, 3) := by decide +kernel
theorem dX12_areAllAlike_72 : decode cX12_areAllAlike 72 = .ok (.iload 5, 2) := by decide +kernel
theorem dX12_areAllAlike_74 : decode cX12_areAllAlike 74 = .ok (.ifCond .eq 24, 3) := by decide +kernel
theorem dX12_areAllAlike_77 : decode cX12_areAllAlike 77 = .ok (.aload_n 0, 1) := by decide +kernel
theorem dX12_areAllAlike_78 : decode cX12_areAllAlike 78 = .ok (.iload 7, 2) := by decide +kernel
theorem dX12_areAllAlike_80 : decode cX12_areAllAlike 80 = .ok (.bipush 15, 2) := by decide +kernel
theorem dX12_areAllAlike_82 : decode cX12_areAllAlike 82 = .ok (.iload 7, 2) := by decide +kernel
theorem dX12_areAllAlike_84 : decode cX12_areAllAlike 84 = .ok (.iadd, 1) := by decide +kernel
theorem dX12_areAllAlike_85 : decode cX12_areAllAlike 85 = .ok (.iload 6, 2) := by decide +kernel
theorem dX12_areAllAlike_87 : decode cX12_areAllAlike 87 = .ok (.invokevirtual 227, 3) := by decide +kernel
theorem dX12_areAllAlike_90 : decode cX12_areAllAlike 90 = .ok (.istore 5, 2) := by decide +kernel
theorem dX12_areAllAlike_92 : decode cX12_areAllAlike 92 = .ok (.iinc 7 1, 3) := by decide +kernel
theorem dX12_areAllAlike_95 : decode cX12_areAllAlike 95 = .ok (.goto (-34), 3) := by decide +kernel
theorem dX12_areAllAlike_98 : decode cX12_areAllAlike 98 = .ok (.iinc 6 1, 3) := by decide +kernel
theorem dX12_areAllAlike_101 : decode cX12_areAllAlike 101 = .ok (.goto (-95), 3) := by decide +kernel
theorem dX12_areAllAlike_104 : decode cX12_areAllAlike 104 = .ok (.iload 5, 2) := by decide +kernel
theorem dX12_areAllAlike_106 : decode cX12_areAllAlike 106 = .ok (.ireturn, 1) := by decide +kernel
theorem dX12_kindAt_0 : decode cX12_kindAt 0 = .ok (.aload_n 0, 1) := by decide +kernel
theorem dX12_kindAt_1 : decode cX12_kindAt 1 = .ok (.getfield 29, 3) := by decide +kernel
theorem dX12_kindAt_4 : decode cX12_kindAt 4 = .ok (.iload_n 1, 1) := by decide +kernel
theorem dX12_kindAt_5 : decode cX12_kindAt 5 = .ok (.iaload, 1) := by decide +kernel
theorem dX12_kindAt_6 : decode cX12_kindAt 6 = .ok (.ifCond .ne 5, 3) := by decide +kernel
theorem dX12_kindAt_9 : decode cX12_kindAt 9 = .ok (.iconst 0, 1) := by decide +kernel
theorem dX12_kindAt_10 : decode cX12_kindAt 10 = .ok (.ireturn, 1) := by decide +kernel
theorem dX12_kindAt_11 : decode cX12_kindAt 11 = .ok (.aload_n 0, 1) := by decide +kernel
theorem dX12_kindAt_12 : decode cX12_kindAt 12 = .ok (.aload_n 0, 1) := by decide +kernel
theorem dX12_kindAt_13 : decode cX12_kindAt 13 = .ok (.getfield 26, 3) := by decide +kernel
theorem dX12_kindAt_16 : decode cX12_kindAt 16 = .ok (.iload_n 1, 1) := by decide +kernel
theorem dX12_kindAt_17 : decode cX12_kindAt 17 = .ok (.iaload, 1) := by decide +kernel
theorem dX12_kindAt_18 : decode cX12_kindAt 18 = .ok (.aload_n 0, 1) := by decide +kernel
theorem dX12_kindAt_19 : decode cX12_kindAt 19 = .ok (.getfield 29, 3) := by decide +kernel
theorem dX12_kindAt_22 : decode cX12_kindAt 22 = .ok (.iload_n 1, 1) := by decide +kernel
theorem dX12_kindAt_23 : decode cX12_kindAt 23 = .ok (.iaload, 1) := by decide +kernel
theorem dX12_kindAt_24 : decode cX12_kindAt 24 = .ok (.iconst 1, 1) := by decide +kernel
theorem dX12_kindAt_25 : decode cX12_kindAt 25 = .ok (.isub, 1) := by decide +kernel
theorem dX12_kindAt_26 : decode cX12_kindAt 26 = .ok (.invokevirtual 244, 3) := by decide +kernel
theorem dX12_kindAt_29 : decode cX12_kindAt 29 = .ok (.istore_n 2, 1) := by decide +kernel
theorem dX12_kindAt_30 : decode cX12_kindAt 30 = .ok (.aload_n 0, 1) := by decide +kernel
theorem dX12_kindAt_31 : decode cX12_kindAt 31 = .ok (.getfield 17, 3) := by decide +kernel
theorem dX12_kindAt_34 : decode cX12_kindAt 34 = .ok (.iload_n 1, 1) := by decide +kernel
theorem dX12_kindAt_35 : decode cX12_kindAt 35 = .ok (.iaload, 1) := by decide +kernel
theorem dX12_kindAt_36 : decode cX12_kindAt 36 = .ok (.aload_n 0, 1) := by decide +kernel
theorem dX12_kindAt_37 : decode cX12_kindAt 37 = .ok (.getfield 17, 3) := by decide +kernel
theorem dX12_kindAt_40 : decode cX12_kindAt 40 = .ok (.iload_n 2, 1) := by decide +kernel
theorem dX12_kindAt_41 : decode cX12_kindAt 41 = .ok (.iaload, 1) := by decide +kernel
theorem dX12_kindAt_42 : decode cX12_kindAt 42 = .ok (.if_icmp .ne 7, 3) := by decide +kernel
theorem dX12_kindAt_45 : decode cX12_kindAt 45 = .ok (.iconst 1, 1) := by decide +kernel
theorem dX12_kindAt_46 : decode cX12_kindAt 46 = .ok (.goto 4, 3) := by decide +kernel
theorem dX12_kindAt_49 : decode cX12_kindAt 49 = .ok (.iconst 0, 1) := by decide +kernel
theorem dX12_kindAt_50 : decode cX12_kindAt 50 = .ok (.istore_n 3, 1) := by decide +kernel
theorem dX12_kindAt_51 : decode cX12_kindAt 51 = .ok (.iload_n 3, 1) := by decide +kernel
theorem dX12_kindAt_52 : decode cX12_kindAt 52 = .ok (.ifCond .eq 18, 3) := by decide +kernel
theorem dX12_kindAt_55 : decode cX12_kindAt 55 = .ok (.aload_n 0, 1) := by decide +kernel
theorem dX12_kindAt_56 : decode cX12_kindAt 56 = .ok (.iload_n 1, 1) := by decide +kernel
theorem dX12_kindAt_57 : decode cX12_kindAt 57 = .ok (.iload_n 2, 1) := by decide +kernel
theorem dX12_kindAt_58 : decode cX12_kindAt 58 = .ok (.invokevirtual 273, 3) := by decide +kernel
theorem dX12_kindAt_61 : decode cX12_kindAt 61 = .ok (.ifCond .eq 7, 3) := by decide +kernel
theorem dX12_kindAt_64 : decode cX12_kindAt 64 = .ok (.iconst 2, 1) := by decide +kernel
theorem dX12_kindAt_65 : decode cX12_kindAt 65 = .ok (.goto 4, 3) := by decide +kernel
theorem dX12_kindAt_68 : decode cX12_kindAt 68 = .ok (.iconst 0, 1) := by decide +kernel
theorem dX12_kindAt_69 : decode cX12_kindAt 69 = .ok (.ireturn, 1) := by decide +kernel
theorem dX12_kindAt_70 : decode cX12_kindAt 70 = .ok (.aload_n 0, 1) := by decide +kernel
theorem dX12_kindAt_71 : decode cX12_kindAt 71 = .ok (.aload_n 0, 1) := by decide +kernel
theorem dX12_kindAt_72 : decode cX12_kindAt 72 = .ok (.getfield 17, 3) := by decide +kernel
theorem dX12_kindAt_75 : decode cX12_kindAt 75 = .ok (.iload_n 1, 1) := by decide +kernel
theorem dX12_kindAt_76 : decode cX12_kindAt 76 = .ok (.iaload, 1) := by decide +kernel
theorem dX12_kindAt_77 : decode cX12_kindAt 77 = .ok (.iload_n 1, 1) := by decide +kernel
theorem dX12_kindAt_78 : decode cX12_kindAt 78 = .ok (.aload_n 0, 1) := by decide +kernel
theorem dX12_kindAt_79 : decode cX12_kindAt 79 = .ok (.getfield 17, 3) := by decide +kernel
theorem dX12_kindAt_82 : decode cX12_kindAt 82 = .ok (.iload_n 2, 1) := by decide +kernel
theorem dX12_kindAt_83 : decode cX12_kindAt 83 = .ok (.iaload, 1) := by decide +kernel
theorem dX12_kindAt_84 : decode cX12_kindAt 84 = .ok (.iload_n 2, 1) := by decide +kernel
theorem dX12_kindAt_85 : decode cX12_kindAt 85 = .ok (.invokevirtual 277, 3) := by decide +kernel
theorem dX12_kindAt_88 : decode cX12_kindAt 88 = .ok (.ifCond .eq 7, 3) := by decide +kernel
theorem dX12_kindAt_91 : decode cX12_kindAt 91 = .ok (.iconst 1, 1) := by decide +kernel
theorem dX12_kindAt_92 : decode cX12_kindAt 92 = .ok (.goto 4, 3) := by decide +kernel
theorem dX12_kindAt_95 : decode cX12_kindAt 95 = .ok (.iconst 0, 1) := by decide +kernel
theorem dX12_kindAt_96 : decode cX12_kindAt 96 = .ok (.ireturn, 1) := by decide +kernel
theorem dX12_worthOf_0 : decode cX12_worthOf 0 = .ok (.aload_n 0, 1) := by decide +kernel
theorem dX12_worthOf_1 : decode cX12_worthOf 1 = .ok (.getfield 26, 3) := by decide +kernel
theorem dX12_worthOf_4 : decode cX12_worthOf 4 = .ok (.iload_n 2, 1) := by decide +kernel
theorem dX12_worthOf_5 : decode cX12_worthOf 5 = .ok (.iaload, 1) := by decide +kernel
theorem dX12_worthOf_6 : decode cX12_worthOf 6 = .ok (.istore 4, 2) := by decide +kernel
theorem dX12_worthOf_8 : decode cX12_worthOf 8 = .ok (.aload_n 0, 1) := by decide +kernel
theorem dX12_worthOf_9 : decode cX12_worthOf 9 = .ok (.getfield 29, 3) := by decide +kernel
theorem dX12_worthOf_12 : decode cX12_worthOf 12 = .ok (.iload_n 2, 1) := by decide +kernel
theorem dX12_worthOf_13 : decode cX12_worthOf 13 = .ok (.iaload, 1) := by decide +kernel
theorem dX12_worthOf_14 : decode cX12_worthOf 14 = .ok (.istore 5, 2) := by decide +kernel
theorem dX12_worthOf_16 : decode cX12_worthOf 16 = .ok (.iload 5, 2) := by decide +kernel
theorem dX12_worthOf_18 : decode cX12_worthOf 18 = .ok (.ifCond .le 34, 3) := by decide +kernel
theorem dX12_worthOf_21 : decode cX12_worthOf 21 = .ok (.aload_n 0, 1) := by decide +kernel
theorem dX12_worthOf_22 : decode cX12_worthOf 22 = .ok (.getfield 75, 3) := by decide +kernel
theorem dX12_worthOf_25 : decode cX12_worthOf 25 = .ok (.bipush 12, 2) := by decide +kernel
theorem dX12_worthOf_27 : decode cX12_worthOf 27 = .ok (.aload_n 0, 1) := by decide +kernel
theorem dX12_worthOf_28 : decode cX12_worthOf 28 = .ok (.iload 4, 2) := by decide +kernel
theorem dX12_worthOf_30 : decode cX12_worthOf 30 = .ok (.iload 5, 2) := by decide +kernel
theorem dX12_worthOf_32 : decode cX12_worthOf 32 = .ok (.invokevirtual 244, 3) := by decide +kernel
theorem dX12_worthOf_35 : decode cX12_worthOf 35 = .ok (.imul, 1) := by decide +kernel
theorem dX12_worthOf_36 : decode cX12_worthOf 36 = .ok (.iconst 2, 1) := by decide +kernel
theorem dX12_worthOf_37 : decode cX12_worthOf 37 = .ok (.iload_n 1, 1) := by decide +kernel
theorem dX12_worthOf_38 : decode cX12_worthOf 38 = .ok (.imul, 1) := by decide +kernel
theorem dX12_worthOf_39 : decode cX12_worthOf 39 = .ok (.iadd, 1) := by decide +kernel
theorem dX12_worthOf_40 : decode cX12_worthOf 40 = .ok (.iload_n 3, 1) := by decide +kernel
theorem dX12_worthOf_41 : decode cX12_worthOf 41 = .ok (.iadd, 1) := by decide +kernel
theorem dX12_worthOf_42 : decode cX12_worthOf 42 = .ok (.iaload, 1) := by decide +kernel
theorem dX12_worthOf_43 : decode cX12_worthOf 43 = .ok (.ifCond .ne 9, 3) := by decide +kernel
theorem dX12_worthOf_46 : decode cX12_worthOf 46 = .ok (.iinc 5 (-1), 3) := by decide +kernel
theorem dX12_worthOf_49 : decode cX12_worthOf 49 = .ok (.goto (-33), 3) := by decide +kernel
theorem dX12_worthOf_52 : decode cX12_worthOf 52 = .ok (.aload_n 0, 1) := by decide +kernel
theorem dX12_worthOf_53 : decode cX12_worthOf 53 = .ok (.getfield 75, 3) := by decide +kernel
theorem dX12_worthOf_56 : decode cX12_worthOf 56 = .ok (.bipush 12, 2) := by decide +kernel
theorem dX12_worthOf_58 : decode cX12_worthOf 58 = .ok (.aload_n 0, 1) := by decide +kernel
theorem dX12_worthOf_59 : decode cX12_worthOf 59 = .ok (.iload 4, 2) := by decide +kernel
theorem dX12_worthOf_61 : decode cX12_worthOf 61 = .ok (.iload 5, 2) := by decide +kernel
theorem dX12_worthOf_63 : decode cX12_worthOf 63 = .ok (.invokevirtual 244, 3) := by decide +kernel
theorem dX12_worthOf_66 : decode cX12_worthOf 66 = .ok (.imul, 1) := by decide +kernel
theorem dX12_worthOf_67 : decode cX12_worthOf 67 = .ok (.iconst 2, 1) := by decide +kernel
theorem dX12_worthOf_68 : decode cX12_worthOf 68 = .ok (.iload_n 1, 1) := by decide +kernel
theorem dX12_worthOf_69 : decode cX12_worthOf 69 = .ok (.imul, 1) := by decide +kernel
theorem dX12_worthOf_70 : decode cX12_worthOf 70 = .ok (.iadd, 1) := by decide +kernel
theorem dX12_worthOf_71 : decode cX12_worthOf 71 = .ok (.iload_n 3, 1) := by decide +kernel
theorem dX12_worthOf_72 : decode cX12_worthOf 72 = .ok (.iadd, 1) := by decide +kernel
theorem dX12_worthOf_73 : decode cX12_worthOf 73 = .ok (.iaload, 1) := by decide +kernel
theorem dX12_worthOf_74 : decode cX12_worthOf 74 = .ok (.istore 6, 2) := by decide +kernel
theorem dX12_worthOf_76 : decode cX12_worthOf 76 = .ok (.iload 6, 2) := by decide +kernel
theorem dX12_worthOf_78 : decode cX12_worthOf 78 = .ok (.ifCond .ne 7, 3) := by decide +kernel
theorem dX12_worthOf_81 : decode cX12_worthOf 81 = .ok (.iconst 0, 1) := by decide +kernel
theorem dX12_worthOf_82 : decode cX12_worthOf 82 = .ok (.goto 7, 3) := by decide +kernel
theorem dX12_worthOf_85 : decode cX12_worthOf 85 = .ok (.iload 6, 2) := by decide +kernel
theorem dX12_worthOf_87 : decode cX12_worthOf 87 = .ok (.iconst 3, 1) := by decide +kernel
theorem dX12_worthOf_88 : decode cX12_worthOf 88 = .ok (.isub, 1) := by decide +kernel
theorem dX12_worthOf_89 : decode cX12_worthOf 89 = .ok (.istore 7, 2) := by decide +kernel
theorem dX12_worthOf_91 : decode cX12_worthOf 91 = .ok (.iload 5, 2) := by decide +kernel
theorem dX12_worthOf_93 : decode cX12_worthOf 93 = .ok (.iconst 1, 1) := by decide +kernel
theorem dX12_worthOf_94 : decode cX12_worthOf 94 = .ok (.iadd, 1) := by decide +kernel
theorem dX12_worthOf_95 : decode cX12_worthOf 95 = .ok (.istore 8, 2) := by decide +kernel
theorem dX12_worthOf_97 : decode cX12_worthOf 97 = .ok (.iload 8, 2) := by decide +kernel
theorem dX12_worthOf_99 : decode cX12_worthOf 99 = .ok (.aload_n 0, 1) := by decide +kernel
theorem dX12_worthOf_100 : decode cX12_worthOf 100 = .ok (.getfield 29, 3) := by decide +kernel
theorem dX12_worthOf_103 : decode cX12_worthOf 103 = .ok (.iload_n 2, 1) := by decide +kernel
theorem dX12_worthOf_104 : decode cX12_worthOf 104 = .ok (.iaload, 1) := by decide +kernel
theorem dX12_worthOf_105 : decode cX12_worthOf 105 = .ok (.if_icmp .gt 58, 3) := by decide +kernel
theorem dX12_worthOf_108 : decode cX12_worthOf 108 = .ok (.iload 7, 2) := by decide +kernel
theorem dX12_worthOf_110 : decode cX12_worthOf 110 = .ok (.ifCond .eq 53, 3) := by decide +kernel
theorem dX12_worthOf_113 : decode cX12_worthOf 113 = .ok (.aload_n 0, 1) := by decide +kernel
theorem dX12_worthOf_114 : decode cX12_worthOf 114 = .ok (.aload_n 0, 1) := by decide +kernel
theorem dX12_worthOf_115 : decode cX12_worthOf 115 = .ok (.iload 4, 2) := by decide +kernel
theorem dX12_worthOf_117 : decode cX12_worthOf 117 = .ok (.iload 8, 2) := by decide +kernel
theorem dX12_worthOf_119 : decode cX12_worthOf 119 = .ok (.invokevirtual 244, 3) := by decide +kernel
theorem dX12_worthOf_122 : decode cX12_worthOf 122 = .ok (.invokevirtual 280, 3) := by decide +kernel
theorem dX12_worthOf_125 : decode cX12_worthOf 125 = .ok (.istore 9, 2) := by decide +kernel
theorem dX12_worthOf_127 : decode cX12_worthOf 127 = .ok (.aload_n 0, 1) := by decide +kernel
theorem dX12_worthOf_128 : decode cX12_worthOf 128 = .ok (.getfield 78, 3) := by decide +kernel
theorem dX12_worthOf_131 : decode cX12_worthOf 131 = .ok (.iconst 3, 1) := by decide +kernel
theorem dX12_worthOf_132 : decode cX12_worthOf 132 = .ok (.iload_n 3, 1) := by decide +kernel
theorem dX12_worthOf_133 : decode cX12_worthOf 133 = .ok (.imul, 1) := by decide +kernel
theorem dX12_worthOf_134 : decode cX12_worthOf 134 = .ok (.iload 9, 2) := by decide +kernel
theorem dX12_worthOf_136 : decode cX12_worthOf 136 = .ok (.iadd, 1) := by decide +kernel
theorem dX12_worthOf_137 : decode cX12_worthOf 137 = .ok (.iaload, 1) := by decide +kernel
theorem dX12_worthOf_138 : decode cX12_worthOf 138 = .ok (.iload 7, 2) := by decide +kernel
theorem dX12_worthOf_140 : decode cX12_worthOf 140 = .ok (.iconst 2, 1) := by decide +kernel
theorem dX12_worthOf_141 : decode cX12_worthOf 141 = .ok (.iadd, 1) := by decide +kernel
theorem dX12_worthOf_142 : decode cX12_worthOf 142 = .ok (.ishr, 1) := by decide +kernel
theorem dX12_worthOf_143 : decode cX12_worthOf 143 = .ok (.iconst 1, 1) := by decide +kernel
theorem dX12_worthOf_144 : decode cX12_worthOf 144 = .ok (.iand, 1) := by decide +kernel
theorem dX12_worthOf_145 : decode cX12_worthOf 145 = .ok (.iconst 1, 1) := by decide +kernel
theorem dX12_worthOf_146 : decode cX12_worthOf 146 = .ok (.if_icmp .ne 8, 3) := by decide +kernel
theorem dX12_worthOf_149 : decode cX12_worthOf 149 = .ok (.iload 7, 2) := by decide +kernel
theorem dX12_worthOf_151 : decode cX12_worthOf 151 = .ok (.goto 4, 3) := by decide +kernel
theorem dX12_worthOf_154 : decode cX12_worthOf 154 = .ok (.iconst 0, 1) := by decide +kernel
theorem dX12_worthOf_155 : decode cX12_worthOf 155 = .ok (.istore 7, 2) := by decide +kernel
theorem dX12_worthOf_157 : decode cX12_worthOf 157 = .ok (.iinc 8 1, 3) := by decide +kernel
theorem dX12_worthOf_160 : decode cX12_worthOf 160 = .ok (.goto (-63), 3) := by decide +kernel
theorem dX12_worthOf_163 : decode cX12_worthOf 163 = .ok (.iload 7, 2) := by decide +kernel
theorem dX12_worthOf_165 : decode cX12_worthOf 165 = .ok (.ireturn, 1) := by decide +kernel
theorem dX12_isVoted_0 : decode cX12_isVoted 0 = .ok (.iconst 0, 1) := by decide +kernel
theorem dX12_isVoted_1 : decode cX12_isVoted 1 = .ok (.istore 5, 2) := by decide +kernel
theorem dX12_isVoted_3 : decode cX12_isVoted 3 = .ok (.iconst 0, 1) := by decide +kernel
theorem dX12_isVoted_4 : decode cX12_isVoted 4 = .ok (.istore 6, 2) := by decide +kernel
theorem dX12_isVoted_6 : decode cX12_isVoted 6 = .ok (.iload 6, 2) := by decide +kernel
theorem dX12_isVoted_8 : decode cX12_isVoted 8 = .ok (.bipush 6, 2) := by decide +kernel
theorem dX12_isVoted_10 : decode cX12_isVoted 10 = .ok (.if_icmp .ge 44, 3) := by decide +kernel
theorem dX12_isVoted_13 : decode cX12_isVoted 13 = .ok (.iload 5, 2) := by decide +kernel
theorem dX12_isVoted_15 : decode cX12_isVoted 15 = .ok (.ifCond .ne 26, 3) := by decide +kernel
theorem dX12_isVoted_18 : decode cX12_isVoted 18 = .ok (.iload 6, 2) := by decide +kernel
theorem dX12_isVoted_20 : decode cX12_isVoted 20 = .ok (.iload 4, 2) := by decide +kernel
theorem dX12_isVoted_22 : decode cX12_isVoted 22 = .ok (.if_icmp .eq 23, 3) := by decide +kernel
theorem dX12_isVoted_25 : decode cX12_isVoted 25 = .ok (.aload_n 0, 1) := by decide +kernel
theorem dX12_isVoted_26 : decode cX12_isVoted 26 = .ok (.iload 6, 2) := by decide +kernel
theorem dX12_isVoted_28 : decode cX12_isVoted 28 = .ok (.aload_n 0, 1) := by decide +kernel
theorem dX12_isVoted_29 : decode cX12_isVoted 29 = .ok (.iload_n 1, 1) := by decide +kernel
theorem dX12_isVoted_30 : decode cX12_isVoted 30 = .ok (.invokevirtual 247, 3) := by decide +kernel
theorem dX12_isVoted_33 : decode cX12_isVoted 33 = .ok (.iload_n 2, 1) := by decide +kernel
theorem dX12_isVoted_34 : decode cX12_isVoted 34 = .ok (.invokevirtual 263, 3) := by decide +kernel
theorem dX12_isVoted_37 : decode cX12_isVoted 37 = .ok (.iload_n 3, 1) := by decide +kernel
theorem dX12_isVoted_38 : decode cX12_isVoted 38 = .ok (.if_icmp .ne 7, 3) := by decide +kernel
theorem dX12_isVoted_41 : decode cX12_isVoted 41 = .ok (.iconst 1, 1) := by decide +kernel
theorem dX12_isVoted_42 : decode cX12_isVoted 42 = .ok (.goto 4, 3) := by decide +kernel
theorem dX12_isVoted_45 : decode cX12_isVoted 45 = .ok (.iconst 0, 1) := by decide +kernel
theorem dX12_isVoted_46 : decode cX12_isVoted 46 = .ok (.istore 5, 2) := by decide +kernel
theorem dX12_isVoted_48 : decode cX12_isVoted 48 = .ok (.iinc 6 1, 3) := by decide +kernel
theorem dX12_isVoted_51 : decode cX12_isVoted 51 = .ok (.goto (-45), 3) := by decide +kernel
theorem dX12_isVoted_54 : decode cX12_isVoted 54 = .ok (.iload 5, 2) := by decide +kernel
theorem dX12_isVoted_56 : decode cX12_isVoted 56 = .ok (.ireturn, 1) := by decide +kernel
theorem dX12_ownersOf_0 : decode cX12_ownersOf 0 = .ok (.bipush 7, 2) := by decide +kernel
theorem dX12_ownersOf_2 : decode cX12_ownersOf 2 = .ok (.iload_n 1, 1) := by decide +kernel
theorem dX12_ownersOf_3 : decode cX12_ownersOf 3 = .ok (.imul, 1) := by decide +kernel
theorem dX12_ownersOf_4 : decode cX12_ownersOf 4 = .ok (.istore_n 3, 1) := by decide +kernel
theorem dX12_ownersOf_5 : decode cX12_ownersOf 5 = .ok (.iload_n 2, 1) := by decide +kernel
theorem dX12_ownersOf_6 : decode cX12_ownersOf 6 = .ok (.iconst 2, 1) := by decide +kernel
theorem dX12_ownersOf_7 : decode cX12_ownersOf 7 = .ok (.idiv, 1) := by decide +kernel
theorem dX12_ownersOf_8 : decode cX12_ownersOf 8 = .ok (.istore 4, 2) := by decide +kernel
theorem dX12_ownersOf_10 : decode cX12_ownersOf 10 = .ok (.aload_n 0, 1) := by decide +kernel
theorem dX12_ownersOf_11 : decode cX12_ownersOf 11 = .ok (.getfield 126, 3) := by decide +kernel
theorem dX12_ownersOf_14 : decode cX12_ownersOf 14 = .ok (.iload_n 3, 1) := by decide +kernel
theorem dX12_ownersOf_15 : decode cX12_ownersOf 15 = .ok (.iload_n 2, 1) := by decide +kernel
theorem dX12_ownersOf_16 : decode cX12_ownersOf 16 = .ok (.iadd, 1) := by decide +kernel
theorem dX12_ownersOf_17 : decode cX12_ownersOf 17 = .ok (.iaload, 1) := by decide +kernel
theorem dX12_ownersOf_18 : decode cX12_ownersOf 18 = .ok (.istore 5, 2) := by decide +kernel
theorem dX12_ownersOf_20 : decode cX12_ownersOf 20 = .ok (.aload_n 0, 1) := by decide +kernel
theorem dX12_ownersOf_21 : decode cX12_ownersOf 21 = .ok (.getfield 129, 3) := by decide +kernel
theorem dX12_ownersOf_24 : decode cX12_ownersOf 24 = .ok (.iload_n 3, 1) := by decide +kernel
theorem dX12_ownersOf_25 : decode cX12_ownersOf 25 = .ok (.iload_n 2, 1) := by decide +kernel
theorem dX12_ownersOf_26 : decode cX12_ownersOf 26 = .ok (.iadd, 1) := by decide +kernel
theorem dX12_ownersOf_27 : decode cX12_ownersOf 27 = .ok (.baload, 1) := by decide +kernel
theorem dX12_ownersOf_28 : decode cX12_ownersOf 28 = .ok (.ifCond .ne 85, 3) := by decide +kernel
theorem dX12_ownersOf_31 : decode cX12_ownersOf 31 = .ok (.iload 5, 2) := by decide +kernel
theorem dX12_ownersOf_33 : decode cX12_ownersOf 33 = .ok (.aload_n 0, 1) := by decide +kernel
theorem dX12_ownersOf_34 : decode cX12_ownersOf 34 = .ok (.getfield 126, 3) := by decide +kernel
theorem dX12_ownersOf_37 : decode cX12_ownersOf 37 = .ok (.iload_n 3, 1) := by decide +kernel
theorem dX12_ownersOf_38 : decode cX12_ownersOf 38 = .ok (.iconst 4, 1) := by decide +kernel
theorem dX12_ownersOf_39 : decode cX12_ownersOf 39 = .ok (.iadd, 1) := by decide +kernel
theorem dX12_ownersOf_40 : decode cX12_ownersOf 40 = .ok (.iload 4, 2) := by decide +kernel
theorem dX12_ownersOf_42 : decode cX12_ownersOf 42 = .ok (.iadd, 1) := by decide +kernel
theorem dX12_ownersOf_43 : decode cX12_ownersOf 43 = .ok (.iaload, 1) := by decide +kernel
theorem dX12_ownersOf_44 : decode cX12_ownersOf 44 = .ok (.ior, 1) := by decide +kernel
theorem dX12_ownersOf_45 : decode cX12_ownersOf 45 = .ok (.istore 5, 2) := by decide +kernel
theorem dX12_ownersOf_47 : decode cX12_ownersOf 47 = .ok (.iload 5, 2) := by decide +kernel
theorem dX12_ownersOf_49 : decode cX12_ownersOf 49 = .ok (.aload_n 0, 1) := by decide +kernel
theorem dX12_ownersOf_50 : decode cX12_ownersOf 50 = .ok (.getfield 132, 3) := by decide +kernel
theorem dX12_ownersOf_53 : decode cX12_ownersOf 53 = .ok (.iconst 2, 1) := by decide +kernel
theorem dX12_ownersOf_54 : decode cX12_ownersOf 54 = .ok (.iload_n 1, 1) := by decide +kernel
theorem dX12_ownersOf_55 : decode cX12_ownersOf 55 = .ok (.imul, 1) := by decide +kernel
theorem dX12_ownersOf_56 : decode cX12_ownersOf 56 = .ok (.iload 4, 2) := by decide +kernel
theorem dX12_ownersOf_58 : decode cX12_ownersOf 58 = .ok (.iadd, 1) := by decide +kernel
theorem dX12_ownersOf_59 : decode cX12_ownersOf 59 = .ok (.baload, 1) := by decide +kernel
theorem dX12_ownersOf_60 : decode cX12_ownersOf 60 = .ok (.ifCond .eq 17, 3) := by decide +kernel
theorem dX12_ownersOf_63 : decode cX12_ownersOf 63 = .ok (.aload_n 0, 1) := by decide +kernel
theorem dX12_ownersOf_64 : decode cX12_ownersOf 64 = .ok (.getfield 126, 3) := by decide +kernel
theorem dX12_ownersOf_67 : decode cX12_ownersOf 67 = .ok (.iload_n 3, 1) := by decide +kernel
theorem dX12_ownersOf_68 : decode cX12_ownersOf 68 = .ok (.iconst 5, 1) := by decide +kernel
theorem dX12_ownersOf_69 : decode cX12_ownersOf 69 = .ok (.iadd, 1) := by decide +kernel
theorem dX12_ownersOf_70 : decode cX12_ownersOf 70 = .ok (.iload 4, 2) := by decide +kernel
theorem dX12_ownersOf_72 : decode cX12_ownersOf 72 = .ok (.isub, 1) := by decide +kernel
theorem dX12_ownersOf_73 : decode cX12_ownersOf 73 = .ok (.iaload, 1) := by decide +kernel
theorem dX12_ownersOf_74 : decode cX12_ownersOf 74 = .ok (.goto 4, 3) := by decide +kernel
theorem dX12_ownersOf_77 : decode cX12_ownersOf 77 = .ok (.iconst 0, 1) := by decide +kernel
theorem dX12_ownersOf_78 : decode cX12_ownersOf 78 = .ok (.ior, 1) := by decide +kernel
theorem dX12_ownersOf_79 : decode cX12_ownersOf 79 = .ok (.istore 5, 2) := by decide +kernel
theorem dX12_ownersOf_81 : decode cX12_ownersOf 81 = .ok (.iload 5, 2) := by decide +kernel
theorem dX12_ownersOf_83 : decode cX12_ownersOf 83 = .ok (.aload_n 0, 1) := by decide +kernel
theorem dX12_ownersOf_84 : decode cX12_ownersOf 84 = .ok (.getfield 129, 3) := by decide +kernel
theorem dX12_ownersOf_87 : decode cX12_ownersOf 87 = .ok (.iload_n 3, 1) := by decide +kernel
theorem dX12_ownersOf_88 : decode cX12_ownersOf 88 = .ok (.iconst 4, 1) := by decide +kernel
theorem dX12_ownersOf_89 : decode cX12_ownersOf 89 = .ok (.iadd, 1) := by decide +kernel
theorem dX12_ownersOf_90 : decode cX12_ownersOf 90 = .ok (.iload 4, 2) := by decide +kernel
theorem dX12_ownersOf_92 : decode cX12_ownersOf 92 = .ok (.iadd, 1) := by decide +kernel
theorem dX12_ownersOf_93 : decode cX12_ownersOf 93 = .ok (.baload, 1) := by decide +kernel
theorem dX12_ownersOf_94 : decode cX12_ownersOf 94 = .ok (.ifCond .eq 7, 3) := by decide +kernel
theorem dX12_ownersOf_97 : decode cX12_ownersOf 97 = .ok (.iconst 0, 1) := by decide +kernel
theorem dX12_ownersOf_98 : decode cX12_ownersOf 98 = .ok (.goto 12, 3) := by decide +kernel
theorem dX12_ownersOf_101 : decode cX12_ownersOf 101 = .ok (.aload_n 0, 1) := by decide +kernel
theorem dX12_ownersOf_102 : decode cX12_ownersOf 102 = .ok (.getfield 126, 3) := by decide +kernel
theorem dX12_ownersOf_105 : decode cX12_ownersOf 105 = .ok (.iload_n 3, 1) := by decide +kernel
theorem dX12_ownersOf_106 : decode cX12_ownersOf 106 = .ok (.bipush 6, 2) := by decide +kernel
theorem dX12_ownersOf_108 : decode cX12_ownersOf 108 = .ok (.iadd, 1) := by decide +kernel
theorem dX12_ownersOf_109 : decode cX12_ownersOf 109 = .ok (.iaload, 1) := by decide +kernel
theorem dX12_ownersOf_110 : decode cX12_ownersOf 110 = .ok (.ior, 1) := by decide +kernel
theorem dX12_ownersOf_111 : decode cX12_ownersOf 111 = .ok (.istore 5, 2) := by decide +kernel
theorem dX12_ownersOf_113 : decode cX12_ownersOf 113 = .ok (.iload 5, 2) := by decide +kernel
theorem dX12_ownersOf_115 : decode cX12_ownersOf 115 = .ok (.ifCond .ne 12, 3) := by decide +kernel
theorem dX12_ownersOf_118 : decode cX12_ownersOf 118 = .ok (.iconst 1, 1) := by decide +kernel
theorem dX12_ownersOf_119 : decode cX12_ownersOf 119 = .ok (.aload_n 0, 1) := by decide +kernel
theorem dX12_ownersOf_120 : decode cX12_ownersOf 120 = .ok (.getfield 283, 3) := by decide +kernel
theorem dX12_ownersOf_123 : decode cX12_ownersOf 123 = .ok (.ishl, 1) := by decide +kernel
theorem dX12_ownersOf_124 : decode cX12_ownersOf 124 = .ok (.goto 5, 3) := by decide +kernel
theorem dX12_ownersOf_127 : decode cX12_ownersOf 127 = .ok (.iload 5, 2) := by decide +kernel
theorem dX12_ownersOf_129 : decode cX12_ownersOf 129 = .ok (.ireturn, 1) := by decide +kernel
theorem dX12_isChanged_0 : decode cX12_isChanged 0 = .ok (.aload_n 0, 1) := by decide +kernel
theorem dX12_isChanged_1 : decode cX12_isChanged 1 = .ok (.aload_n 0, 1) := by decide +kernel
theorem dX12_isChanged_2 : decode cX12_isChanged 2 = .ok (.iload_n 1, 1) := by decide +kernel
theorem dX12_isChanged_3 : decode cX12_isChanged 3 = .ok (.invokevirtual 247, 3) := by decide +kernel
theorem dX12_isChanged_6 : decode cX12_isChanged 6 = .ok (.aload_n 0, 1) := by decide +kernel
theorem dX12_isChanged_7 : decode cX12_isChanged 7 = .ok (.getfield 17, 3) := by decide +kernel
theorem dX12_isChanged_10 : decode cX12_isChanged 10 = .ok (.aload_n 0, 1) := by decide +kernel
theorem dX12_isChanged_11 : decode cX12_isChanged 11 = .ok (.iload_n 1, 1) := by decide +kernel
theorem dX12_isChanged_12 : decode cX12_isChanged 12 = .ok (.invokevirtual 247, 3) := by decide +kernel
theorem dX12_isChanged_15 : decode cX12_isChanged 15 = .ok (.iaload, 1) := by decide +kernel
theorem dX12_isChanged_16 : decode cX12_isChanged 16 = .ok (.iload_n 2, 1) := by decide +kernel
theorem dX12_isChanged_17 : decode cX12_isChanged 17 = .ok (.invokevirtual 211, 3) := by decide +kernel
theorem dX12_isChanged_20 : decode cX12_isChanged 20 = .ok (.ifCond .ne 7, 3) := by decide +kernel
theorem dX12_isChanged_23 : decode cX12_isChanged 23 = .ok (.iconst 1, 1) := by decide +kernel
theorem dX12_isChanged_24 : decode cX12_isChanged 24 = .ok (.goto 4, 3) := by decide +kernel
theorem dX12_isChanged_27 : decode cX12_isChanged 27 = .ok (.iconst 0, 1) := by decide +kernel
theorem dX12_isChanged_28 : decode cX12_isChanged 28 = .ok (.ireturn, 1) := by decide +kernel
theorem dX12_bits_0 : decode cX12_bits 0 = .ok (.iconst 0, 1) := by decide +kernel
theorem dX12_bits_1 : decode cX12_bits 1 = .ok (.istore_n 1, 1) := by decide +kernel
theorem dX12_bits_2 : decode cX12_bits 2 = .ok (.iconst 0, 1) := by decide +kernel
theorem dX12_bits_3 : decode cX12_bits 3 = .ok (.istore_n 2, 1) := by decide +kernel
theorem dX12_bits_4 : decode cX12_bits 4 = .ok (.iload_n 2, 1) := by decide +kernel
theorem dX12_bits_5 : decode cX12_bits 5 = .ok (.bipush 20, 2) := by decide +kernel
theorem dX12_bits_7 : decode cX12_bits 7 = .ok (.if_icmp .ge 17, 3) := by decide +kernel
theorem dX12_bits_10 : decode cX12_bits 10 = .ok (.iload_n 1, 1) := by decide +kernel
theorem dX12_bits_11 : decode cX12_bits 11 = .ok (.iload_n 0, 1) := by decide +kernel
theorem dX12_bits_12 : decode cX12_bits 12 = .ok (.iload_n 2, 1) := by decide +kernel
theorem dX12_bits_13 : decode cX12_bits 13 = .ok (.ishr, 1) := by decide +kernel
theorem dX12_bits_14 : decode cX12_bits 14 = .ok (.iconst 1, 1) := by decide +kernel
theorem dX12_bits_15 : decode cX12_bits 15 = .ok (.iand, 1) := by decide +kernel
theorem dX12_bits_16 : decode cX12_bits 16 = .ok (.iadd, 1) := by decide +kernel
theorem dX12_bits_17 : decode cX12_bits 17 = .ok (.istore_n 1, 1) := by decide +kernel
theorem dX12_bits_18 : decode cX12_bits 18 = .ok (.iinc 2 1, 3) := by decide +kernel
theorem dX12_bits_21 : decode cX12_bits 21 = .ok (.goto (-17), 3) := by decide +kernel
theorem dX12_bits_24 : decode cX12_bits 24 = .ok (.iload_n 1, 1) := by decide +kernel
theorem dX12_bits_25 : decode cX12_bits 25 = .ok (.ireturn, 1) := by decide +kernel
theorem dX12_fewestOf_0 : decode cX12_fewestOf 0 = .ok (.iconst (-1), 1) := by decide +kernel
theorem dX12_fewestOf_1 : decode cX12_fewestOf 1 = .ok (.istore_n 2, 1) := by decide +kernel
theorem dX12_fewestOf_2 : decode cX12_fewestOf 2 = .ok (.bipush 63, 2) := by decide +kernel
theorem dX12_fewestOf_4 : decode cX12_fewestOf 4 = .ok (.istore_n 3, 1) := by decide +kernel
theorem dX12_fewestOf_5 : decode cX12_fewestOf 5 = .ok (.iload_n 3, 1) := by decide +kernel
theorem dX12_fewestOf_6 : decode cX12_fewestOf 6 = .ok (.ifCond .lt 92, 3) := by decide +kernel
theorem dX12_fewestOf_9 : decode cX12_fewestOf 9 = .ok (.iconst 1, 1) := by decide +kernel
theorem dX12_fewestOf_10 : decode cX12_fewestOf 10 = .ok (.istore 4, 2) := by decide +kernel
theorem dX12_fewestOf_12 : decode cX12_fewestOf 12 = .ok (.iconst 0, 1) := by decide +kernel
theorem dX12_fewestOf_13 : decode cX12_fewestOf 13 = .ok (.istore 5, 2) := by decide +kernel
theorem dX12_fewestOf_15 : decode cX12_fewestOf 15 = .ok (.iload 5, 2) := by decide +kernel
theorem dX12_fewestOf_17 : decode cX12_fewestOf 17 = .ok (.iconst 4, 1) := by decide +kernel
theorem dX12_fewestOf_18 : decode cX12_fewestOf 18 = .ok (.if_icmp .ge 47, 3) := by decide +kernel
theorem dX12_fewestOf_21 : decode cX12_fewestOf 21 = .ok (.iload 4, 2) := by decide +kernel
theorem dX12_fewestOf_23 : decode cX12_fewestOf 23 = .ok (.ifCond .eq 33, 3) := by decide +kernel
theorem dX12_fewestOf_26 : decode cX12_fewestOf 26 = .ok (.aload_n 0, 1) := by decide +kernel
theorem dX12_fewestOf_27 : decode cX12_fewestOf 27 = .ok (.iload_n 1, 1) := by decide +kernel
theorem dX12_fewestOf_28 : decode cX12_fewestOf 28 = .ok (.iload 5, 2) := by decide +kernel
theorem dX12_fewestOf_30 : decode cX12_fewestOf 30 = .ok (.invokevirtual 286, 3) := by decide +kernel
theorem dX12_fewestOf_33 : decode cX12_fewestOf 33 = .ok (.ifCond .eq 19, 3) := by decide +kernel
theorem dX12_fewestOf_36 : decode cX12_fewestOf 36 = .ok (.aload_n 0, 1) := by decide +kernel
theorem dX12_fewestOf_37 : decode cX12_fewestOf 37 = .ok (.aload_n 0, 1) := by decide +kernel
theorem dX12_fewestOf_38 : decode cX12_fewestOf 38 = .ok (.iload_n 1, 1) := by decide +kernel
theorem dX12_fewestOf_39 : decode cX12_fewestOf 39 = .ok (.invokevirtual 257, 3) := by decide +kernel
theorem dX12_fewestOf_42 : decode cX12_fewestOf 42 = .ok (.iload 5, 2) := by decide +kernel
theorem dX12_fewestOf_44 : decode cX12_fewestOf 44 = .ok (.invokevirtual 289, 3) := by decide +kernel
theorem dX12_fewestOf_47 : decode cX12_fewestOf 47 = .ok (.iload_n 3, 1) := by decide +kernel
theorem dX12_fewestOf_48 : decode cX12_fewestOf 48 = .ok (.iand, 1) := by decide +kernel
theorem dX12_fewestOf_49 : decode cX12_fewestOf 49 = .ok (.ifCond .eq 7, 3) := by decide +kernel
theorem dX12_fewestOf_52 : decode cX12_fewestOf 52 = .ok (.iconst 1, 1) := by decide +kernel
theorem dX12_fewestOf_53 : decode cX12_fewestOf 53 = .ok (.goto 4, 3) := by decide +kernel
theorem dX12_fewestOf_56 : decode cX12_fewestOf 56 = .ok (.iconst 0, 1) := by decide +kernel
theorem dX12_fewestOf_57 : decode cX12_fewestOf 57 = .ok (.istore 4, 2) := by decide +kernel
theorem dX12_fewestOf_59 : decode cX12_fewestOf 59 = .ok (.iinc 5 1, 3) := by decide +kernel
theorem dX12_fewestOf_62 : decode cX12_fewestOf 62 = .ok (.goto (-47), 3) := by decide +kernel
theorem dX12_fewestOf_65 : decode cX12_fewestOf 65 = .ok (.iload 4, 2) := by decide +kernel
theorem dX12_fewestOf_67 : decode cX12_fewestOf 67 = .ok (.ifCond .eq 23, 3) := by decide +kernel
theorem dX12_fewestOf_70 : decode cX12_fewestOf 70 = .ok (.iload_n 2, 1) := by decide +kernel
theorem dX12_fewestOf_71 : decode cX12_fewestOf 71 = .ok (.iconst (-1), 1) := by decide +kernel
theorem dX12_fewestOf_72 : decode cX12_fewestOf 72 = .ok (.if_icmp .eq 14, 3) := by decide +kernel
theorem dX12_fewestOf_75 : decode cX12_fewestOf 75 = .ok (.iload_n 3, 1) := by decide +kernel
theorem dX12_fewestOf_76 : decode cX12_fewestOf 76 = .ok (.invokestatic 292, 3) := by decide +kernel
theorem dX12_fewestOf_79 : decode cX12_fewestOf 79 = .ok (.iload_n 2, 1) := by decide +kernel
theorem dX12_fewestOf_80 : decode cX12_fewestOf 80 = .ok (.invokestatic 292, 3) := by decide +kernel
theorem dX12_fewestOf_83 : decode cX12_fewestOf 83 = .ok (.if_icmp .gt 7, 3) := by decide +kernel
theorem dX12_fewestOf_86 : decode cX12_fewestOf 86 = .ok (.iload_n 3, 1) := by decide +kernel
theorem dX12_fewestOf_87 : decode cX12_fewestOf 87 = .ok (.goto 4, 3) := by decide +kernel
theorem dX12_fewestOf_90 : decode cX12_fewestOf 90 = .ok (.iload_n 2, 1) := by decide +kernel
theorem dX12_fewestOf_91 : decode cX12_fewestOf 91 = .ok (.istore_n 2, 1) := by decide +kernel
theorem dX12_fewestOf_92 : decode cX12_fewestOf 92 = .ok (.iinc 3 (-1), 3) := by decide +kernel
theorem dX12_fewestOf_95 : decode cX12_fewestOf 95 = .ok (.goto (-90), 3) := by decide +kernel
theorem dX12_fewestOf_98 : decode cX12_fewestOf 98 = .ok (.iload_n 2, 1) := by decide +kernel
theorem dX12_fewestOf_99 : decode cX12_fewestOf 99 = .ok (.ireturn, 1) := by decide +kernel
theorem dX12_isApproved_0 : decode cX12_isApproved 0 = .ok (.iconst 0, 1) := by decide +kernel
theorem dX12_isApproved_1 : decode cX12_isApproved 1 = .ok (.istore_n 2, 1) := by decide +kernel
theorem dX12_isApproved_2 : decode cX12_isApproved 2 = .ok (.iconst 0, 1) := by decide +kernel
theorem dX12_isApproved_3 : decode cX12_isApproved 3 = .ok (.istore_n 3, 1) := by decide +kernel
theorem dX12_isApproved_4 : decode cX12_isApproved 4 = .ok (.iload_n 3, 1) := by decide +kernel
theorem dX12_isApproved_5 : decode cX12_isApproved 5 = .ok (.bipush 6, 2) := by decide +kernel
theorem dX12_isApproved_7 : decode cX12_isApproved 7 = .ok (.if_icmp .ge 44, 3) := by decide +kernel
theorem dX12_isApproved_10 : decode cX12_isApproved 10 = .ok (.iload_n 2, 1) := by decide +kernel
theorem dX12_isApproved_11 : decode cX12_isApproved 11 = .ok (.iload_n 3, 1) := by decide +kernel
theorem dX12_isApproved_12 : decode cX12_isApproved 12 = .ok (.aload_n 0, 1) := by decide +kernel
theorem dX12_isApproved_13 : decode cX12_isApproved 13 = .ok (.getfield 44, 3) := by decide +kernel
theorem dX12_isApproved_16 : decode cX12_isApproved 16 = .ok (.iload_n 1, 1) := by decide +kernel
theorem dX12_isApproved_17 : decode cX12_isApproved 17 = .ok (.iaload, 1) := by decide +kernel
theorem dX12_isApproved_18 : decode cX12_isApproved 18 = .ok (.if_icmp .eq 24, 3) := by decide +kernel
theorem dX12_isApproved_21 : decode cX12_isApproved 21 = .ok (.aload_n 0, 1) := by decide +kernel
theorem dX12_isApproved_22 : decode cX12_isApproved 22 = .ok (.iload_n 3, 1) := by decide +kernel
theorem dX12_isApproved_23 : decode cX12_isApproved 23 = .ok (.aload_n 0, 1) := by decide +kernel
theorem dX12_isApproved_24 : decode cX12_isApproved 24 = .ok (.iload_n 1, 1) := by decide +kernel
theorem dX12_isApproved_25 : decode cX12_isApproved 25 = .ok (.invokevirtual 247, 3) := by decide +kernel
theorem dX12_isApproved_28 : decode cX12_isApproved 28 = .ok (.iconst 0, 1) := by decide +kernel
theorem dX12_isApproved_29 : decode cX12_isApproved 29 = .ok (.invokevirtual 263, 3) := by decide +kernel
theorem dX12_isApproved_32 : decode cX12_isApproved 32 = .ok (.iconst 2, 1) := by decide +kernel
theorem dX12_isApproved_33 : decode cX12_isApproved 33 = .ok (.if_icmp .ne 9, 3) := by decide +kernel
theorem dX12_isApproved_36 : decode cX12_isApproved 36 = .ok (.iconst 1, 1) := by decide +kernel
theorem dX12_isApproved_37 : decode cX12_isApproved 37 = .ok (.iload_n 3, 1) := by decide +kernel
theorem dX12_isApproved_38 : decode cX12_isApproved 38 = .ok (.ishl, 1) := by decide +kernel
theorem dX12_isApproved_39 : decode cX12_isApproved 39 = .ok (.goto 4, 3) := by decide +kernel
theorem dX12_isApproved_42 : decode cX12_isApproved 42 = .ok (.iconst 0, 1) := by decide +kernel
theorem dX12_isApproved_43 : decode cX12_isApproved 43 = .ok (.ior, 1) := by decide +kernel
theorem dX12_isApproved_44 : decode cX12_isApproved 44 = .ok (.istore_n 2, 1) := by decide +kernel
theorem dX12_isApproved_45 : decode cX12_isApproved 45 = .ok (.iinc 3 1, 3) := by decide +kernel
theorem dX12_isApproved_48 : decode cX12_isApproved 48 = .ok (.goto (-44), 3) := by decide +kernel
theorem dX12_isApproved_51 : decode cX12_isApproved 51 = .ok (.iconst 1, 1) := by decide +kernel
theorem dX12_isApproved_52 : decode cX12_isApproved 52 = .ok (.istore_n 3, 1) := by decide +kernel
theorem dX12_isApproved_53 : decode cX12_isApproved 53 = .ok (.iconst 0, 1) := by decide +kernel
theorem dX12_isApproved_54 : decode cX12_isApproved 54 = .ok (.istore 4, 2) := by decide +kernel
theorem dX12_isApproved_56 : decode cX12_isApproved 56 = .ok (.iload 4, 2) := by decide +kernel
theorem dX12_isApproved_58 : decode cX12_isApproved 58 = .ok (.iconst 4, 1) := by decide +kernel
theorem dX12_isApproved_59 : decode cX12_isApproved 59 = .ok (.if_icmp .ge 45, 3) := by decide +kernel
theorem dX12_isApproved_62 : decode cX12_isApproved 62 = .ok (.iload_n 3, 1) := by decide +kernel
theorem dX12_isApproved_63 : decode cX12_isApproved 63 = .ok (.ifCond .eq 33, 3) := by decide +kernel
theorem dX12_isApproved_66 : decode cX12_isApproved 66 = .ok (.aload_n 0, 1) := by decide +kernel
theorem dX12_isApproved_67 : decode cX12_isApproved 67 = .ok (.iload_n 1, 1) := by decide +kernel
theorem dX12_isApproved_68 : decode cX12_isApproved 68 = .ok (.iload 4, 2) := by decide +kernel
theorem dX12_isApproved_70 : decode cX12_isApproved 70 = .ok (.invokevirtual 286, 3) := by decide +kernel
theorem dX12_isApproved_73 : decode cX12_isApproved 73 = .ok (.ifCond .eq 19, 3) := by decide +kernel
theorem dX12_isApproved_76 : decode cX12_isApproved 76 = .ok (.aload_n 0, 1) := by decide +kernel
theorem dX12_isApproved_77 : decode cX12_isApproved 77 = .ok (.aload_n 0, 1) := by decide +kernel
theorem dX12_isApproved_78 : decode cX12_isApproved 78 = .ok (.iload_n 1, 1) := by decide +kernel
theorem dX12_isApproved_79 : decode cX12_isApproved 79 = .ok (.invokevirtual 257, 3) := by decide +kernel
theorem dX12_isApproved_82 : decode cX12_isApproved 82 = .ok (.iload 4, 2) := by decide +kernel
theorem dX12_isApproved_84 : decode cX12_isApproved 84 = .ok (.invokevirtual 289, 3) := by decide +kernel
theorem dX12_isApproved_87 : decode cX12_isApproved 87 = .ok (.iload_n 2, 1) := by decide +kernel
theorem dX12_isApproved_88 : decode cX12_isApproved 88 = .ok (.iand, 1) := by decide +kernel
theorem dX12_isApproved_89 : decode cX12_isApproved 89 = .ok (.ifCond .eq 7, 3) := by decide +kernel
theorem dX12_isApproved_92 : decode cX12_isApproved 92 = .ok (.iconst 1, 1) := by decide +kernel
theorem dX12_isApproved_93 : decode cX12_isApproved 93 = .ok (.goto 4, 3) := by decide +kernel
theorem dX12_isApproved_96 : decode cX12_isApproved 96 = .ok (.iconst 0, 1) := by decide +kernel
theorem dX12_isApproved_97 : decode cX12_isApproved 97 = .ok (.istore_n 3, 1) := by decide +kernel
theorem dX12_isApproved_98 : decode cX12_isApproved 98 = .ok (.iinc 4 1, 3) := by decide +kernel
theorem dX12_isApproved_101 : decode cX12_isApproved 101 = .ok (.goto (-45), 3) := by decide +kernel
theorem dX12_isApproved_104 : decode cX12_isApproved 104 = .ok (.iload_n 3, 1) := by decide +kernel
theorem dX12_isApproved_105 : decode cX12_isApproved 105 = .ok (.ireturn, 1) := by decide +kernel
theorem dX12_lastOf_0 : decode cX12_lastOf 0 = .ok (.iconst (-1), 1) := by decide +kernel
theorem dX12_lastOf_1 : decode cX12_lastOf 1 = .ok (.istore_n 2, 1) := by decide +kernel
theorem dX12_lastOf_2 : decode cX12_lastOf 2 = .ok (.iconst 0, 1) := by decide +kernel
theorem dX12_lastOf_3 : decode cX12_lastOf 3 = .ok (.istore_n 3, 1) := by decide +kernel
theorem dX12_lastOf_4 : decode cX12_lastOf 4 = .ok (.iload_n 3, 1) := by decide +kernel
theorem dX12_lastOf_5 : decode cX12_lastOf 5 = .ok (.aload_n 0, 1) := by decide +kernel
theorem dX12_lastOf_6 : decode cX12_lastOf 6 = .ok (.getfield 251, 3) := by decide +kernel
theorem dX12_lastOf_9 : decode cX12_lastOf 9 = .ok (.if_icmp .ge 39, 3) := by decide +kernel
theorem dX12_lastOf_12 : decode cX12_lastOf 12 = .ok (.aload_n 0, 1) := by decide +kernel
theorem dX12_lastOf_13 : decode cX12_lastOf 13 = .ok (.getfield 102, 3) := by decide +kernel
theorem dX12_lastOf_16 : decode cX12_lastOf 16 = .ok (.iload_n 3, 1) := by decide +kernel
theorem dX12_lastOf_17 : decode cX12_lastOf 17 = .ok (.baload, 1) := by decide +kernel
theorem dX12_lastOf_18 : decode cX12_lastOf 18 = .ok (.ifCond .ne 22, 3) := by decide +kernel
theorem dX12_lastOf_21 : decode cX12_lastOf 21 = .ok (.iload_n 3, 1) := by decide +kernel
theorem dX12_lastOf_22 : decode cX12_lastOf 22 = .ok (.iload_n 1, 1) := by decide +kernel
theorem dX12_lastOf_23 : decode cX12_lastOf 23 = .ok (.if_icmp .eq 13, 3) := by decide +kernel
theorem dX12_lastOf_26 : decode cX12_lastOf 26 = .ok (.aload_n 0, 1) := by decide +kernel
theorem dX12_lastOf_27 : decode cX12_lastOf 27 = .ok (.getfield 99, 3) := by decide +kernel
theorem dX12_lastOf_30 : decode cX12_lastOf 30 = .ok (.iload_n 3, 1) := by decide +kernel
theorem dX12_lastOf_31 : decode cX12_lastOf 31 = .ok (.iaload, 1) := by decide +kernel
theorem dX12_lastOf_32 : decode cX12_lastOf 32 = .ok (.iload_n 1, 1) := by decide +kernel
theorem dX12_lastOf_33 : decode cX12_lastOf 33 = .ok (.if_icmp .ne 7, 3) := by decide +kernel
theorem dX12_lastOf_36 : decode cX12_lastOf 36 = .ok (.iload_n 3, 1) := by decide +kernel
theorem dX12_lastOf_37 : decode cX12_lastOf 37 = .ok (.goto 4, 3) := by decide +kernel
theorem dX12_lastOf_40 : decode cX12_lastOf 40 = .ok (.iload_n 2, 1) := by decide +kernel
theorem dX12_lastOf_41 : decode cX12_lastOf 41 = .ok (.istore_n 2, 1) := by decide +kernel
theorem dX12_lastOf_42 : decode cX12_lastOf 42 = .ok (.iinc 3 1, 3) := by decide +kernel
theorem dX12_lastOf_45 : decode cX12_lastOf 45 = .ok (.goto (-41), 3) := by decide +kernel
theorem dX12_lastOf_48 : decode cX12_lastOf 48 = .ok (.iload_n 2, 1) := by decide +kernel
theorem dX12_lastOf_49 : decode cX12_lastOf 49 = .ok (.ireturn, 1) := by decide +kernel
theorem dX12_unresolvedOf_0 : decode cX12_unresolvedOf 0 = .ok (.iconst 0, 1) := by decide +kernel
theorem dX12_unresolvedOf_1 : decode cX12_unresolvedOf 1 = .ok (.istore_n 2, 1) := by decide +kernel
theorem dX12_unresolvedOf_2 : decode cX12_unresolvedOf 2 = .ok (.iconst 0, 1) := by decide +kernel
theorem dX12_unresolvedOf_3 : decode cX12_unresolvedOf 3 = .ok (.istore_n 3, 1) := by decide +kernel
theorem dX12_unresolvedOf_4 : decode cX12_unresolvedOf 4 = .ok (.iload_n 3, 1) := by decide +kernel
theorem dX12_unresolvedOf_5 : decode cX12_unresolvedOf 5 = .ok (.aload_n 0, 1) := by decide +kernel
theorem dX12_unresolvedOf_6 : decode cX12_unresolvedOf 6 = .ok (.getfield 251, 3) := by decide +kernel
theorem dX12_unresolvedOf_9 : decode cX12_unresolvedOf 9 = .ok (.if_icmp .ge 64, 3) := by decide +kernel
theorem dX12_unresolvedOf_12 : decode cX12_unresolvedOf 12 = .ok (.aload_n 0, 1) := by decide +kernel
theorem dX12_unresolvedOf_13 : decode cX12_unresolvedOf 13 = .ok (.getfield 84, 3) := by decide +kernel
theorem dX12_unresolvedOf_16 : decode cX12_unresolvedOf 16 = .ok (.iload_n 3, 1) := by decide +kernel
theorem dX12_unresolvedOf_17 : decode cX12_unresolvedOf 17 = .ok (.iaload, 1) := by decide +kernel
theorem dX12_unresolvedOf_18 : decode cX12_unresolvedOf 18 = .ok (.iload_n 1, 1) := by decide +kernel
theorem dX12_unresolvedOf_19 : decode cX12_unresolvedOf 19 = .ok (.if_icmp .ne 21, 3) := by decide +kernel
theorem dX12_unresolvedOf_22 : decode cX12_unresolvedOf 22 = .ok (.aload_n 0, 1) := by decide +kernel
theorem dX12_unresolvedOf_23 : decode cX12_unresolvedOf 23 = .ok (.getfield 99, 3) := by decide +kernel
theorem dX12_unresolvedOf_26 : decode cX12_unresolvedOf 26 = .ok (.iload_n 3, 1) := by decide +kernel
theorem dX12_unresolvedOf_27 : decode cX12_unresolvedOf 27 = .ok (.iaload, 1) := by decide +kernel
theorem dX12_unresolvedOf_28 : decode cX12_unresolvedOf 28 = .ok (.iconst (-1), 1) := by decide +kernel
theorem dX12_unresolvedOf_29 : decode cX12_unresolvedOf 29 = .ok (.if_icmp .ne 11, 3) := by decide +kernel
theorem dX12_unresolvedOf_32 : decode cX12_unresolvedOf 32 = .ok (.aload_n 0, 1) := by decide +kernel
theorem dX12_unresolvedOf_33 : decode cX12_unresolvedOf 33 = .ok (.iload_n 3, 1) := by decide +kernel
theorem dX12_unresolvedOf_34 : decode cX12_unresolvedOf 34 = .ok (.invokevirtual 295, 3) := by decide +kernel
theorem dX12_unresolvedOf_37 : decode cX12_unresolvedOf 37 = .ok (.goto 4, 3) := by decide +kernel
theorem dX12_unresolvedOf_40 : decode cX12_unresolvedOf 40 = .ok (.iconst (-1), 1) := by decide +kernel
theorem dX12_unresolvedOf_41 : decode cX12_unresolvedOf 41 = .ok (.istore 4, 2) := by decide +kernel
theorem dX12_unresolvedOf_43 : decode cX12_unresolvedOf 43 = .ok (.iload_n 2, 1) := by decide +kernel
theorem dX12_unresolvedOf_44 : decode cX12_unresolvedOf 44 = .ok (.iload 4, 2) := by decide +kernel
theorem dX12_unresolvedOf_46 : decode cX12_unresolvedOf 46 = .ok (.iconst (-1), 1) := by decide +kernel
theorem dX12_unresolvedOf_47 : decode cX12_unresolvedOf 47 = .ok (.if_icmp .eq 17, 3) := by decide +kernel
theorem dX12_unresolvedOf_50 : decode cX12_unresolvedOf 50 = .ok (.aload_n 0, 1) := by decide +kernel
theorem dX12_unresolvedOf_51 : decode cX12_unresolvedOf 51 = .ok (.getfield 105, 3) := by decide +kernel
theorem dX12_unresolvedOf_54 : decode cX12_unresolvedOf 54 = .ok (.iload 4, 2) := by decide +kernel
theorem dX12_unresolvedOf_56 : decode cX12_unresolvedOf 56 = .ok (.baload, 1) := by decide +kernel
theorem dX12_unresolvedOf_57 : decode cX12_unresolvedOf 57 = .ok (.ifCond .eq 7, 3) := by decide +kernel
theorem dX12_unresolvedOf_60 : decode cX12_unresolvedOf 60 = .ok (.iconst 1, 1) := by decide +kernel
theorem dX12_unresolvedOf_61 : decode cX12_unresolvedOf 61 = .ok (.goto 4, 3) := by decide +kernel
theorem dX12_unresolvedOf_64 : decode cX12_unresolvedOf 64 = .ok (.iconst 0, 1) := by decide +kernel
theorem dX12_unresolvedOf_65 : decode cX12_unresolvedOf 65 = .ok (.iadd, 1) := by decide +kernel
theorem dX12_unresolvedOf_66 : decode cX12_unresolvedOf 66 = .ok (.istore_n 2, 1) := by decide +kernel
theorem dX12_unresolvedOf_67 : decode cX12_unresolvedOf 67 = .ok (.iinc 3 1, 3) := by decide +kernel
theorem dX12_unresolvedOf_70 : decode cX12_unresolvedOf 70 = .ok (.goto (-66), 3) := by decide +kernel
theorem dX12_unresolvedOf_73 : decode cX12_unresolvedOf 73 = .ok (.iload_n 2, 1) := by decide +kernel
theorem dX12_unresolvedOf_74 : decode cX12_unresolvedOf 74 = .ok (.ireturn, 1) := by decide +kernel
theorem dX12_isParentIn_0 : decode cX12_isParentIn 0 = .ok (.aload_n 0, 1) := by decide +kernel
theorem dX12_isParentIn_1 : decode cX12_isParentIn 1 = .ok (.iload_n 1, 1) := by decide +kernel
theorem dX12_isParentIn_2 : decode cX12_isParentIn 2 = .ok (.invokevirtual 298, 3) := by decide +kernel
theorem dX12_isParentIn_5 : decode cX12_isParentIn 5 = .ok (.istore_n 3, 1) := by decide +kernel
theorem dX12_isParentIn_6 : decode cX12_isParentIn 6 = .ok (.iload_n 3, 1) := by decide +kernel
theorem dX12_isParentIn_7 : decode cX12_isParentIn 7 = .ok (.iconst (-1), 1) := by decide +kernel
theorem dX12_isParentIn_8 : decode cX12_isParentIn 8 = .ok (.if_icmp .eq 22, 3) := by decide +kernel
theorem dX12_isParentIn_11 : decode cX12_isParentIn 11 = .ok (.aload_n 0, 1) := by decide +kernel
theorem dX12_isParentIn_12 : decode cX12_isParentIn 12 = .ok (.getfield 47, 3) := by decide +kernel
theorem dX12_isParentIn_15 : decode cX12_isParentIn 15 = .ok (.iload_n 3, 1) := by decide +kernel
theorem dX12_isParentIn_16 : decode cX12_isParentIn 16 = .ok (.iaload, 1) := by decide +kernel
theorem dX12_isParentIn_17 : decode cX12_isParentIn 17 = .ok (.iconst 1, 1) := by decide +kernel
theorem dX12_isParentIn_18 : decode cX12_isParentIn 18 = .ok (.if_icmp .eq 12, 3) := by decide +kernel
theorem dX12_isParentIn_21 : decode cX12_isParentIn 21 = .ok (.iload_n 2, 1) := by decide +kernel
theorem dX12_isParentIn_22 : decode cX12_isParentIn 22 = .ok (.iload_n 3, 1) := by decide +kernel
theorem dX12_isParentIn_23 : decode cX12_isParentIn 23 = .ok (.ishr, 1) := by decide +kernel
theorem dX12_isParentIn_24 : decode cX12_isParentIn 24 = .ok (.iconst 1, 1) := by decide +kernel
theorem dX12_isParentIn_25 : decode cX12_isParentIn 25 = .ok (.iand, 1) := by decide +kernel
theorem dX12_isParentIn_26 : decode cX12_isParentIn 26 = .ok (.iconst 1, 1) := by decide +kernel
theorem dX12_isParentIn_27 : decode cX12_isParentIn 27 = .ok (.if_icmp .ne 7, 3) := by decide +kernel
theorem dX12_isParentIn_30 : decode cX12_isParentIn 30 = .ok (.iconst 1, 1) := by decide +kernel
theorem dX12_isParentIn_31 : decode cX12_isParentIn 31 = .ok (.goto 4, 3) := by decide +kernel
theorem dX12_isParentIn_34 : decode cX12_isParentIn 34 = .ok (.iconst 0, 1) := by decide +kernel
theorem dX12_isParentIn_35 : decode cX12_isParentIn 35 = .ok (.ireturn, 1) := by decide +kernel
theorem dX12_factsOf_0 : decode cX12_factsOf 0 = .ok (.aload_n 0, 1) := by decide +kernel
theorem dX12_factsOf_1 : decode cX12_factsOf 1 = .ok (.iload_n 1, 1) := by decide +kernel
theorem dX12_factsOf_2 : decode cX12_factsOf 2 = .ok (.invokevirtual 301, 3) := by decide +kernel
theorem dX12_factsOf_5 : decode cX12_factsOf 5 = .ok (.ifCond .eq 7, 3) := by decide +kernel
theorem dX12_factsOf_8 : decode cX12_factsOf 8 = .ok (.iconst 1, 1) := by decide +kernel
theorem dX12_factsOf_9 : decode cX12_factsOf 9 = .ok (.goto 4, 3) := by decide +kernel
theorem dX12_factsOf_12 : decode cX12_factsOf 12 = .ok (.iconst 0, 1) := by decide +kernel
theorem dX12_factsOf_13 : decode cX12_factsOf 13 = .ok (.istore_n 3, 1) := by decide +kernel
theorem dX12_factsOf_14 : decode cX12_factsOf 14 = .ok (.iload_n 3, 1) := by decide +kernel
theorem dX12_factsOf_15 : decode cX12_factsOf 15 = .ok (.aload_n 0, 1) := by decide +kernel
theorem dX12_factsOf_16 : decode cX12_factsOf 16 = .ok (.iload_n 1, 1) := by decide +kernel
theorem dX12_factsOf_17 : decode cX12_factsOf 17 = .ok (.iconst 0, 1) := by decide +kernel
theorem dX12_factsOf_18 : decode cX12_factsOf 18 = .ok (.bipush (-2), 2) := by decide +kernel
theorem dX12_factsOf_20 : decode cX12_factsOf 20 = .ok (.iconst (-1), 1) := by decide +kernel
theorem dX12_factsOf_21 : decode cX12_factsOf 21 = .ok (.invokevirtual 304, 3) := by decide +kernel
theorem dX12_factsOf_24 : decode cX12_factsOf 24 = .ok (.ifCond .eq 7, 3) := by decide +kernel
theorem dX12_factsOf_27 : decode cX12_factsOf 27 = .ok (.iconst 0, 1) := by decide +kernel
theorem dX12_factsOf_28 : decode cX12_factsOf 28 = .ok (.goto 4, 3) := by decide +kernel
theorem dX12_factsOf_31 : decode cX12_factsOf 31 = .ok (.iconst 2, 1) := by decide +kernel
theorem dX12_factsOf_32 : decode cX12_factsOf 32 = .ok (.ior, 1) := by decide +kernel
theorem dX12_factsOf_33 : decode cX12_factsOf 33 = .ok (.istore_n 3, 1) := by decide +kernel
theorem dX12_factsOf_34 : decode cX12_factsOf 34 = .ok (.iload_n 3, 1) := by decide +kernel
theorem dX12_factsOf_35 : decode cX12_factsOf 35 = .ok (.aload_n 0, 1) := by decide +kernel
theorem dX12_factsOf_36 : decode cX12_factsOf 36 = .ok (.iload_n 1, 1) := by decide +kernel
theorem dX12_factsOf_37 : decode cX12_factsOf 37 = .ok (.iconst 1, 1) := by decide +kernel
theorem dX12_factsOf_38 : decode cX12_factsOf 38 = .ok (.iconst 1, 1) := by decide +kernel
theorem dX12_factsOf_39 : decode cX12_factsOf 39 = .ok (.iconst (-1), 1) := by decide +kernel
theorem dX12_factsOf_40 : decode cX12_factsOf 40 = .ok (.invokevirtual 304, 3) := by decide +kernel
theorem dX12_factsOf_43 : decode cX12_factsOf 43 = .ok (.ifCond .eq 18, 3) := by decide +kernel
theorem dX12_factsOf_46 : decode cX12_factsOf 46 = .ok (.aload_n 0, 1) := by decide +kernel
theorem dX12_factsOf_47 : decode cX12_factsOf 47 = .ok (.iload_n 1, 1) := by decide +kernel
theorem dX12_factsOf_48 : decode cX12_factsOf 48 = .ok (.iconst 1, 1) := by decide +kernel
theorem dX12_factsOf_49 : decode cX12_factsOf 49 = .ok (.iconst (-1), 1) := by decide +kernel
theorem dX12_factsOf_50 : decode cX12_factsOf 50 = .ok (.iconst (-1), 1) := by decide +kernel
theorem dX12_factsOf_51 : decode cX12_factsOf 51 = .ok (.invokevirtual 304, 3) := by decide +kernel
theorem dX12_factsOf_54 : decode cX12_factsOf 54 = .ok (.ifCond .ne 7, 3) := by decide +kernel
theorem dX12_factsOf_57 : decode cX12_factsOf 57 = .ok (.iconst 4, 1) := by decide +kernel
theorem dX12_factsOf_58 : decode cX12_factsOf 58 = .ok (.goto 4, 3) := by decide +kernel
theorem dX12_factsOf_61 : decode cX12_factsOf 61 = .ok (.iconst 0, 1) := by decide +kernel
theorem dX12_factsOf_62 : decode cX12_factsOf 62 = .ok (.ior, 1) := by decide +kernel
theorem dX12_factsOf_63 : decode cX12_factsOf 63 = .ok (.istore_n 3, 1) := by decide +kernel
theorem dX12_factsOf_64 : decode cX12_factsOf 64 = .ok (.iload_n 3, 1) := by decide +kernel
theorem dX12_factsOf_65 : decode cX12_factsOf 65 = .ok (.aload_n 0, 1) := by decide +kernel
theorem dX12_factsOf_66 : decode cX12_factsOf 66 = .ok (.iload_n 1, 1) := by decide +kernel
theorem dX12_factsOf_67 : decode cX12_factsOf 67 = .ok (.invokevirtual 307, 3) := by decide +kernel
theorem dX12_factsOf_70 : decode cX12_factsOf 70 = .ok (.ifCond .ne 8, 3) := by decide +kernel
theorem dX12_factsOf_73 : decode cX12_factsOf 73 = .ok (.bipush 8, 2) := by decide +kernel
theorem dX12_factsOf_75 : decode cX12_factsOf 75 = .ok (.goto 4, 3) := by decide +kernel
theorem dX12_factsOf_78 : decode cX12_factsOf 78 = .ok (.iconst 0, 1) := by decide +kernel
theorem dX12_factsOf_79 : decode cX12_factsOf 79 = .ok (.ior, 1) := by decide +kernel
theorem dX12_factsOf_80 : decode cX12_factsOf 80 = .ok (.istore_n 3, 1) := by decide +kernel
theorem dX12_factsOf_81 : decode cX12_factsOf 81 = .ok (.iload_n 3, 1) := by decide +kernel
theorem dX12_factsOf_82 : decode cX12_factsOf 82 = .ok (.aload_n 0, 1) := by decide +kernel
theorem dX12_factsOf_83 : decode cX12_factsOf 83 = .ok (.getfield 53, 3) := by decide +kernel
theorem dX12_factsOf_86 : decode cX12_factsOf 86 = .ok (.iload_n 1, 1) := by decide +kernel
theorem dX12_factsOf_87 : decode cX12_factsOf 87 = .ok (.baload, 1) := by decide +kernel
theorem dX12_factsOf_88 : decode cX12_factsOf 88 = .ok (.ifCond .eq 8, 3) := by decide +kernel
theorem dX12_factsOf_91 : decode cX12_factsOf 91 = .ok (.bipush 16, 2) := by decide +kernel
theorem dX12_factsOf_93 : decode cX12_factsOf 93 = .ok (.goto 4, 3) := by decide +kernel
theorem dX12_factsOf_96 : decode cX12_factsOf 96 = .ok (.iconst 0, 1) := by decide +kernel
theorem dX12_factsOf_97 : decode cX12_factsOf 97 = .ok (.ior, 1) := by decide +kernel
theorem dX12_factsOf_98 : decode cX12_factsOf 98 = .ok (.istore_n 3, 1) := by decide +kernel
theorem dX12_factsOf_99 : decode cX12_factsOf 99 = .ok (.iload_n 3, 1) := by decide +kernel
theorem dX12_factsOf_100 : decode cX12_factsOf 100 = .ok (.aload_n 0, 1) := by decide +kernel
theorem dX12_factsOf_101 : decode cX12_factsOf 101 = .ok (.getfield 57, 3) := by decide +kernel
theorem dX12_factsOf_104 : decode cX12_factsOf 104 = .ok (.iload_n 1, 1) := by decide +kernel
theorem dX12_factsOf_105 : decode cX12_factsOf 105 = .ok (.baload, 1) := by decide +kernel
theorem dX12_factsOf_106 : decode cX12_factsOf 106 = .ok (.ifCond .eq 8, 3) := by decide +kernel
theorem dX12_factsOf_109 : decode cX12_factsOf 109 = .ok (.bipush 32, 2) := by decide +kernel
theorem dX12_factsOf_111 : decode cX12_factsOf 111 = .ok (.goto 4, 3) := by decide +kernel
theorem dX12_factsOf_114 : decode cX12_factsOf 114 = .ok (.iconst 0, 1) := by decide +kernel
theorem dX12_factsOf_115 : decode cX12_factsOf 115 = .ok (.ior, 1) := by decide +kernel
theorem dX12_factsOf_116 : decode cX12_factsOf 116 = .ok (.istore_n 3, 1) := by decide +kernel
theorem dX12_factsOf_117 : decode cX12_factsOf 117 = .ok (.iload_n 3, 1) := by decide +kernel
theorem dX12_factsOf_118 : decode cX12_factsOf 118 = .ok (.aload_n 0, 1) := by decide +kernel
theorem dX12_factsOf_119 : decode cX12_factsOf 119 = .ok (.iload_n 1, 1) := by decide +kernel
theorem dX12_factsOf_120 : decode cX12_factsOf 120 = .ok (.iload_n 2, 1) := by decide +kernel
theorem dX12_factsOf_121 : decode cX12_factsOf 121 = .ok (.invokevirtual 310, 3) := by decide +kernel
theorem dX12_factsOf_124 : decode cX12_factsOf 124 = .ok (.ifCond .eq 8, 3) := by decide +kernel
theorem dX12_factsOf_127 : decode cX12_factsOf 127 = .ok (.bipush 64, 2) := by decide +kernel
theorem dX12_factsOf_129 : decode cX12_factsOf 129 = .ok (.goto 4, 3) := by decide +kernel
theorem dX12_factsOf_132 : decode cX12_factsOf 132 = .ok (.iconst 0, 1) := by decide +kernel
theorem dX12_factsOf_133 : decode cX12_factsOf 133 = .ok (.ior, 1) := by decide +kernel
theorem dX12_factsOf_134 : decode cX12_factsOf 134 = .ok (.istore_n 3, 1) := by decide +kernel
theorem dX12_factsOf_135 : decode cX12_factsOf 135 = .ok (.iload_n 3, 1) := by decide +kernel
theorem dX12_factsOf_136 : decode cX12_factsOf 136 = .ok (.aload_n 0, 1) := by decide +kernel
theorem dX12_factsOf_137 : decode cX12_factsOf 137 = .ok (.iload_n 1, 1) := by decide +kernel
theorem dX12_factsOf_138 : decode cX12_factsOf 138 = .ok (.iconst 0, 1) := by decide +kernel
theorem dX12_factsOf_139 : decode cX12_factsOf 139 = .ok (.iconst 2, 1) := by decide +kernel
theorem dX12_factsOf_140 : decode cX12_factsOf 140 = .ok (.aload_n 0, 1) := by decide +kernel
theorem dX12_factsOf_141 : decode cX12_factsOf 141 = .ok (.getfield 32, 3) := by decide +kernel
theorem dX12_factsOf_144 : decode cX12_factsOf 144 = .ok (.aload_n 0, 1) := by decide +kernel
theorem dX12_factsOf_145 : decode cX12_factsOf 145 = .ok (.iload_n 1, 1) := by decide +kernel
theorem dX12_factsOf_146 : decode cX12_factsOf 146 = .ok (.invokevirtual 247, 3) := by decide +kernel
theorem dX12_factsOf_149 : decode cX12_factsOf 149 = .ok (.iaload, 1) := by decide +kernel
theorem dX12_factsOf_150 : decode cX12_factsOf 150 = .ok (.invokevirtual 304, 3) := by decide +kernel
theorem dX12_factsOf_153 : decode cX12_factsOf 153 = .ok (.ifCond .eq 9, 3) := by decide +kernel
theorem dX12_factsOf_156 : decode cX12_factsOf 156 = .ok (.sipush 128, 3) := by decide +kernel
theorem dX12_factsOf_159 : decode cX12_factsOf 159 = .ok (.goto 4, 3) := by decide +kernel
theorem dX12_factsOf_162 : decode cX12_factsOf 162 = .ok (.iconst 0, 1) := by decide +kernel
theorem dX12_factsOf_163 : decode cX12_factsOf 163 = .ok (.ior, 1) := by decide +kernel
theorem dX12_factsOf_164 : decode cX12_factsOf 164 = .ok (.ireturn, 1) := by decide +kernel
theorem dX12_laysHeights_0 : decode cX12_laysHeights 0 = .ok (.iconst 0, 1) := by decide +kernel
theorem dX12_laysHeights_1 : decode cX12_laysHeights 1 = .ok (.istore_n 1, 1) := by decide +kernel
theorem dX12_laysHeights_2 : decode cX12_laysHeights 2 = .ok (.iload_n 1, 1) := by decide +kernel
theorem dX12_laysHeights_3 : decode cX12_laysHeights 3 = .ok (.bipush 16, 2) := by decide +kernel
theorem dX12_laysHeights_5 : decode cX12_laysHeights 5 = .ok (.if_icmp .ge 16, 3) := by decide +kernel
theorem dX12_laysHeights_8 : decode cX12_laysHeights 8 = .ok (.aload_n 0, 1) := by decide +kernel
theorem dX12_laysHeights_9 : decode cX12_laysHeights 9 = .ok (.getfield 186, 3) := by decide +kernel
theorem dX12_laysHeights_12 : decode cX12_laysHeights 12 = .ok (.iload_n 1, 1) := by decide +kernel
theorem dX12_laysHeights_13 : decode cX12_laysHeights 13 = .ok (.iconst 0, 1) := by decide +kernel
theorem dX12_laysHeights_14 : decode cX12_laysHeights 14 = .ok (.iastore, 1) := by decide +kernel
theorem dX12_laysHeights_15 : decode cX12_laysHeights 15 = .ok (.iinc 1 1, 3) := by decide +kernel
theorem dX12_laysHeights_18 : decode cX12_laysHeights 18 = .ok (.goto (-16), 3) := by decide +kernel
theorem dX12_laysHeights_21 : decode cX12_laysHeights 21 = .ok (.iconst 1, 1) := by decide +kernel
theorem dX12_laysHeights_22 : decode cX12_laysHeights 22 = .ok (.istore_n 1, 1) := by decide +kernel
theorem dX12_laysHeights_23 : decode cX12_laysHeights 23 = .ok (.iconst 0, 1) := by decide +kernel
theorem dX12_laysHeights_24 : decode cX12_laysHeights 24 = .ok (.istore_n 2, 1) := by decide +kernel
theorem dX12_laysHeights_25 : decode cX12_laysHeights 25 = .ok (.iload_n 1, 1) := by decide +kernel
theorem dX12_laysHeights_26 : decode cX12_laysHeights 26 = .ok (.ifCond .eq 132, 3) := by decide +kernel
theorem dX12_laysHeights_29 : decode cX12_laysHeights 29 = .ok (.iload_n 2, 1) := by decide +kernel
theorem dX12_laysHeights_30 : decode cX12_laysHeights 30 = .ok (.bipush 17, 2) := by decide +kernel
theorem dX12_laysHeights_32 : decode cX12_laysHeights 32 = .ok (.if_icmp .ge 126, 3) := by decide +kernel
theorem dX12_laysHeights_35 : decode cX12_laysHeights 35 = .ok (.iconst 0, 1) := by decide +kernel
theorem dX12_laysHeights_36 : decode cX12_laysHeights 36 = .ok (.istore_n 1, 1) := by decide +kernel
theorem dX12_laysHeights_37 : decode cX12_laysHeights 37 = .ok (.iconst 0, 1) := by decide +kernel
theorem dX12_laysHeights_38 : decode cX12_laysHeights 38 = .ok (.istore_n 3, 1) := by decide +kernel
theorem dX12_laysHeights_39 : decode cX12_laysHeights 39 = .ok (.iload_n 3, 1) := by decide +kernel
theorem dX12_laysHeights_40 : decode cX12_laysHeights 40 = .ok (.aload_n 0, 1) := by decide +kernel
theorem dX12_laysHeights_41 : decode cX12_laysHeights 41 = .ok (.getfield 135, 3) := by decide +kernel
theorem dX12_laysHeights_44 : decode cX12_laysHeights 44 = .ok (.if_icmp .ge 111, 3) := by decide +kernel
theorem dX12_laysHeights_47 : decode cX12_laysHeights 47 = .ok (.aload_n 0, 1) := by decide +kernel
theorem dX12_laysHeights_48 : decode cX12_laysHeights 48 = .ok (.getfield 147, 3) := by decide +kernel
theorem dX12_laysHeights_51 : decode cX12_laysHeights 51 = .ok (.iload_n 3, 1) := by decide +kernel
theorem dX12_laysHeights_52 : decode cX12_laysHeights 52 = .ok (.baload, 1) := by decide +kernel
theorem dX12_laysHeights_53 : decode cX12_laysHeights 53 = .ok (.ifCond .eq 7, 3) := by decide +kernel
theorem dX12_laysHeights_56 : decode cX12_laysHeights 56 = .ok (.iconst 0, 1) := by decide +kernel
theorem dX12_laysHeights_57 : decode cX12_laysHeights 57 = .ok (.goto 8, 3) := by decide +kernel
theorem dX12_laysHeights_60 : decode cX12_laysHeights 60 = .ok (.aload_n 0, 1) := by decide +kernel
theorem dX12_laysHeights_61 : decode cX12_laysHeights 61 = .ok (.iload_n 3, 1) := by decide +kernel
theorem dX12_laysHeights_62 : decode cX12_laysHeights 62 = .ok (.invokevirtual 313, 3) := by decide +kernel
theorem dX12_laysHeights_65 : decode cX12_laysHeights 65 = .ok (.istore 4, 2) := by decide +kernel
theorem dX12_laysHeights_67 : decode cX12_laysHeights 67 = .ok (.iload_n 1, 1) := by decide +kernel
theorem dX12_laysHeights_68 : decode cX12_laysHeights 68 = .ok (.ifCond .ne 19, 3) := by decide +kernel
theorem dX12_laysHeights_71 : decode cX12_laysHeights 71 = .ok (.iload 4, 2) := by decide +kernel
theorem dX12_laysHeights_73 : decode cX12_laysHeights 73 = .ok (.aload_n 0, 1) := by decide +kernel
theorem dX12_laysHeights_74 : decode cX12_laysHeights 74 = .ok (.getfield 186, 3) := by decide +kernel
theorem dX12_laysHeights_77 : decode cX12_laysHeights 77 = .ok (.aload_n 0, 1) := by decide +kernel
theorem dX12_laysHeights_78 : decode cX12_laysHeights 78 = .ok (.getfield 138, 3) := by decide +kernel
theorem dX12_laysHeights_81 : decode cX12_laysHeights 81 = .ok (.iload_n 3, 1) := by decide +kernel
theorem dX12_laysHeights_82 : decode cX12_laysHeights 82 = .ok (.iaload, 1) := by decide +kernel
theorem dX12_laysHeights_83 : decode cX12_laysHeights 83 = .ok (.iaload, 1) := by decide +kernel
theorem dX12_laysHeights_84 : decode cX12_laysHeights 84 = .ok (.if_icmp .le 7, 3) := by decide +kernel
theorem dX12_laysHeights_87 : decode cX12_laysHeights 87 = .ok (.iconst 1, 1) := by decide +kernel
theorem dX12_laysHeights_88 : decode cX12_laysHeights 88 = .ok (.goto 4, 3) := by decide +kernel
theorem dX12_laysHeights_91 : decode cX12_laysHeights 91 = .ok (.iconst 0, 1) := by decide +kernel
theorem dX12_laysHeights_92 : decode cX12_laysHeights 92 = .ok (.istore_n 1, 1) := by decide +kernel
theorem dX12_laysHeights_93 : decode cX12_laysHeights 93 = .ok (.aload_n 0, 1) := by decide +kernel
theorem dX12_laysHeights_94 : decode cX12_laysHeights 94 = .ok (.getfield 186, 3) := by decide +kernel
theorem dX12_laysHeights_97 : decode cX12_laysHeights 97 = .ok (.aload_n 0, 1) := by decide +kernel
theorem dX12_laysHeights_98 : decode cX12_laysHeights 98 = .ok (.getfield 138, 3) := by decide +kernel
theorem dX12_laysHeights_101 : decode cX12_laysHeights 101 = .ok (.iload_n 3, 1) := by decide +kernel
theorem dX12_laysHeights_102 : decode cX12_laysHeights 102 = .ok (.iaload, 1) := by decide +kernel
theorem dX12_laysHeights_103 : decode cX12_laysHeights 103 = .ok (.iload 4, 2) := by decide +kernel
theorem dX12_laysHeights_105 : decode cX12_laysHeights 105 = .ok (.aload_n 0, 1) := by decide +kernel
theorem dX12_laysHeights_106 : decode cX12_laysHeights 106 = .ok (.getfield 186, 3) := by decide +kernel
theorem dX12_laysHeights_109 : decode cX12_laysHeights 109 = .ok (.aload_n 0, 1) := by decide +kernel
theorem dX12_laysHeights_110 : decode cX12_laysHeights 110 = .ok (.getfield 138, 3) := by decide +kernel
theorem dX12_laysHeights_113 : decode cX12_laysHeights 113 = .ok (.iload_n 3, 1) := by decide +kernel
theorem dX12_laysHeights_114 : decode cX12_laysHeights 114 = .ok (.iaload, 1) := by decide +kernel
theorem dX12_laysHeights_115 : decode cX12_laysHeights 115 = .ok (.iaload, 1) := by decide +kernel
theorem dX12_laysHeights_116 : decode cX12_laysHeights 116 = .ok (.if_icmp .le 8, 3) := by decide +kernel
theorem dX12_laysHeights_119 : decode cX12_laysHeights 119 = .ok (.iload 4, 2) := by decide +kernel
theorem dX12_laysHeights_121 : decode cX12_laysHeights 121 = .ok (.goto 14, 3) := by decide +kernel
theorem dX12_laysHeights_124 : decode cX12_laysHeights 124 = .ok (.aload_n 0, 1) := by decide +kernel
theorem dX12_laysHeights_125 : decode cX12_laysHeights 125 = .ok (.getfield 186, 3) := by decide +kernel
theorem dX12_laysHeights_128 : decode cX12_laysHeights 128 = .ok (.aload_n 0, 1) := by decide +kernel
theorem dX12_laysHeights_129 : decode cX12_laysHeights 129 = .ok (.getfield 138, 3) := by decide +kernel
theorem dX12_laysHeights_132 : decode cX12_laysHeights 132 = .ok (.iload_n 3, 1) := by decide +kernel
theorem dX12_laysHeights_133 : decode cX12_laysHeights 133 = .ok (.iaload, 1) := by decide +kernel
theorem dX12_laysHeights_134 : decode cX12_laysHeights 134 = .ok (.iaload, 1) := by decide +kernel
theorem dX12_laysHeights_135 : decode cX12_laysHeights 135 = .ok (.iastore, 1) := by decide +kernel
theorem dX12_laysHeights_136 : decode cX12_laysHeights 136 = .ok (.iload 4, 2) := by decide +kernel
theorem dX12_laysHeights_138 : decode cX12_laysHeights 138 = .ok (.iload_n 2, 1) := by decide +kernel
theorem dX12_laysHeights_139 : decode cX12_laysHeights 139 = .ok (.if_icmp .le 8, 3) := by decide +kernel
theorem dX12_laysHeights_142 : decode cX12_laysHeights 142 = .ok (.iload 4, 2) := by decide +kernel
theorem dX12_laysHeights_144 : decode cX12_laysHeights 144 = .ok (.goto 4, 3) := by decide +kernel
theorem dX12_laysHeights_147 : decode cX12_laysHeights 147 = .ok (.iload_n 2, 1) := by decide +kernel
theorem dX12_laysHeights_148 : decode cX12_laysHeights 148 = .ok (.istore_n 2, 1) := by decide +kernel
theorem dX12_laysHeights_149 : decode cX12_laysHeights 149 = .ok (.iinc 3 1, 3) := by decide +kernel
theorem dX12_laysHeights_152 : decode cX12_laysHeights 152 = .ok (.goto (-113), 3) := by decide +kernel
theorem dX12_laysHeights_155 : decode cX12_laysHeights 155 = .ok (.goto (-130), 3) := by decide +kernel
theorem dX12_laysHeights_158 : decode cX12_laysHeights 158 = .ok (.iload_n 2, 1) := by decide +kernel
theorem dX12_laysHeights_159 : decode cX12_laysHeights 159 = .ok (.bipush 17, 2) := by decide +kernel
theorem dX12_laysHeights_161 : decode cX12_laysHeights 161 = .ok (.if_icmp .ge 7, 3) := by decide +kernel
theorem dX12_laysHeights_164 : decode cX12_laysHeights 164 = .ok (.iconst 1, 1) := by decide +kernel
theorem dX12_laysHeights_165 : decode cX12_laysHeights 165 = .ok (.goto 4, 3) := by decide +kernel
theorem dX12_laysHeights_168 : decode cX12_laysHeights 168 = .ok (.iconst 0, 1) := by decide +kernel
theorem dX12_laysHeights_169 : decode cX12_laysHeights 169 = .ok (.ireturn, 1) := by decide +kernel
theorem dX12_leastHeight_0 : decode cX12_leastHeight 0 = .ok (.iconst 0, 1) := by decide +kernel
theorem dX12_leastHeight_1 : decode cX12_leastHeight 1 = .ok (.istore_n 2, 1) := by decide +kernel
theorem dX12_leastHeight_2 : decode cX12_leastHeight 2 = .ok (.bipush 8, 2) := by decide +kernel
theorem dX12_leastHeight_4 : decode cX12_leastHeight 4 = .ok (.istore_n 3, 1) := by decide +kernel
theorem dX12_leastHeight_5 : decode cX12_leastHeight 5 = .ok (.iload_n 3, 1) := by decide +kernel
theorem dX12_leastHeight_6 : decode cX12_leastHeight 6 = .ok (.bipush 16, 2) := by decide +kernel
theorem dX12_leastHeight_8 : decode cX12_leastHeight 8 = .ok (.if_icmp .ge 97, 3) := by decide +kernel
theorem dX12_leastHeight_11 : decode cX12_leastHeight 11 = .ok (.aload_n 0, 1) := by decide +kernel
theorem dX12_leastHeight_12 : decode cX12_leastHeight 12 = .ok (.getfield 141, 3) := by decide +kernel
theorem dX12_leastHeight_15 : decode cX12_leastHeight 15 = .ok (.iload_n 1, 1) := by decide +kernel
theorem dX12_leastHeight_16 : decode cX12_leastHeight 16 = .ok (.iaload, 1) := by decide +kernel
theorem dX12_leastHeight_17 : decode cX12_leastHeight 17 = .ok (.iload_n 3, 1) := by decide +kernel
theorem dX12_leastHeight_18 : decode cX12_leastHeight 18 = .ok (.ishr, 1) := by decide +kernel
theorem dX12_leastHeight_19 : decode cX12_leastHeight 19 = .ok (.iconst 1, 1) := by decide +kernel
theorem dX12_leastHeight_20 : decode cX12_leastHeight 20 = .ok (.iand, 1) := by decide +kernel
theorem dX12_leastHeight_21 : decode cX12_leastHeight 21 = .ok (.iconst 1, 1) := by decide +kernel
theorem dX12_leastHeight_22 : decode cX12_leastHeight 22 = .ok (.if_icmp .ne 7, 3) := by decide +kernel
theorem dX12_leastHeight_25 : decode cX12_leastHeight 25 = .ok (.iconst 1, 1) := by decide +kernel
theorem dX12_leastHeight_26 : decode cX12_leastHeight 26 = .ok (.goto 4, 3) := by decide +kernel
theorem dX12_leastHeight_29 : decode cX12_leastHeight 29 = .ok (.iconst 0, 1) := by decide +kernel
theorem dX12_leastHeight_30 : decode cX12_leastHeight 30 = .ok (.istore 4, 2) := by decide +kernel
theorem dX12_leastHeight_32 : decode cX12_leastHeight 32 = .ok (.aload_n 0, 1) := by decide +kernel
theorem dX12_leastHeight_33 : decode cX12_leastHeight 33 = .ok (.getfield 144, 3) := by decide +kernel
theorem dX12_leastHeight_36 : decode cX12_leastHeight 36 = .ok (.iload_n 1, 1) := by decide +kernel
theorem dX12_leastHeight_37 : decode cX12_leastHeight 37 = .ok (.iaload, 1) := by decide +kernel
theorem dX12_leastHeight_38 : decode cX12_leastHeight 38 = .ok (.iload_n 3, 1) := by decide +kernel
theorem dX12_leastHeight_39 : decode cX12_leastHeight 39 = .ok (.ishr, 1) := by decide +kernel
theorem dX12_leastHeight_40 : decode cX12_leastHeight 40 = .ok (.iconst 1, 1) := by decide +kernel
theorem dX12_leastHeight_41 : decode cX12_leastHeight 41 = .ok (.iand, 1) := by decide +kernel
theorem dX12_leastHeight_42 : decode cX12_leastHeight 42 = .ok (.iconst 1, 1) := by decide +kernel
theorem dX12_leastHeight_43 : decode cX12_leastHeight 43 = .ok (.if_icmp .ne 7, 3) := by decide +kernel
theorem dX12_leastHeight_46 : decode cX12_leastHeight 46 = .ok (.iconst 1, 1) := by decide +kernel
theorem dX12_leastHeight_47 : decode cX12_leastHeight 47 = .ok (.goto 4, 3) := by decide +kernel
theorem dX12_leastHeight_50 : decode cX12_leastHeight 50 = .ok (.iconst 0, 1) := by decide +kernel
theorem dX12_leastHeight_51 : decode cX12_leastHeight 51 = .ok (.istore 5, 2) := by decide +kernel
theorem dX12_leastHeight_53 : decode cX12_leastHeight 53 = .ok (.iload 5, 2) := by decide +kernel
theorem dX12_leastHeight_55 : decode cX12_leastHeight 55 = .ok (.ifCond .eq 14, 3) := by decide +kernel
theorem dX12_leastHeight_58 : decode cX12_leastHeight 58 = .ok (.aload_n 0, 1) := by decide +kernel
theorem dX12_leastHeight_59 : decode cX12_leastHeight 59 = .ok (.getfield 186, 3) := by decide +kernel
theorem dX12_leastHeight_62 : decode cX12_leastHeight 62 = .ok (.iload_n 3, 1) := by decide +kernel
theorem dX12_leastHeight_63 : decode cX12_leastHeight 63 = .ok (.iaload, 1) := by decide +kernel
theorem dX12_leastHeight_64 : decode cX12_leastHeight 64 = .ok (.iconst 1, 1) := by decide +kernel
theorem dX12_leastHeight_65 : decode cX12_leastHeight 65 = .ok (.iadd, 1) := by decide +kernel
theorem dX12_leastHeight_66 : decode cX12_leastHeight 66 = .ok (.goto 18, 3) := by decide +kernel
theorem dX12_leastHeight_69 : decode cX12_leastHeight 69 = .ok (.iload 4, 2) := by decide +kernel
theorem dX12_leastHeight_71 : decode cX12_leastHeight 71 = .ok (.ifCond .eq 12, 3) := by decide +kernel
theorem dX12_leastHeight_74 : decode cX12_leastHeight 74 = .ok (.aload_n 0, 1) := by decide +kernel
theorem dX12_leastHeight_75 : decode cX12_leastHeight 75 = .ok (.getfield 186, 3) := by decide +kernel
theorem dX12_leastHeight_78 : decode cX12_leastHeight 78 = .ok (.iload_n 3, 1) := by decide +kernel
theorem dX12_leastHeight_79 : decode cX12_leastHeight 79 = .ok (.iaload, 1) := by decide +kernel
theorem dX12_leastHeight_80 : decode cX12_leastHeight 80 = .ok (.goto 4, 3) := by decide +kernel
theorem dX12_leastHeight_83 : decode cX12_leastHeight 83 = .ok (.iconst 0, 1) := by decide +kernel
theorem dX12_leastHeight_84 : decode cX12_leastHeight 84 = .ok (.istore 6, 2) := by decide +kernel
theorem dX12_leastHeight_86 : decode cX12_leastHeight 86 = .ok (.iload 6, 2) := by decide +kernel
theorem dX12_leastHeight_88 : decode cX12_leastHeight 88 = .ok (.iload_n 2, 1) := by decide +kernel
theorem dX12_leastHeight_89 : decode cX12_leastHeight 89 = .ok (.if_icmp .le 8, 3) := by decide +kernel
theorem dX12_leastHeight_92 : decode cX12_leastHeight 92 = .ok (.iload 6, 2) := by decide +kernel
theorem dX12_leastHeight_94 : decode cX12_leastHeight 94 = .ok (.goto 4, 3) := by decide +kernel
theorem dX12_leastHeight_97 : decode cX12_leastHeight 97 = .ok (.iload_n 2, 1) := by decide +kernel
theorem dX12_leastHeight_98 : decode cX12_leastHeight 98 = .ok (.istore_n 2, 1) := by decide +kernel
theorem dX12_leastHeight_99 : decode cX12_leastHeight 99 = .ok (.iinc 3 1, 3) := by decide +kernel
theorem dX12_leastHeight_102 : decode cX12_leastHeight 102 = .ok (.goto (-97), 3) := by decide +kernel
theorem dX12_leastHeight_105 : decode cX12_leastHeight 105 = .ok (.iload_n 2, 1) := by decide +kernel
theorem dX12_leastHeight_106 : decode cX12_leastHeight 106 = .ok (.ireturn, 1) := by decide +kernel
theorem dX12_holding_0 : decode cX12_holding 0 = .ok (.aload_n 0, 1) := by decide +kernel
theorem dX12_holding_1 : decode cX12_holding 1 = .ok (.invokevirtual 316, 3) := by decide +kernel
theorem dX12_holding_4 : decode cX12_holding 4 = .ok (.istore_n 2, 1) := by decide +kernel
theorem dX12_holding_5 : decode cX12_holding 5 = .ok (.iload_n 1, 1) := by decide +kernel
theorem dX12_holding_6 : decode cX12_holding 6 = .ok (.istore_n 3, 1) := by decide +kernel
theorem dX12_holding_7 : decode cX12_holding 7 = .ok (.iconst 0, 1) := by decide +kernel
theorem dX12_holding_8 : decode cX12_holding 8 = .ok (.istore 4, 2) := by decide +kernel
theorem dX12_holding_10 : decode cX12_holding 10 = .ok (.iload 4, 2) := by decide +kernel
theorem dX12_holding_12 : decode cX12_holding 12 = .ok (.bipush 17, 2) := by decide +kernel
theorem dX12_holding_14 : decode cX12_holding 14 = .ok (.if_icmp .ge 127, 3) := by decide +kernel
theorem dX12_holding_17 : decode cX12_holding 17 = .ok (.iload_n 2, 1) := by decide +kernel
theorem dX12_holding_18 : decode cX12_holding 18 = .ok (.ifCond .eq 123, 3) := by decide +kernel
theorem dX12_holding_21 : decode cX12_holding 21 = .ok (.iconst (-1), 1) := by decide +kernel
theorem dX12_holding_22 : decode cX12_holding 22 = .ok (.istore 5, 2) := by decide +kernel
theorem dX12_holding_24 : decode cX12_holding 24 = .ok (.iload 5, 2) := by decide +kernel
theorem dX12_holding_26 : decode cX12_holding 26 = .ok (.iload_n 3, 1) := by decide +kernel
theorem dX12_holding_27 : decode cX12_holding 27 = .ok (.if_icmp .eq 108, 3) := by decide +kernel
theorem dX12_holding_30 : decode cX12_holding 30 = .ok (.iload_n 3, 1) := by decide +kernel
theorem dX12_holding_31 : decode cX12_holding 31 = .ok (.istore 5, 2) := by decide +kernel
theorem dX12_holding_33 : decode cX12_holding 33 = .ok (.iconst 0, 1) := by decide +kernel
theorem dX12_holding_34 : decode cX12_holding 34 = .ok (.istore 6, 2) := by decide +kernel
theorem dX12_holding_36 : decode cX12_holding 36 = .ok (.iload 6, 2) := by decide +kernel
theorem dX12_holding_38 : decode cX12_holding 38 = .ok (.aload_n 0, 1) := by decide +kernel
theorem dX12_holding_39 : decode cX12_holding 39 = .ok (.getfield 135, 3) := by decide +kernel
theorem dX12_holding_42 : decode cX12_holding 42 = .ok (.if_icmp .ge 90, 3) := by decide +kernel
theorem dX12_holding_45 : decode cX12_holding 45 = .ok (.aload_n 0, 1) := by decide +kernel
theorem dX12_holding_46 : decode cX12_holding 46 = .ok (.getfield 147, 3) := by decide +kernel
theorem dX12_holding_49 : decode cX12_holding 49 = .ok (.iload 6, 2) := by decide +kernel
theorem dX12_holding_51 : decode cX12_holding 51 = .ok (.baload, 1) := by decide +kernel
theorem dX12_holding_52 : decode cX12_holding 52 = .ok (.ifCond .ne 50, 3) := by decide +kernel
theorem dX12_holding_55 : decode cX12_holding 55 = .ok (.aload_n 0, 1) := by decide +kernel
theorem dX12_holding_56 : decode cX12_holding 56 = .ok (.getfield 186, 3) := by decide +kernel
theorem dX12_holding_59 : decode cX12_holding 59 = .ok (.aload_n 0, 1) := by decide +kernel
theorem dX12_holding_60 : decode cX12_holding 60 = .ok (.getfield 138, 3) := by decide +kernel
theorem dX12_holding_63 : decode cX12_holding 63 = .ok (.iload 6, 2) := by decide +kernel
theorem dX12_holding_65 : decode cX12_holding 65 = .ok (.iaload, 1) := by decide +kernel
theorem dX12_holding_66 : decode cX12_holding 66 = .ok (.iaload, 1) := by decide +kernel
theorem dX12_holding_67 : decode cX12_holding 67 = .ok (.iload 4, 2) := by decide +kernel
theorem dX12_holding_69 : decode cX12_holding 69 = .ok (.if_icmp .ne 33, 3) := by decide +kernel
theorem dX12_holding_72 : decode cX12_holding 72 = .ok (.aload_n 0, 1) := by decide +kernel
theorem dX12_holding_73 : decode cX12_holding 73 = .ok (.getfield 141, 3) := by decide +kernel
theorem dX12_holding_76 : decode cX12_holding 76 = .ok (.iload 6, 2) := by decide +kernel
theorem dX12_holding_78 : decode cX12_holding 78 = .ok (.iaload, 1) := by decide +kernel
theorem dX12_holding_79 : decode cX12_holding 79 = .ok (.iload_n 3, 1) := by decide +kernel
theorem dX12_holding_80 : decode cX12_holding 80 = .ok (.iconst (-1), 1) := by decide +kernel
theorem dX12_holding_81 : decode cX12_holding 81 = .ok (.ixor, 1) := by decide +kernel
theorem dX12_holding_82 : decode cX12_holding 82 = .ok (.iand, 1) := by decide +kernel
theorem dX12_holding_83 : decode cX12_holding 83 = .ok (.ifCond .ne 19, 3) := by decide +kernel
theorem dX12_holding_86 : decode cX12_holding 86 = .ok (.aload_n 0, 1) := by decide +kernel
theorem dX12_holding_87 : decode cX12_holding 87 = .ok (.getfield 144, 3) := by decide +kernel
theorem dX12_holding_90 : decode cX12_holding 90 = .ok (.iload 6, 2) := by decide +kernel
theorem dX12_holding_92 : decode cX12_holding 92 = .ok (.iaload, 1) := by decide +kernel
theorem dX12_holding_93 : decode cX12_holding 93 = .ok (.iload_n 3, 1) := by decide +kernel
theorem dX12_holding_94 : decode cX12_holding 94 = .ok (.iand, 1) := by decide +kernel
theorem dX12_holding_95 : decode cX12_holding 95 = .ok (.ifCond .ne 7, 3) := by decide +kernel
theorem dX12_holding_98 : decode cX12_holding 98 = .ok (.iconst 1, 1) := by decide +kernel
theorem dX12_holding_99 : decode cX12_holding 99 = .ok (.goto 4, 3) := by decide +kernel
theorem dX12_holding_102 : decode cX12_holding 102 = .ok (.iconst 0, 1) := by decide +kernel
theorem dX12_holding_103 : decode cX12_holding 103 = .ok (.istore 7, 2) := by decide +kernel
theorem dX12_holding_105 : decode cX12_holding 105 = .ok (.iload_n 3, 1) := by decide +kernel
theorem dX12_holding_106 : decode cX12_holding 106 = .ok (.iload 7, 2) := by decide +kernel
theorem dX12_holding_108 : decode cX12_holding 108 = .ok (.ifCond .eq 15, 3) := by decide +kernel
theorem dX12_holding_111 : decode cX12_holding 111 = .ok (.iconst 1, 1) := by decide +kernel
theorem dX12_holding_112 : decode cX12_holding 112 = .ok (.aload_n 0, 1) := by decide +kernel
theorem dX12_holding_113 : decode cX12_holding 113 = .ok (.getfield 138, 3) := by decide +kernel
theorem dX12_holding_116 : decode cX12_holding 116 = .ok (.iload 6, 2) := by decide +kernel
theorem dX12_holding_118 : decode cX12_holding 118 = .ok (.iaload, 1) := by decide +kernel
theorem dX12_holding_119 : decode cX12_holding 119 = .ok (.ishl, 1) := by decide +kernel
theorem dX12_holding_120 : decode cX12_holding 120 = .ok (.goto 4, 3) := by decide +kernel
theorem dX12_holding_123 : decode cX12_holding 123 = .ok (.iconst 0, 1) := by decide +kernel
theorem dX12_holding_124 : decode cX12_holding 124 = .ok (.ior, 1) := by decide +kernel
theorem dX12_holding_125 : decode cX12_holding 125 = .ok (.istore_n 3, 1) := by decide +kernel
theorem dX12_holding_126 : decode cX12_holding 126 = .ok (.iinc 6 1, 3) := by decide +kernel
theorem dX12_holding_129 : decode cX12_holding 129 = .ok (.goto (-93), 3) := by decide +kernel
theorem dX12_holding_132 : decode cX12_holding 132 = .ok (.goto (-108), 3) := by decide +kernel
theorem dX12_holding_135 : decode cX12_holding 135 = .ok (.iinc 4 1, 3) := by decide +kernel
theorem dX12_holding_138 : decode cX12_holding 138 = .ok (.goto (-128), 3) := by decide +kernel
theorem dX12_holding_141 : decode cX12_holding 141 = .ok (.iload_n 3, 1) := by decide +kernel
theorem dX12_holding_142 : decode cX12_holding 142 = .ok (.ireturn, 1) := by decide +kernel
theorem dX12_isReady_0 : decode cX12_isReady 0 = .ok (.aload_n 0, 1) := by decide +kernel
theorem dX12_isReady_1 : decode cX12_isReady 1 = .ok (.aload_n 0, 1) := by decide +kernel
theorem dX12_isReady_2 : decode cX12_isReady 2 = .ok (.iload_n 1, 1) := by decide +kernel
theorem dX12_isReady_3 : decode cX12_isReady 3 = .ok (.iload_n 2, 1) := by decide +kernel
theorem dX12_isReady_4 : decode cX12_isReady 4 = .ok (.invokevirtual 320, 3) := by decide +kernel
theorem dX12_isReady_7 : decode cX12_isReady 7 = .ok (.invokevirtual 323, 3) := by decide +kernel
theorem dX12_isReady_10 : decode cX12_isReady 10 = .ok (.bipush 15, 2) := by decide +kernel
theorem dX12_isReady_12 : decode cX12_isReady 12 = .ok (.ishr, 1) := by decide +kernel
theorem dX12_isReady_13 : decode cX12_isReady 13 = .ok (.iconst 1, 1) := by decide +kernel
theorem dX12_isReady_14 : decode cX12_isReady 14 = .ok (.iand, 1) := by decide +kernel
theorem dX12_isReady_15 : decode cX12_isReady 15 = .ok (.iconst 1, 1) := by decide +kernel
theorem dX12_isReady_16 : decode cX12_isReady 16 = .ok (.if_icmp .ne 7, 3) := by decide +kernel
theorem dX12_isReady_19 : decode cX12_isReady 19 = .ok (.iconst 1, 1) := by decide +kernel
theorem dX12_isReady_20 : decode cX12_isReady 20 = .ok (.goto 4, 3) := by decide +kernel
theorem dX12_isReady_23 : decode cX12_isReady 23 = .ok (.iconst 0, 1) := by decide +kernel
theorem dX12_isReady_24 : decode cX12_isReady 24 = .ok (.ireturn, 1) := by decide +kernel
theorem dX12_lacksOf_0 : decode cX12_lacksOf 0 = .ok (.aload_n 0, 1) := by decide +kernel
theorem dX12_lacksOf_1 : decode cX12_lacksOf 1 = .ok (.iload_n 1, 1) := by decide +kernel
theorem dX12_lacksOf_2 : decode cX12_lacksOf 2 = .ok (.iconst 0, 1) := by decide +kernel
theorem dX12_lacksOf_3 : decode cX12_lacksOf 3 = .ok (.invokevirtual 320, 3) := by decide +kernel
theorem dX12_lacksOf_6 : decode cX12_lacksOf 6 = .ok (.istore_n 2, 1) := by decide +kernel
theorem dX12_lacksOf_7 : decode cX12_lacksOf 7 = .ok (.iconst (-1), 1) := by decide +kernel
theorem dX12_lacksOf_8 : decode cX12_lacksOf 8 = .ok (.istore_n 3, 1) := by decide +kernel
theorem dX12_lacksOf_9 : decode cX12_lacksOf 9 = .ok (.sipush 255, 3) := by decide +kernel
theorem dX12_lacksOf_12 : decode cX12_lacksOf 12 = .ok (.istore 4, 2) := by decide +kernel
theorem dX12_lacksOf_14 : decode cX12_lacksOf 14 = .ok (.iload 4, 2) := by decide +kernel
theorem dX12_lacksOf_16 : decode cX12_lacksOf 16 = .ok (.ifCond .lt 62, 3) := by decide +kernel
theorem dX12_lacksOf_19 : decode cX12_lacksOf 19 = .ok (.aload_n 0, 1) := by decide +kernel
theorem dX12_lacksOf_20 : decode cX12_lacksOf 20 = .ok (.iload_n 2, 1) := by decide +kernel
theorem dX12_lacksOf_21 : decode cX12_lacksOf 21 = .ok (.iload 4, 2) := by decide +kernel
theorem dX12_lacksOf_23 : decode cX12_lacksOf 23 = .ok (.ixor, 1) := by decide +kernel
theorem dX12_lacksOf_24 : decode cX12_lacksOf 24 = .ok (.invokevirtual 323, 3) := by decide +kernel
theorem dX12_lacksOf_27 : decode cX12_lacksOf 27 = .ok (.bipush 15, 2) := by decide +kernel
theorem dX12_lacksOf_29 : decode cX12_lacksOf 29 = .ok (.ishr, 1) := by decide +kernel
theorem dX12_lacksOf_30 : decode cX12_lacksOf 30 = .ok (.iconst 1, 1) := by decide +kernel
theorem dX12_lacksOf_31 : decode cX12_lacksOf 31 = .ok (.iand, 1) := by decide +kernel
theorem dX12_lacksOf_32 : decode cX12_lacksOf 32 = .ok (.iconst 1, 1) := by decide +kernel
theorem dX12_lacksOf_33 : decode cX12_lacksOf 33 = .ok (.if_icmp .ne 7, 3) := by decide +kernel
theorem dX12_lacksOf_36 : decode cX12_lacksOf 36 = .ok (.iconst 1, 1) := by decide +kernel
theorem dX12_lacksOf_37 : decode cX12_lacksOf 37 = .ok (.goto 4, 3) := by decide +kernel
theorem dX12_lacksOf_40 : decode cX12_lacksOf 40 = .ok (.iconst 0, 1) := by decide +kernel
theorem dX12_lacksOf_41 : decode cX12_lacksOf 41 = .ok (.istore 5, 2) := by decide +kernel
theorem dX12_lacksOf_43 : decode cX12_lacksOf 43 = .ok (.iload 5, 2) := by decide +kernel
theorem dX12_lacksOf_45 : decode cX12_lacksOf 45 = .ok (.ifCond .eq 25, 3) := by decide +kernel
theorem dX12_lacksOf_48 : decode cX12_lacksOf 48 = .ok (.iload_n 3, 1) := by decide +kernel
theorem dX12_lacksOf_49 : decode cX12_lacksOf 49 = .ok (.iconst (-1), 1) := by decide +kernel
theorem dX12_lacksOf_50 : decode cX12_lacksOf 50 = .ok (.if_icmp .eq 15, 3) := by decide +kernel
theorem dX12_lacksOf_53 : decode cX12_lacksOf 53 = .ok (.iload 4, 2) := by decide +kernel
theorem dX12_lacksOf_55 : decode cX12_lacksOf 55 = .ok (.invokestatic 292, 3) := by decide +kernel
theorem dX12_lacksOf_58 : decode cX12_lacksOf 58 = .ok (.iload_n 3, 1) := by decide +kernel
theorem dX12_lacksOf_59 : decode cX12_lacksOf 59 = .ok (.invokestatic 292, 3) := by decide +kernel
theorem dX12_lacksOf_62 : decode cX12_lacksOf 62 = .ok (.if_icmp .gt 8, 3) := by decide +kernel
theorem dX12_lacksOf_65 : decode cX12_lacksOf 65 = .ok (.iload 4, 2) := by decide +kernel
theorem dX12_lacksOf_67 : decode cX12_lacksOf 67 = .ok (.goto 4, 3) := by decide +kernel
theorem dX12_lacksOf_70 : decode cX12_lacksOf 70 = .ok (.iload_n 3, 1) := by decide +kernel
theorem dX12_lacksOf_71 : decode cX12_lacksOf 71 = .ok (.istore_n 3, 1) := by decide +kernel
theorem dX12_lacksOf_72 : decode cX12_lacksOf 72 = .ok (.iinc 4 (-1), 3) := by decide +kernel
theorem dX12_lacksOf_75 : decode cX12_lacksOf 75 = .ok (.goto (-61), 3) := by decide +kernel
theorem dX12_lacksOf_78 : decode cX12_lacksOf 78 = .ok (.iload_n 3, 1) := by decide +kernel
theorem dX12_lacksOf_79 : decode cX12_lacksOf 79 = .ok (.ireturn, 1) := by decide +kernel
theorem dX12_isOf_0 : decode cX12_isOf 0 = .ok (.iload_n 0, 1) := by decide +kernel
theorem dX12_isOf_1 : decode cX12_isOf 1 = .ok (.iload_n 1, 1) := by decide +kernel
theorem dX12_isOf_2 : decode cX12_isOf 2 = .ok (.ishr, 1) := by decide +kernel
theorem dX12_isOf_3 : decode cX12_isOf 3 = .ok (.iconst 1, 1) := by decide +kernel
theorem dX12_isOf_4 : decode cX12_isOf 4 = .ok (.iand, 1) := by decide +kernel
theorem dX12_isOf_5 : decode cX12_isOf 5 = .ok (.iconst 1, 1) := by decide +kernel
theorem dX12_isOf_6 : decode cX12_isOf 6 = .ok (.if_icmp .ne 7, 3) := by decide +kernel
theorem dX12_isOf_9 : decode cX12_isOf 9 = .ok (.iconst 1, 1) := by decide +kernel
theorem dX12_isOf_10 : decode cX12_isOf 10 = .ok (.goto 4, 3) := by decide +kernel
theorem dX12_isOf_13 : decode cX12_isOf 13 = .ok (.iconst 0, 1) := by decide +kernel
theorem dX12_isOf_14 : decode cX12_isOf 14 = .ok (.ireturn, 1) := by decide +kernel
theorem dX12_laysDifference_0 : decode cX12_laysDifference 0 = .ok (.aload_n 0, 1) := by decide +kernel
theorem dX12_laysDifference_1 : decode cX12_laysDifference 1 = .ok (.iconst 2, 1) := by decide +kernel
theorem dX12_laysDifference_2 : decode cX12_laysDifference 2 = .ok (.iload_n 1, 1) := by decide +kernel
theorem dX12_laysDifference_3 : decode cX12_laysDifference 3 = .ok (.iload_n 2, 1) := by decide +kernel
theorem dX12_laysDifference_4 : decode cX12_laysDifference 4 = .ok (.iload_n 3, 1) := by decide +kernel
theorem dX12_laysDifference_5 : decode cX12_laysDifference 5 = .ok (.invokevirtual 230, 3) := by decide +kernel
theorem dX12_laysDifference_8 : decode cX12_laysDifference 8 = .ok (.aload_n 0, 1) := by decide +kernel
theorem dX12_laysDifference_9 : decode cX12_laysDifference 9 = .ok (.getfield 17, 3) := by decide +kernel
theorem dX12_laysDifference_12 : decode cX12_laysDifference 12 = .ok (.iload_n 1, 1) := by decide +kernel
theorem dX12_laysDifference_13 : decode cX12_laysDifference 13 = .ok (.iaload, 1) := by decide +kernel
theorem dX12_laysDifference_14 : decode cX12_laysDifference 14 = .ok (.aload_n 0, 1) := by decide +kernel
theorem dX12_laysDifference_15 : decode cX12_laysDifference 15 = .ok (.getfield 17, 3) := by decide +kernel
theorem dX12_laysDifference_18 : decode cX12_laysDifference 18 = .ok (.iload_n 2, 1) := by decide +kernel
theorem dX12_laysDifference_19 : decode cX12_laysDifference 19 = .ok (.iaload, 1) := by decide +kernel
theorem dX12_laysDifference_20 : decode cX12_laysDifference 20 = .ok (.if_icmp .eq 7, 3) := by decide +kernel
theorem dX12_laysDifference_23 : decode cX12_laysDifference 23 = .ok (.iconst 1, 1) := by decide +kernel
theorem dX12_laysDifference_24 : decode cX12_laysDifference 24 = .ok (.goto 4, 3) := by decide +kernel
theorem dX12_laysDifference_27 : decode cX12_laysDifference 27 = .ok (.iconst 0, 1) := by decide +kernel
theorem dX12_laysDifference_28 : decode cX12_laysDifference 28 = .ok (.istore 4, 2) := by decide +kernel
theorem dX12_laysDifference_30 : decode cX12_laysDifference 30 = .ok (.aload_n 0, 1) := by decide +kernel
theorem dX12_laysDifference_31 : decode cX12_laysDifference 31 = .ok (.getfield 180, 3) := by decide +kernel
theorem dX12_laysDifference_34 : decode cX12_laysDifference 34 = .ok (.iconst 3, 1) := by decide +kernel
theorem dX12_laysDifference_35 : decode cX12_laysDifference 35 = .ok (.iconst 0, 1) := by decide +kernel
theorem dX12_laysDifference_36 : decode cX12_laysDifference 36 = .ok (.iastore, 1) := by decide +kernel
theorem dX12_laysDifference_37 : decode cX12_laysDifference 37 = .ok (.iload 4, 2) := by decide +kernel
theorem dX12_laysDifference_39 : decode cX12_laysDifference 39 = .ok (.ifCond .eq 21, 3) := by decide +kernel
theorem dX12_laysDifference_42 : decode cX12_laysDifference 42 = .ok (.aload_n 0, 1) := by decide +kernel
theorem dX12_laysDifference_43 : decode cX12_laysDifference 43 = .ok (.iconst 3, 1) := by decide +kernel
theorem dX12_laysDifference_44 : decode cX12_laysDifference 44 = .ok (.aload_n 0, 1) := by decide +kernel
theorem dX12_laysDifference_45 : decode cX12_laysDifference 45 = .ok (.getfield 17, 3) := by decide +kernel
theorem dX12_laysDifference_48 : decode cX12_laysDifference 48 = .ok (.iload_n 1, 1) := by decide +kernel
theorem dX12_laysDifference_49 : decode cX12_laysDifference 49 = .ok (.iaload, 1) := by decide +kernel
theorem dX12_laysDifference_50 : decode cX12_laysDifference 50 = .ok (.aload_n 0, 1) := by decide +kernel
theorem dX12_laysDifference_51 : decode cX12_laysDifference 51 = .ok (.getfield 17, 3) := by decide +kernel
theorem dX12_laysDifference_54 : decode cX12_laysDifference 54 = .ok (.iload_n 2, 1) := by decide +kernel
theorem dX12_laysDifference_55 : decode cX12_laysDifference 55 = .ok (.iaload, 1) := by decide +kernel
theorem dX12_laysDifference_56 : decode cX12_laysDifference 56 = .ok (.iload_n 3, 1) := by decide +kernel
theorem dX12_laysDifference_57 : decode cX12_laysDifference 57 = .ok (.invokevirtual 230, 3) := by decide +kernel
theorem dX12_laysDifference_60 : decode cX12_laysDifference 60 = .ok (.iconst 0, 1) := by decide +kernel
theorem dX12_laysDifference_61 : decode cX12_laysDifference 61 = .ok (.istore 5, 2) := by decide +kernel
theorem dX12_laysDifference_63 : decode cX12_laysDifference 63 = .ok (.bipush 30, 2) := by decide +kernel
theorem dX12_laysDifference_65 : decode cX12_laysDifference 65 = .ok (.istore 6, 2) := by decide +kernel
theorem dX12_laysDifference_67 : decode cX12_laysDifference 67 = .ok (.iload 6, 2) := by decide +kernel
theorem dX12_laysDifference_69 : decode cX12_laysDifference 69 = .ok (.bipush 30, 2) := by decide +kernel
theorem dX12_laysDifference_71 : decode cX12_laysDifference 71 = .ok (.aload_n 0, 1) := by decide +kernel
theorem dX12_laysDifference_72 : decode cX12_laysDifference 72 = .ok (.getfield 180, 3) := by decide +kernel
theorem dX12_laysDifference_75 : decode cX12_laysDifference 75 = .ok (.iconst 2, 1) := by decide +kernel
theorem dX12_laysDifference_76 : decode cX12_laysDifference 76 = .ok (.iaload, 1) := by decide +kernel
theorem dX12_laysDifference_77 : decode cX12_laysDifference 77 = .ok (.iadd, 1) := by decide +kernel
theorem dX12_laysDifference_78 : decode cX12_laysDifference 78 = .ok (.if_icmp .ge 143, 3) := by decide +kernel
theorem dX12_laysDifference_81 : decode cX12_laysDifference 81 = .ok (.iconst 0, 1) := by decide +kernel
theorem dX12_laysDifference_82 : decode cX12_laysDifference 82 = .ok (.istore 7, 2) := by decide +kernel
theorem dX12_laysDifference_84 : decode cX12_laysDifference 84 = .ok (.bipush 45, 2) := by decide +kernel
theorem dX12_laysDifference_86 : decode cX12_laysDifference 86 = .ok (.istore 8, 2) := by decide +kernel
theorem dX12_laysDifference_88 : decode cX12_laysDifference 88 = .ok (.iload 8, 2) := by decide +kernel
theorem dX12_laysDifference_90 : decode cX12_laysDifference 90 = .ok (.bipush 45, 2) := by decide +kernel
theorem dX12_laysDifference_92 : decode cX12_laysDifference 92 = .ok (.aload_n 0, 1) := by decide +kernel
theorem dX12_laysDifference_93 : decode cX12_laysDifference 93 = .ok (.getfield 180, 3) := by decide +kernel
theorem dX12_laysDifference_96 : decode cX12_laysDifference 96 = .ok (.iconst 3, 1) := by decide +kernel
theorem dX12_laysDifference_97 : decode cX12_laysDifference 97 = .ok (.iaload, 1) := by decide +kernel
theorem dX12_laysDifference_98 : decode cX12_laysDifference 98 = .ok (.iadd, 1) := by decide +kernel
theorem dX12_laysDifference_99 : decode cX12_laysDifference 99 = .ok (.if_icmp .ge 33, 3) := by decide +kernel
theorem dX12_laysDifference_102 : decode cX12_laysDifference 102 = .ok (.iload 7, 2) := by decide +kernel
theorem dX12_laysDifference_104 : decode cX12_laysDifference 104 = .ok (.ifCond .ne 15, 3) := by decide +kernel
theorem dX12_laysDifference_107 : decode cX12_laysDifference 107 = .ok (.aload_n 0, 1) := by decide +kernel
theorem dX12_laysDifference_108 : decode cX12_laysDifference 108 = .ok (.iload 6, 2) := by decide +kernel
theorem dX12_laysDifference_110 : decode cX12_laysDifference 110 = .ok (.iload 8, 2) := by decide +kernel
theorem dX12_laysDifference_112 : decode cX12_laysDifference 112 = .ok (.iload_n 3, 1) := by decide +kernel
theorem dX12_laysDifference_113 : decode cX12_laysDifference 113 = .ok (.invokevirtual 227, 3) := by decide +kernel
theorem dX12_laysDifference_116 : decode cX12_laysDifference 116 = .ok (.ifCond .eq 7, 3) := by decide +kernel
theorem dX12_laysDifference_119 : decode cX12_laysDifference 119 = .ok (.iconst 1, 1) := by decide +kernel
theorem dX12_laysDifference_120 : decode cX12_laysDifference 120 = .ok (.goto 4, 3) := by decide +kernel
theorem dX12_laysDifference_123 : decode cX12_laysDifference 123 = .ok (.iconst 0, 1) := by decide +kernel
theorem dX12_laysDifference_124 : decode cX12_laysDifference 124 = .ok (.istore 7, 2) := by decide +kernel
theorem dX12_laysDifference_126 : decode cX12_laysDifference 126 = .ok (.iinc 8 1, 3) := by decide +kernel
theorem dX12_laysDifference_129 : decode cX12_laysDifference 129 = .ok (.goto (-41), 3) := by decide +kernel
theorem dX12_laysDifference_132 : decode cX12_laysDifference 132 = .ok (.aload_n 0, 1) := by decide +kernel
theorem dX12_laysDifference_133 : decode cX12_laysDifference 133 = .ok (.getfield 162, 3) := by decide +kernel
theorem dX12_laysDifference_136 : decode cX12_laysDifference 136 = .ok (.bipush 30, 2) := by decide +kernel
theorem dX12_laysDifference_138 : decode cX12_laysDifference 138 = .ok (.iload 5, 2) := by decide +kernel
theorem dX12_laysDifference_140 : decode cX12_laysDifference 140 = .ok (.iadd, 1) := by decide +kernel
theorem dX12_laysDifference_141 : decode cX12_laysDifference 141 = .ok (.aload_n 0, 1) := by decide +kernel
theorem dX12_laysDifference_142 : decode cX12_laysDifference 142 = .ok (.getfield 162, 3) := by decide +kernel
theorem dX12_laysDifference_145 : decode cX12_laysDifference 145 = .ok (.iload 6, 2) := by decide +kernel
theorem dX12_laysDifference_147 : decode cX12_laysDifference 147 = .ok (.iaload, 1) := by decide +kernel
theorem dX12_laysDifference_148 : decode cX12_laysDifference 148 = .ok (.iastore, 1) := by decide +kernel
theorem dX12_laysDifference_149 : decode cX12_laysDifference 149 = .ok (.aload_n 0, 1) := by decide +kernel
theorem dX12_laysDifference_150 : decode cX12_laysDifference 150 = .ok (.getfield 165, 3) := by decide +kernel
theorem dX12_laysDifference_153 : decode cX12_laysDifference 153 = .ok (.bipush 30, 2) := by decide +kernel
theorem dX12_laysDifference_155 : decode cX12_laysDifference 155 = .ok (.iload 5, 2) := by decide +kernel
theorem dX12_laysDifference_157 : decode cX12_laysDifference 157 = .ok (.iadd, 1) := by decide +kernel
theorem dX12_laysDifference_158 : decode cX12_laysDifference 158 = .ok (.aload_n 0, 1) := by decide +kernel
theorem dX12_laysDifference_159 : decode cX12_laysDifference 159 = .ok (.getfield 165, 3) := by decide +kernel
theorem dX12_laysDifference_162 : decode cX12_laysDifference 162 = .ok (.iload 6, 2) := by decide +kernel
theorem dX12_laysDifference_164 : decode cX12_laysDifference 164 = .ok (.iaload, 1) := by decide +kernel
theorem dX12_laysDifference_165 : decode cX12_laysDifference 165 = .ok (.iastore, 1) := by decide +kernel
theorem dX12_laysDifference_166 : decode cX12_laysDifference 166 = .ok (.aload_n 0, 1) := by decide +kernel
theorem dX12_laysDifference_167 : decode cX12_laysDifference 167 = .ok (.getfield 168, 3) := by decide +kernel
theorem dX12_laysDifference_170 : decode cX12_laysDifference 170 = .ok (.bipush 30, 2) := by decide +kernel
theorem dX12_laysDifference_172 : decode cX12_laysDifference 172 = .ok (.iload 5, 2) := by decide +kernel
theorem dX12_laysDifference_174 : decode cX12_laysDifference 174 = .ok (.iadd, 1) := by decide +kernel
theorem dX12_laysDifference_175 : decode cX12_laysDifference 175 = .ok (.aload_n 0, 1) := by decide +kernel
theorem dX12_laysDifference_176 : decode cX12_laysDifference 176 = .ok (.getfield 168, 3) := by decide +kernel
theorem dX12_laysDifference_179 : decode cX12_laysDifference 179 = .ok (.iload 6, 2) := by decide +kernel
theorem dX12_laysDifference_181 : decode cX12_laysDifference 181 = .ok (.iaload, 1) := by decide +kernel
theorem dX12_laysDifference_182 : decode cX12_laysDifference 182 = .ok (.iastore, 1) := by decide +kernel
theorem dX12_laysDifference_183 : decode cX12_laysDifference 183 = .ok (.aload_n 0, 1) := by decide +kernel
theorem dX12_laysDifference_184 : decode cX12_laysDifference 184 = .ok (.getfield 171, 3) := by decide +kernel
theorem dX12_laysDifference_187 : decode cX12_laysDifference 187 = .ok (.bipush 30, 2) := by decide +kernel
theorem dX12_laysDifference_189 : decode cX12_laysDifference 189 = .ok (.iload 5, 2) := by decide +kernel
theorem dX12_laysDifference_191 : decode cX12_laysDifference 191 = .ok (.iadd, 1) := by decide +kernel
theorem dX12_laysDifference_192 : decode cX12_laysDifference 192 = .ok (.aload_n 0, 1) := by decide +kernel
theorem dX12_laysDifference_193 : decode cX12_laysDifference 193 = .ok (.getfield 171, 3) := by decide +kernel
theorem dX12_laysDifference_196 : decode cX12_laysDifference 196 = .ok (.iload 6, 2) := by decide +kernel
theorem dX12_laysDifference_198 : decode cX12_laysDifference 198 = .ok (.iaload, 1) := by decide +kernel
theorem dX12_laysDifference_199 : decode cX12_laysDifference 199 = .ok (.iastore, 1) := by decide +kernel
theorem dX12_laysDifference_200 : decode cX12_laysDifference 200 = .ok (.iload 5, 2) := by decide +kernel
theorem dX12_laysDifference_202 : decode cX12_laysDifference 202 = .ok (.iload 7, 2) := by decide +kernel
theorem dX12_laysDifference_204 : decode cX12_laysDifference 204 = .ok (.ifCond .eq 7, 3) := by decide +kernel
theorem dX12_laysDifference_207 : decode cX12_laysDifference 207 = .ok (.iconst 0, 1) := by decide +kernel
theorem dX12_laysDifference_208 : decode cX12_laysDifference 208 = .ok (.goto 4, 3) := by decide +kernel
theorem dX12_laysDifference_211 : decode cX12_laysDifference 211 = .ok (.iconst 1, 1) := by decide +kernel
theorem dX12_laysDifference_212 : decode cX12_laysDifference 212 = .ok (.iadd, 1) := by decide +kernel
theorem dX12_laysDifference_213 : decode cX12_laysDifference 213 = .ok (.istore 5, 2) := by decide +kernel
theorem dX12_laysDifference_215 : decode cX12_laysDifference 215 = .ok (.iinc 6 1, 3) := by decide +kernel
theorem dX12_laysDifference_218 : decode cX12_laysDifference 218 = .ok (.goto (-151), 3) := by decide +kernel
theorem dX12_laysDifference_221 : decode cX12_laysDifference 221 = .ok (.aload_n 0, 1) := by decide +kernel
theorem dX12_laysDifference_222 : decode cX12_laysDifference 222 = .ok (.getfield 180, 3) := by decide +kernel
theorem dX12_laysDifference_225 : decode cX12_laysDifference 225 = .ok (.iconst 2, 1) := by decide +kernel
theorem dX12_laysDifference_226 : decode cX12_laysDifference 226 = .ok (.iload 5, 2) := by decide +kernel
theorem dX12_laysDifference_228 : decode cX12_laysDifference 228 = .ok (.iastore, 1) := by decide +kernel
theorem dX12_laysDifference_229 : decode cX12_laysDifference 229 = .ok (.return_, 1) := by decide +kernel
theorem dX12_stands_0 : decode cX12_stands 0 = .ok (.aload_n 0, 1) := by decide +kernel
theorem dX12_stands_1 : decode cX12_stands 1 = .ok (.aload_n 0, 1) := by decide +kernel
theorem dX12_stands_2 : decode cX12_stands 2 = .ok (.getfield 84, 3) := by decide +kernel
theorem dX12_stands_5 : decode cX12_stands 5 = .ok (.iload_n 1, 1) := by decide +kernel
theorem dX12_stands_6 : decode cX12_stands 6 = .ok (.iaload, 1) := by decide +kernel
theorem dX12_stands_7 : decode cX12_stands 7 = .ok (.aload_n 0, 1) := by decide +kernel
theorem dX12_stands_8 : decode cX12_stands 8 = .ok (.getfield 87, 3) := by decide +kernel
theorem dX12_stands_11 : decode cX12_stands 11 = .ok (.iload_n 1, 1) := by decide +kernel
theorem dX12_stands_12 : decode cX12_stands 12 = .ok (.iaload, 1) := by decide +kernel
theorem dX12_stands_13 : decode cX12_stands 13 = .ok (.invokevirtual 244, 3) := by decide +kernel
theorem dX12_stands_16 : decode cX12_stands 16 = .ok (.istore 4, 2) := by decide +kernel
theorem dX12_stands_18 : decode cX12_stands 18 = .ok (.iload_n 3, 1) := by decide +kernel
theorem dX12_stands_19 : decode cX12_stands 19 = .ok (.aload_n 0, 1) := by decide +kernel
theorem dX12_stands_20 : decode cX12_stands 20 = .ok (.getfield 96, 3) := by decide +kernel
theorem dX12_stands_23 : decode cX12_stands 23 = .ok (.iload_n 1, 1) := by decide +kernel
theorem dX12_stands_24 : decode cX12_stands 24 = .ok (.iaload, 1) := by decide +kernel
theorem dX12_stands_25 : decode cX12_stands 25 = .ok (.iadd, 1) := by decide +kernel
theorem dX12_stands_26 : decode cX12_stands 26 = .ok (.aload_n 0, 1) := by decide +kernel
theorem dX12_stands_27 : decode cX12_stands 27 = .ok (.iload_n 2, 1) := by decide +kernel
theorem dX12_stands_28 : decode cX12_stands 28 = .ok (.aload_n 0, 1) := by decide +kernel
theorem dX12_stands_29 : decode cX12_stands 29 = .ok (.getfield 90, 3) := by decide +kernel
theorem dX12_stands_32 : decode cX12_stands 32 = .ok (.iload_n 1, 1) := by decide +kernel
theorem dX12_stands_33 : decode cX12_stands 33 = .ok (.iaload, 1) := by decide +kernel
theorem dX12_stands_34 : decode cX12_stands 34 = .ok (.invokevirtual 207, 3) := by decide +kernel
theorem dX12_stands_37 : decode cX12_stands 37 = .ok (.if_icmp .gt 7, 3) := by decide +kernel
theorem dX12_stands_40 : decode cX12_stands 40 = .ok (.iconst 1, 1) := by decide +kernel
theorem dX12_stands_41 : decode cX12_stands 41 = .ok (.goto 4, 3) := by decide +kernel
theorem dX12_stands_44 : decode cX12_stands 44 = .ok (.iconst 0, 1) := by decide +kernel
theorem dX12_stands_45 : decode cX12_stands 45 = .ok (.istore 5, 2) := by decide +kernel
theorem dX12_stands_47 : decode cX12_stands 47 = .ok (.iconst 0, 1) := by decide +kernel
theorem dX12_stands_48 : decode cX12_stands 48 = .ok (.istore 6, 2) := by decide +kernel
theorem dX12_stands_50 : decode cX12_stands 50 = .ok (.iload 6, 2) := by decide +kernel
theorem dX12_stands_52 : decode cX12_stands 52 = .ok (.aload_n 0, 1) := by decide +kernel
theorem dX12_stands_53 : decode cX12_stands 53 = .ok (.getfield 96, 3) := by decide +kernel
theorem dX12_stands_56 : decode cX12_stands 56 = .ok (.iload_n 1, 1) := by decide +kernel
theorem dX12_stands_57 : decode cX12_stands 57 = .ok (.iaload, 1) := by decide +kernel
theorem dX12_stands_58 : decode cX12_stands 58 = .ok (.if_icmp .ge 60, 3) := by decide +kernel
theorem dX12_stands_61 : decode cX12_stands 61 = .ok (.iload 5, 2) := by decide +kernel
theorem dX12_stands_63 : decode cX12_stands 63 = .ok (.ifCond .eq 55, 3) := by decide +kernel
theorem dX12_stands_66 : decode cX12_stands 66 = .ok (.aload_n 0, 1) := by decide +kernel
theorem dX12_stands_67 : decode cX12_stands 67 = .ok (.iload 4, 2) := by decide +kernel
theorem dX12_stands_69 : decode cX12_stands 69 = .ok (.aload_n 0, 1) := by decide +kernel
theorem dX12_stands_70 : decode cX12_stands 70 = .ok (.getfield 90, 3) := by decide +kernel
theorem dX12_stands_73 : decode cX12_stands 73 = .ok (.iload_n 1, 1) := by decide +kernel
theorem dX12_stands_74 : decode cX12_stands 74 = .ok (.iaload, 1) := by decide +kernel
theorem dX12_stands_75 : decode cX12_stands 75 = .ok (.aload_n 0, 1) := by decide +kernel
theorem dX12_stands_76 : decode cX12_stands 76 = .ok (.getfield 93, 3) := by decide +kernel
theorem dX12_stands_79 : decode cX12_stands 79 = .ok (.iload_n 1, 1) := by decide +kernel
theorem dX12_stands_80 : decode cX12_stands 80 = .ok (.iaload, 1) := by decide +kernel
theorem dX12_stands_81 : decode cX12_stands 81 = .ok (.iload 6, 2) := by decide +kernel
theorem dX12_stands_83 : decode cX12_stands 83 = .ok (.iadd, 1) := by decide +kernel
theorem dX12_stands_84 : decode cX12_stands 84 = .ok (.invokevirtual 214, 3) := by decide +kernel
theorem dX12_stands_87 : decode cX12_stands 87 = .ok (.aload_n 0, 1) := by decide +kernel
theorem dX12_stands_88 : decode cX12_stands 88 = .ok (.iload_n 2, 1) := by decide +kernel
theorem dX12_stands_89 : decode cX12_stands 89 = .ok (.aload_n 0, 1) := by decide +kernel
theorem dX12_stands_90 : decode cX12_stands 90 = .ok (.getfield 90, 3) := by decide +kernel
theorem dX12_stands_93 : decode cX12_stands 93 = .ok (.iload_n 1, 1) := by decide +kernel
theorem dX12_stands_94 : decode cX12_stands 94 = .ok (.iaload, 1) := by decide +kernel
theorem dX12_stands_95 : decode cX12_stands 95 = .ok (.iload_n 3, 1) := by decide +kernel
theorem dX12_stands_96 : decode cX12_stands 96 = .ok (.iload 6, 2) := by decide +kernel
theorem dX12_stands_98 : decode cX12_stands 98 = .ok (.iadd, 1) := by decide +kernel
theorem dX12_stands_99 : decode cX12_stands 99 = .ok (.invokevirtual 214, 3) := by decide +kernel
theorem dX12_stands_102 : decode cX12_stands 102 = .ok (.if_icmp .ne 7, 3) := by decide +kernel
theorem dX12_stands_105 : decode cX12_stands 105 = .ok (.iconst 1, 1) := by decide +kernel
theorem dX12_stands_106 : decode cX12_stands 106 = .ok (.goto 4, 3) := by decide +kernel
theorem dX12_stands_109 : decode cX12_stands 109 = .ok (.iconst 0, 1) := by decide +kernel
theorem dX12_stands_110 : decode cX12_stands 110 = .ok (.istore 5, 2) := by decide +kernel
theorem dX12_stands_112 : decode cX12_stands 112 = .ok (.iinc 6 1, 3) := by decide +kernel
theorem dX12_stands_115 : decode cX12_stands 115 = .ok (.goto (-65), 3) := by decide +kernel
theorem dX12_stands_118 : decode cX12_stands 118 = .ok (.iload 5, 2) := by decide +kernel
theorem dX12_stands_120 : decode cX12_stands 120 = .ok (.ireturn, 1) := by decide +kernel
theorem dX12_found_0 : decode cX12_found 0 = .ok (.iconst 0, 1) := by decide +kernel
theorem dX12_found_1 : decode cX12_found 1 = .ok (.istore_n 3, 1) := by decide +kernel
theorem dX12_found_2 : decode cX12_found 2 = .ok (.iconst 0, 1) := by decide +kernel
theorem dX12_found_3 : decode cX12_found 3 = .ok (.istore 4, 2) := by decide +kernel
theorem dX12_found_5 : decode cX12_found 5 = .ok (.iconst 0, 1) := by decide +kernel
theorem dX12_found_6 : decode cX12_found 6 = .ok (.istore 5, 2) := by decide +kernel
theorem dX12_found_8 : decode cX12_found 8 = .ok (.iload 5, 2) := by decide +kernel
theorem dX12_found_10 : decode cX12_found 10 = .ok (.bipush 10, 2) := by decide +kernel
theorem dX12_found_12 : decode cX12_found 12 = .ok (.if_icmp .ge 57, 3) := by decide +kernel
theorem dX12_found_15 : decode cX12_found 15 = .ok (.aload_n 0, 1) := by decide +kernel
theorem dX12_found_16 : decode cX12_found 16 = .ok (.iload_n 1, 1) := by decide +kernel
theorem dX12_found_17 : decode cX12_found 17 = .ok (.iload_n 2, 1) := by decide +kernel
theorem dX12_found_18 : decode cX12_found 18 = .ok (.iload 5, 2) := by decide +kernel
theorem dX12_found_20 : decode cX12_found 20 = .ok (.invokevirtual 326, 3) := by decide +kernel
theorem dX12_found_23 : decode cX12_found 23 = .ok (.istore 6, 2) := by decide +kernel
theorem dX12_found_25 : decode cX12_found 25 = .ok (.iload_n 3, 1) := by decide +kernel
theorem dX12_found_26 : decode cX12_found 26 = .ok (.iload 6, 2) := by decide +kernel
theorem dX12_found_28 : decode cX12_found 28 = .ok (.ifCond .eq 7, 3) := by decide +kernel
theorem dX12_found_31 : decode cX12_found 31 = .ok (.iconst 1, 1) := by decide +kernel
theorem dX12_found_32 : decode cX12_found 32 = .ok (.goto 4, 3) := by decide +kernel
theorem dX12_found_35 : decode cX12_found 35 = .ok (.iconst 0, 1) := by decide +kernel
theorem dX12_found_36 : decode cX12_found 36 = .ok (.iadd, 1) := by decide +kernel
theorem dX12_found_37 : decode cX12_found 37 = .ok (.istore_n 3, 1) := by decide +kernel
theorem dX12_found_38 : decode cX12_found 38 = .ok (.iload 6, 2) := by decide +kernel
theorem dX12_found_40 : decode cX12_found 40 = .ok (.ifCond .eq 19, 3) := by decide +kernel
theorem dX12_found_43 : decode cX12_found 43 = .ok (.iconst 1, 1) := by decide +kernel
theorem dX12_found_44 : decode cX12_found 44 = .ok (.aload_n 0, 1) := by decide +kernel
theorem dX12_found_45 : decode cX12_found 45 = .ok (.getfield 96, 3) := by decide +kernel
theorem dX12_found_48 : decode cX12_found 48 = .ok (.iload_n 1, 1) := by decide +kernel
theorem dX12_found_49 : decode cX12_found 49 = .ok (.iaload, 1) := by decide +kernel
theorem dX12_found_50 : decode cX12_found 50 = .ok (.ishl, 1) := by decide +kernel
theorem dX12_found_51 : decode cX12_found 51 = .ok (.iconst 1, 1) := by decide +kernel
theorem dX12_found_52 : decode cX12_found 52 = .ok (.isub, 1) := by decide +kernel
theorem dX12_found_53 : decode cX12_found 53 = .ok (.iload 5, 2) := by decide +kernel
theorem dX12_found_55 : decode cX12_found 55 = .ok (.ishl, 1) := by decide +kernel
theorem dX12_found_56 : decode cX12_found 56 = .ok (.goto 5, 3) := by decide +kernel
theorem dX12_found_59 : decode cX12_found 59 = .ok (.iload 4, 2) := by decide +kernel
theorem dX12_found_61 : decode cX12_found 61 = .ok (.istore 4, 2) := by decide +kernel
theorem dX12_found_63 : decode cX12_found 63 = .ok (.iinc 5 1, 3) := by decide +kernel
theorem dX12_found_66 : decode cX12_found 66 = .ok (.goto (-58), 3) := by decide +kernel
theorem dX12_found_69 : decode cX12_found 69 = .ok (.iload_n 3, 1) := by decide +kernel
theorem dX12_found_70 : decode cX12_found 70 = .ok (.iconst 1, 1) := by decide +kernel
theorem dX12_found_71 : decode cX12_found 71 = .ok (.if_icmp .ne 8, 3) := by decide +kernel
theorem dX12_found_74 : decode cX12_found 74 = .ok (.iload 4, 2) := by decide +kernel
theorem dX12_found_76 : decode cX12_found 76 = .ok (.goto 4, 3) := by decide +kernel
theorem dX12_found_79 : decode cX12_found 79 = .ok (.iconst 0, 1) := by decide +kernel
theorem dX12_found_80 : decode cX12_found 80 = .ok (.ireturn, 1) := by decide +kernel
theorem dX12_shownIn_0 : decode cX12_shownIn 0 = .ok (.iconst 1, 1) := by decide +kernel
theorem dX12_shownIn_1 : decode cX12_shownIn 1 = .ok (.aload_n 0, 1) := by decide +kernel
theorem dX12_shownIn_2 : decode cX12_shownIn 2 = .ok (.getfield 96, 3) := by decide +kernel
theorem dX12_shownIn_5 : decode cX12_shownIn 5 = .ok (.iload_n 1, 1) := by decide +kernel
theorem dX12_shownIn_6 : decode cX12_shownIn 6 = .ok (.iaload, 1) := by decide +kernel
theorem dX12_shownIn_7 : decode cX12_shownIn 7 = .ok (.ishl, 1) := by decide +kernel
theorem dX12_shownIn_8 : decode cX12_shownIn 8 = .ok (.iconst 1, 1) := by decide +kernel
theorem dX12_shownIn_9 : decode cX12_shownIn 9 = .ok (.isub, 1) := by decide +kernel
theorem dX12_shownIn_10 : decode cX12_shownIn 10 = .ok (.aload_n 0, 1) := by decide +kernel
theorem dX12_shownIn_11 : decode cX12_shownIn 11 = .ok (.getfield 93, 3) := by decide +kernel
theorem dX12_shownIn_14 : decode cX12_shownIn 14 = .ok (.iload_n 1, 1) := by decide +kernel
theorem dX12_shownIn_15 : decode cX12_shownIn 15 = .ok (.iaload, 1) := by decide +kernel
theorem dX12_shownIn_16 : decode cX12_shownIn 16 = .ok (.ishl, 1) := by decide +kernel
theorem dX12_shownIn_17 : decode cX12_shownIn 17 = .ok (.istore_n 3, 1) := by decide +kernel
theorem dX12_shownIn_18 : decode cX12_shownIn 18 = .ok (.aload_n 0, 1) := by decide +kernel
theorem dX12_shownIn_19 : decode cX12_shownIn 19 = .ok (.getfield 87, 3) := by decide +kernel
theorem dX12_shownIn_22 : decode cX12_shownIn 22 = .ok (.iload_n 1, 1) := by decide +kernel
theorem dX12_shownIn_23 : decode cX12_shownIn 23 = .ok (.iaload, 1) := by decide +kernel
theorem dX12_shownIn_24 : decode cX12_shownIn 24 = .ok (.istore 4, 2) := by decide +kernel
theorem dX12_shownIn_26 : decode cX12_shownIn 26 = .ok (.iload 4, 2) := by decide +kernel
theorem dX12_shownIn_28 : decode cX12_shownIn 28 = .ok (.iload_n 2, 1) := by decide +kernel
theorem dX12_shownIn_29 : decode cX12_shownIn 29 = .ok (.if_icmp .ge 124, 3) := by decide +kernel
theorem dX12_shownIn_32 : decode cX12_shownIn 32 = .ok (.aload_n 0, 1) := by decide +kernel
theorem dX12_shownIn_33 : decode cX12_shownIn 33 = .ok (.aload_n 0, 1) := by decide +kernel
theorem dX12_shownIn_34 : decode cX12_shownIn 34 = .ok (.getfield 84, 3) := by decide +kernel
theorem dX12_shownIn_37 : decode cX12_shownIn 37 = .ok (.iload_n 1, 1) := by decide +kernel
theorem dX12_shownIn_38 : decode cX12_shownIn 38 = .ok (.iaload, 1) := by decide +kernel
theorem dX12_shownIn_39 : decode cX12_shownIn 39 = .ok (.iload 4, 2) := by decide +kernel
theorem dX12_shownIn_41 : decode cX12_shownIn 41 = .ok (.iconst 1, 1) := by decide +kernel
theorem dX12_shownIn_42 : decode cX12_shownIn 42 = .ok (.iadd, 1) := by decide +kernel
theorem dX12_shownIn_43 : decode cX12_shownIn 43 = .ok (.invokevirtual 244, 3) := by decide +kernel
theorem dX12_shownIn_46 : decode cX12_shownIn 46 = .ok (.istore 5, 2) := by decide +kernel
theorem dX12_shownIn_48 : decode cX12_shownIn 48 = .ok (.aload_n 0, 1) := by decide +kernel
theorem dX12_shownIn_49 : decode cX12_shownIn 49 = .ok (.aload_n 0, 1) := by decide +kernel
theorem dX12_shownIn_50 : decode cX12_shownIn 50 = .ok (.aload_n 0, 1) := by decide +kernel
theorem dX12_shownIn_51 : decode cX12_shownIn 51 = .ok (.getfield 84, 3) := by decide +kernel
theorem dX12_shownIn_54 : decode cX12_shownIn 54 = .ok (.iload_n 1, 1) := by decide +kernel
theorem dX12_shownIn_55 : decode cX12_shownIn 55 = .ok (.iaload, 1) := by decide +kernel
theorem dX12_shownIn_56 : decode cX12_shownIn 56 = .ok (.iload 4, 2) := by decide +kernel
theorem dX12_shownIn_58 : decode cX12_shownIn 58 = .ok (.invokevirtual 244, 3) := by decide +kernel
theorem dX12_shownIn_61 : decode cX12_shownIn 61 = .ok (.iload 5, 2) := by decide +kernel
theorem dX12_shownIn_63 : decode cX12_shownIn 63 = .ok (.aload_n 0, 1) := by decide +kernel
theorem dX12_shownIn_64 : decode cX12_shownIn 64 = .ok (.getfield 90, 3) := by decide +kernel
theorem dX12_shownIn_67 : decode cX12_shownIn 67 = .ok (.iload_n 1, 1) := by decide +kernel
theorem dX12_shownIn_68 : decode cX12_shownIn 68 = .ok (.iaload, 1) := by decide +kernel
theorem dX12_shownIn_69 : decode cX12_shownIn 69 = .ok (.invokevirtual 222, 3) := by decide +kernel
theorem dX12_shownIn_72 : decode cX12_shownIn 72 = .ok (.iconst 0, 1) := by decide +kernel
theorem dX12_shownIn_73 : decode cX12_shownIn 73 = .ok (.istore 6, 2) := by decide +kernel
theorem dX12_shownIn_75 : decode cX12_shownIn 75 = .ok (.iconst 0, 1) := by decide +kernel
theorem dX12_shownIn_76 : decode cX12_shownIn 76 = .ok (.istore 7, 2) := by decide +kernel
theorem dX12_shownIn_78 : decode cX12_shownIn 78 = .ok (.iload 7, 2) := by decide +kernel
theorem dX12_shownIn_80 : decode cX12_shownIn 80 = .ok (.bipush 10, 2) := by decide +kernel
theorem dX12_shownIn_82 : decode cX12_shownIn 82 = .ok (.if_icmp .ge 47, 3) := by decide +kernel
theorem dX12_shownIn_85 : decode cX12_shownIn 85 = .ok (.iload 6, 2) := by decide +kernel
theorem dX12_shownIn_87 : decode cX12_shownIn 87 = .ok (.iload_n 3, 1) := by decide +kernel
theorem dX12_shownIn_88 : decode cX12_shownIn 88 = .ok (.iload 7, 2) := by decide +kernel
theorem dX12_shownIn_90 : decode cX12_shownIn 90 = .ok (.invokestatic 329, 3) := by decide +kernel
theorem dX12_shownIn_93 : decode cX12_shownIn 93 = .ok (.ifCond .eq 26, 3) := by decide +kernel
theorem dX12_shownIn_96 : decode cX12_shownIn 96 = .ok (.aload_n 0, 1) := by decide +kernel
theorem dX12_shownIn_97 : decode cX12_shownIn 97 = .ok (.getfield 159, 3) := by decide +kernel
theorem dX12_shownIn_100 : decode cX12_shownIn 100 = .ok (.iload 7, 2) := by decide +kernel
theorem dX12_shownIn_102 : decode cX12_shownIn 102 = .ok (.iaload, 1) := by decide +kernel
theorem dX12_shownIn_103 : decode cX12_shownIn 103 = .ok (.iconst (-1), 1) := by decide +kernel
theorem dX12_shownIn_104 : decode cX12_shownIn 104 = .ok (.if_icmp .eq 15, 3) := by decide +kernel
theorem dX12_shownIn_107 : decode cX12_shownIn 107 = .ok (.iconst 1, 1) := by decide +kernel
theorem dX12_shownIn_108 : decode cX12_shownIn 108 = .ok (.aload_n 0, 1) := by decide +kernel
theorem dX12_shownIn_109 : decode cX12_shownIn 109 = .ok (.getfield 159, 3) := by decide +kernel
theorem dX12_shownIn_112 : decode cX12_shownIn 112 = .ok (.iload 7, 2) := by decide +kernel
theorem dX12_shownIn_114 : decode cX12_shownIn 114 = .ok (.iaload, 1) := by decide +kernel
theorem dX12_shownIn_115 : decode cX12_shownIn 115 = .ok (.ishl, 1) := by decide +kernel
theorem dX12_shownIn_116 : decode cX12_shownIn 116 = .ok (.goto 4, 3) := by decide +kernel
theorem dX12_shownIn_119 : decode cX12_shownIn 119 = .ok (.iconst 0, 1) := by decide +kernel
theorem dX12_shownIn_120 : decode cX12_shownIn 120 = .ok (.ior, 1) := by decide +kernel
theorem dX12_shownIn_121 : decode cX12_shownIn 121 = .ok (.istore 6, 2) := by decide +kernel
theorem dX12_shownIn_123 : decode cX12_shownIn 123 = .ok (.iinc 7 1, 3) := by decide +kernel
theorem dX12_shownIn_126 : decode cX12_shownIn 126 = .ok (.goto (-48), 3) := by decide +kernel
theorem dX12_shownIn_129 : decode cX12_shownIn 129 = .ok (.iload 6, 2) := by decide +kernel
theorem dX12_shownIn_131 : decode cX12_shownIn 131 = .ok (.ifCond .ne 13, 3) := by decide +kernel
theorem dX12_shownIn_134 : decode cX12_shownIn 134 = .ok (.aload_n 0, 1) := by decide +kernel
theorem dX12_shownIn_135 : decode cX12_shownIn 135 = .ok (.iload_n 1, 1) := by decide +kernel
theorem dX12_shownIn_136 : decode cX12_shownIn 136 = .ok (.iload 5, 2) := by decide +kernel
theorem dX12_shownIn_138 : decode cX12_shownIn 138 = .ok (.invokevirtual 332, 3) := by decide +kernel
theorem dX12_shownIn_141 : decode cX12_shownIn 141 = .ok (.goto 5, 3) := by decide +kernel
theorem dX12_shownIn_144 : decode cX12_shownIn 144 = .ok (.iload 6, 2) := by decide +kernel
theorem dX12_shownIn_146 : decode cX12_shownIn 146 = .ok (.istore_n 3, 1) := by decide +kernel
theorem dX12_shownIn_147 : decode cX12_shownIn 147 = .ok (.iinc 4 1, 3) := by decide +kernel
theorem dX12_shownIn_150 : decode cX12_shownIn 150 = .ok (.goto (-124), 3) := by decide +kernel
theorem dX12_shownIn_153 : decode cX12_shownIn 153 = .ok (.iload_n 2, 1) := by decide +kernel
theorem dX12_shownIn_154 : decode cX12_shownIn 154 = .ok (.aload_n 0, 1) := by decide +kernel
theorem dX12_shownIn_155 : decode cX12_shownIn 155 = .ok (.getfield 87, 3) := by decide +kernel
theorem dX12_shownIn_158 : decode cX12_shownIn 158 = .ok (.iload_n 1, 1) := by decide +kernel
theorem dX12_shownIn_159 : decode cX12_shownIn 159 = .ok (.iaload, 1) := by decide +kernel
theorem dX12_shownIn_160 : decode cX12_shownIn 160 = .ok (.if_icmp .ge 7, 3) := by decide +kernel
theorem dX12_shownIn_163 : decode cX12_shownIn 163 = .ok (.iconst 0, 1) := by decide +kernel
theorem dX12_shownIn_164 : decode cX12_shownIn 164 = .ok (.goto 4, 3) := by decide +kernel
theorem dX12_shownIn_167 : decode cX12_shownIn 167 = .ok (.iload_n 3, 1) := by decide +kernel
theorem dX12_shownIn_168 : decode cX12_shownIn 168 = .ok (.ireturn, 1) := by decide +kernel
theorem dX12_findingAt_0 : decode cX12_findingAt 0 = .ok (.iconst (-1), 1) := by decide +kernel
theorem dX12_findingAt_1 : decode cX12_findingAt 1 = .ok (.istore_n 3, 1) := by decide +kernel
theorem dX12_findingAt_2 : decode cX12_findingAt 2 = .ok (.iconst 0, 1) := by decide +kernel
theorem dX12_findingAt_3 : decode cX12_findingAt 3 = .ok (.istore 4, 2) := by decide +kernel
theorem dX12_findingAt_5 : decode cX12_findingAt 5 = .ok (.iconst 0, 1) := by decide +kernel
theorem dX12_findingAt_6 : decode cX12_findingAt 6 = .ok (.istore 5, 2) := by decide +kernel
theorem dX12_findingAt_8 : decode cX12_findingAt 8 = .ok (.iload 5, 2) := by decide +kernel
theorem dX12_findingAt_10 : decode cX12_findingAt 10 = .ok (.aload_n 0, 1) := by decide +kernel
theorem dX12_findingAt_11 : decode cX12_findingAt 11 = .ok (.getfield 335, 3) := by decide +kernel
theorem dX12_findingAt_14 : decode cX12_findingAt 14 = .ok (.if_icmp .ge 78, 3) := by decide +kernel
theorem dX12_findingAt_17 : decode cX12_findingAt 17 = .ok (.aload_n 0, 1) := by decide +kernel
theorem dX12_findingAt_18 : decode cX12_findingAt 18 = .ok (.getfield 108, 3) := by decide +kernel
theorem dX12_findingAt_21 : decode cX12_findingAt 21 = .ok (.iload 5, 2) := by decide +kernel
theorem dX12_findingAt_23 : decode cX12_findingAt 23 = .ok (.iaload, 1) := by decide +kernel
theorem dX12_findingAt_24 : decode cX12_findingAt 24 = .ok (.iload_n 1, 1) := by decide +kernel
theorem dX12_findingAt_25 : decode cX12_findingAt 25 = .ok (.if_icmp .ne 25, 3) := by decide +kernel
theorem dX12_findingAt_28 : decode cX12_findingAt 28 = .ok (.aload_n 0, 1) := by decide +kernel
theorem dX12_findingAt_29 : decode cX12_findingAt 29 = .ok (.getfield 111, 3) := by decide +kernel
theorem dX12_findingAt_32 : decode cX12_findingAt 32 = .ok (.iload 5, 2) := by decide +kernel
theorem dX12_findingAt_34 : decode cX12_findingAt 34 = .ok (.iaload, 1) := by decide +kernel
theorem dX12_findingAt_35 : decode cX12_findingAt 35 = .ok (.aload_n 0, 1) := by decide +kernel
theorem dX12_findingAt_36 : decode cX12_findingAt 36 = .ok (.getfield 50, 3) := by decide +kernel
theorem dX12_findingAt_39 : decode cX12_findingAt 39 = .ok (.iload_n 1, 1) := by decide +kernel
theorem dX12_findingAt_40 : decode cX12_findingAt 40 = .ok (.iaload, 1) := by decide +kernel
theorem dX12_findingAt_41 : decode cX12_findingAt 41 = .ok (.iconst 1, 1) := by decide +kernel
theorem dX12_findingAt_42 : decode cX12_findingAt 42 = .ok (.isub, 1) := by decide +kernel
theorem dX12_findingAt_43 : decode cX12_findingAt 43 = .ok (.if_icmp .ne 7, 3) := by decide +kernel
theorem dX12_findingAt_46 : decode cX12_findingAt 46 = .ok (.iconst 1, 1) := by decide +kernel
theorem dX12_findingAt_47 : decode cX12_findingAt 47 = .ok (.goto 4, 3) := by decide +kernel
theorem dX12_findingAt_50 : decode cX12_findingAt 50 = .ok (.iconst 0, 1) := by decide +kernel
theorem dX12_findingAt_51 : decode cX12_findingAt 51 = .ok (.istore 6, 2) := by decide +kernel
theorem dX12_findingAt_53 : decode cX12_findingAt 53 = .ok (.iload 6, 2) := by decide +kernel
theorem dX12_findingAt_55 : decode cX12_findingAt 55 = .ok (.ifCond .eq 14, 3) := by decide +kernel
theorem dX12_findingAt_58 : decode cX12_findingAt 58 = .ok (.iload 4, 2) := by decide +kernel
theorem dX12_findingAt_60 : decode cX12_findingAt 60 = .ok (.iload_n 2, 1) := by decide +kernel
theorem dX12_findingAt_61 : decode cX12_findingAt 61 = .ok (.if_icmp .ne 8, 3) := by decide +kernel
theorem dX12_findingAt_64 : decode cX12_findingAt 64 = .ok (.iload 5, 2) := by decide +kernel
theorem dX12_findingAt_66 : decode cX12_findingAt 66 = .ok (.goto 4, 3) := by decide +kernel
theorem dX12_findingAt_69 : decode cX12_findingAt 69 = .ok (.iload_n 3, 1) := by decide +kernel
theorem dX12_findingAt_70 : decode cX12_findingAt 70 = .ok (.istore_n 3, 1) := by decide +kernel
theorem dX12_findingAt_71 : decode cX12_findingAt 71 = .ok (.iload 4, 2) := by decide +kernel
theorem dX12_findingAt_73 : decode cX12_findingAt 73 = .ok (.iload 6, 2) := by decide +kernel
theorem dX12_findingAt_75 : decode cX12_findingAt 75 = .ok (.ifCond .eq 7, 3) := by decide +kernel
theorem dX12_findingAt_78 : decode cX12_findingAt 78 = .ok (.iconst 1, 1) := by decide +kernel
theorem dX12_findingAt_79 : decode cX12_findingAt 79 = .ok (.goto 4, 3) := by decide +kernel
theorem dX12_findingAt_82 : decode cX12_findingAt 82 = .ok (.iconst 0, 1) := by decide +kernel
theorem dX12_findingAt_83 : decode cX12_findingAt 83 = .ok (.iadd, 1) := by decide +kernel
theorem dX12_findingAt_84 : decode cX12_findingAt 84 = .ok (.istore 4, 2) := by decide +kernel
theorem dX12_findingAt_86 : decode cX12_findingAt 86 = .ok (.iinc 5 1, 3) := by decide +kernel
theorem dX12_findingAt_89 : decode cX12_findingAt 89 = .ok (.goto (-81), 3) := by decide +kernel
theorem dX12_findingAt_92 : decode cX12_findingAt 92 = .ok (.iload_n 3, 1) := by decide +kernel
theorem dX12_findingAt_93 : decode cX12_findingAt 93 = .ok (.ireturn, 1) := by decide +kernel
theorem dX12_isTaken_0 : decode cX12_isTaken 0 = .ok (.iload_n 2, 1) := by decide +kernel
theorem dX12_isTaken_1 : decode cX12_isTaken 1 = .ok (.bipush 31, 2) := by decide +kernel
theorem dX12_isTaken_3 : decode cX12_isTaken 3 = .ok (.if_icmp .ge 16, 3) := by decide +kernel
theorem dX12_isTaken_6 : decode cX12_isTaken 6 = .ok (.iload_n 1, 1) := by decide +kernel
theorem dX12_isTaken_7 : decode cX12_isTaken 7 = .ok (.iload_n 2, 1) := by decide +kernel
theorem dX12_isTaken_8 : decode cX12_isTaken 8 = .ok (.ishr, 1) := by decide +kernel
theorem dX12_isTaken_9 : decode cX12_isTaken 9 = .ok (.iconst 1, 1) := by decide +kernel
theorem dX12_isTaken_10 : decode cX12_isTaken 10 = .ok (.iand, 1) := by decide +kernel
theorem dX12_isTaken_11 : decode cX12_isTaken 11 = .ok (.iconst 1, 1) := by decide +kernel
theorem dX12_isTaken_12 : decode cX12_isTaken 12 = .ok (.if_icmp .ne 7, 3) := by decide +kernel
theorem dX12_isTaken_15 : decode cX12_isTaken 15 = .ok (.iconst 1, 1) := by decide +kernel
theorem dX12_isTaken_16 : decode cX12_isTaken 16 = .ok (.goto 4, 3) := by decide +kernel
theorem dX12_isTaken_19 : decode cX12_isTaken 19 = .ok (.iconst 0, 1) := by decide +kernel
theorem dX12_isTaken_20 : decode cX12_isTaken 20 = .ok (.ireturn, 1) := by decide +kernel
theorem dX12_areApart_0 : decode cX12_areApart 0 = .ok (.aload_n 0, 1) := by decide +kernel
theorem dX12_areApart_1 : decode cX12_areApart 1 = .ok (.getfield 117, 3) := by decide +kernel
theorem dX12_areApart_4 : decode cX12_areApart 4 = .ok (.iload_n 1, 1) := by decide +kernel
theorem dX12_areApart_5 : decode cX12_areApart 5 = .ok (.iaload, 1) := by decide +kernel
theorem dX12_areApart_6 : decode cX12_areApart 6 = .ok (.aload_n 0, 1) := by decide +kernel
theorem dX12_areApart_7 : decode cX12_areApart 7 = .ok (.getfield 117, 3) := by decide +kernel
theorem dX12_areApart_10 : decode cX12_areApart 10 = .ok (.iload_n 2, 1) := by decide +kernel
theorem dX12_areApart_11 : decode cX12_areApart 11 = .ok (.iaload, 1) := by decide +kernel
theorem dX12_areApart_12 : decode cX12_areApart 12 = .ok (.aload_n 0, 1) := by decide +kernel
theorem dX12_areApart_13 : decode cX12_areApart 13 = .ok (.getfield 120, 3) := by decide +kernel
theorem dX12_areApart_16 : decode cX12_areApart 16 = .ok (.iload_n 2, 1) := by decide +kernel
theorem dX12_areApart_17 : decode cX12_areApart 17 = .ok (.iaload, 1) := by decide +kernel
theorem dX12_areApart_18 : decode cX12_areApart 18 = .ok (.iadd, 1) := by decide +kernel
theorem dX12_areApart_19 : decode cX12_areApart 19 = .ok (.if_icmp .gt 29, 3) := by decide +kernel
theorem dX12_areApart_22 : decode cX12_areApart 22 = .ok (.aload_n 0, 1) := by decide +kernel
theorem dX12_areApart_23 : decode cX12_areApart 23 = .ok (.getfield 117, 3) := by decide +kernel
theorem dX12_areApart_26 : decode cX12_areApart 26 = .ok (.iload_n 2, 1) := by decide +kernel
theorem dX12_areApart_27 : decode cX12_areApart 27 = .ok (.iaload, 1) := by decide +kernel
theorem dX12_areApart_28 : decode cX12_areApart 28 = .ok (.aload_n 0, 1) := by decide +kernel
theorem dX12_areApart_29 : decode cX12_areApart 29 = .ok (.getfield 117, 3) := by decide +kernel
theorem dX12_areApart_32 : decode cX12_areApart 32 = .ok (.iload_n 1, 1) := by decide +kernel
theorem dX12_areApart_33 : decode cX12_areApart 33 = .ok (.iaload, 1) := by decide +kernel
theorem dX12_areApart_34 : decode cX12_areApart 34 = .ok (.aload_n 0, 1) := by decide +kernel
theorem dX12_areApart_35 : decode cX12_areApart 35 = .ok (.getfield 120, 3) := by decide +kernel
theorem dX12_areApart_38 : decode cX12_areApart 38 = .ok (.iload_n 1, 1) := by decide +kernel
theorem dX12_areApart_39 : decode cX12_areApart 39 = .ok (.iaload, 1) := by decide +kernel
theorem dX12_areApart_40 : decode cX12_areApart 40 = .ok (.iadd, 1) := by decide +kernel
theorem dX12_areApart_41 : decode cX12_areApart 41 = .ok (.if_icmp .gt 7, 3) := by decide +kernel
theorem dX12_areApart_44 : decode cX12_areApart 44 = .ok (.iconst 1, 1) := by decide +kernel
theorem dX12_areApart_45 : decode cX12_areApart 45 = .ok (.goto 4, 3) := by decide +kernel
theorem dX12_areApart_48 : decode cX12_areApart 48 = .ok (.iconst 0, 1) := by decide +kernel
theorem dX12_areApart_49 : decode cX12_areApart 49 = .ok (.istore_n 3, 1) := by decide +kernel
theorem dX12_areApart_50 : decode cX12_areApart 50 = .ok (.aload_n 0, 1) := by decide +kernel
theorem dX12_areApart_51 : decode cX12_areApart 51 = .ok (.getfield 114, 3) := by decide +kernel
theorem dX12_areApart_54 : decode cX12_areApart 54 = .ok (.iload_n 1, 1) := by decide +kernel
theorem dX12_areApart_55 : decode cX12_areApart 55 = .ok (.iaload, 1) := by decide +kernel
theorem dX12_areApart_56 : decode cX12_areApart 56 = .ok (.aload_n 0, 1) := by decide +kernel
theorem dX12_areApart_57 : decode cX12_areApart 57 = .ok (.getfield 114, 3) := by decide +kernel
theorem dX12_areApart_60 : decode cX12_areApart 60 = .ok (.iload_n 2, 1) := by decide +kernel
theorem dX12_areApart_61 : decode cX12_areApart 61 = .ok (.iaload, 1) := by decide +kernel
theorem dX12_areApart_62 : decode cX12_areApart 62 = .ok (.if_icmp .ne 7, 3) := by decide +kernel
theorem dX12_areApart_65 : decode cX12_areApart 65 = .ok (.iload_n 3, 1) := by decide +kernel
theorem dX12_areApart_66 : decode cX12_areApart 66 = .ok (.ifCond .ne 7, 3) := by decide +kernel
theorem dX12_areApart_69 : decode cX12_areApart 69 = .ok (.iconst 1, 1) := by decide +kernel
theorem dX12_areApart_70 : decode cX12_areApart 70 = .ok (.goto 4, 3) := by decide +kernel
theorem dX12_areApart_73 : decode cX12_areApart 73 = .ok (.iconst 0, 1) := by decide +kernel
theorem dX12_areApart_74 : decode cX12_areApart 74 = .ok (.ireturn, 1) := by decide +kernel
theorem dX12_areAllApart_0 : decode cX12_areAllApart 0 = .ok (.iconst 1, 1) := by decide +kernel
theorem dX12_areAllApart_1 : decode cX12_areAllApart 1 = .ok (.istore_n 3, 1) := by decide +kernel
theorem dX12_areAllApart_2 : decode cX12_areAllApart 2 = .ok (.iconst 0, 1) := by decide +kernel
theorem dX12_areAllApart_3 : decode cX12_areAllApart 3 = .ok (.istore 4, 2) := by decide +kernel
theorem dX12_areAllApart_5 : decode cX12_areAllApart 5 = .ok (.iload 4, 2) := by decide +kernel
theorem dX12_areAllApart_7 : decode cX12_areAllApart 7 = .ok (.bipush 31, 2) := by decide +kernel
theorem dX12_areAllApart_9 : decode cX12_areAllApart 9 = .ok (.if_icmp .ge 76, 3) := by decide +kernel
theorem dX12_areAllApart_12 : decode cX12_areAllApart 12 = .ok (.iconst 0, 1) := by decide +kernel
theorem dX12_areAllApart_13 : decode cX12_areAllApart 13 = .ok (.istore 5, 2) := by decide +kernel
theorem dX12_areAllApart_15 : decode cX12_areAllApart 15 = .ok (.iload 5, 2) := by decide +kernel
theorem dX12_areAllApart_17 : decode cX12_areAllApart 17 = .ok (.iload 4, 2) := by decide +kernel
theorem dX12_areAllApart_19 : decode cX12_areAllApart 19 = .ok (.if_icmp .ge 60, 3) := by decide +kernel
theorem dX12_areAllApart_22 : decode cX12_areAllApart 22 = .ok (.iload_n 3, 1) := by decide +kernel
theorem dX12_areAllApart_23 : decode cX12_areAllApart 23 = .ok (.ifCond .eq 48, 3) := by decide +kernel
theorem dX12_areAllApart_26 : decode cX12_areAllApart 26 = .ok (.aload_n 0, 1) := by decide +kernel
theorem dX12_areAllApart_27 : decode cX12_areAllApart 27 = .ok (.iload_n 2, 1) := by decide +kernel
theorem dX12_areAllApart_28 : decode cX12_areAllApart 28 = .ok (.iload 4, 2) := by decide +kernel
theorem dX12_areAllApart_30 : decode cX12_areAllApart 30 = .ok (.invokevirtual 338, 3) := by decide +kernel
theorem dX12_areAllApart_33 : decode cX12_areAllApart 33 = .ok (.ifCond .eq 34, 3) := by decide +kernel
theorem dX12_areAllApart_36 : decode cX12_areAllApart 36 = .ok (.aload_n 0, 1) := by decide +kernel
theorem dX12_areAllApart_37 : decode cX12_areAllApart 37 = .ok (.iload_n 2, 1) := by decide +kernel
theorem dX12_areAllApart_38 : decode cX12_areAllApart 38 = .ok (.iload 5, 2) := by decide +kernel
theorem dX12_areAllApart_40 : decode cX12_areAllApart 40 = .ok (.invokevirtual 338, 3) := by decide +kernel
theorem dX12_areAllApart_43 : decode cX12_areAllApart 43 = .ok (.ifCond .eq 24, 3) := by decide +kernel
theorem dX12_areAllApart_46 : decode cX12_areAllApart 46 = .ok (.aload_n 0, 1) := by decide +kernel
theorem dX12_areAllApart_47 : decode cX12_areAllApart 47 = .ok (.aload_n 0, 1) := by decide +kernel
theorem dX12_areAllApart_48 : decode cX12_areAllApart 48 = .ok (.iload_n 1, 1) := by decide +kernel
theorem dX12_areAllApart_49 : decode cX12_areAllApart 49 = .ok (.iload 4, 2) := by decide +kernel
theorem dX12_areAllApart_51 : decode cX12_areAllApart 51 = .ok (.invokevirtual 341, 3) := by decide +kernel
theorem dX12_areAllApart_54 : decode cX12_areAllApart 54 = .ok (.aload_n 0, 1) := by decide +kernel
theorem dX12_areAllApart_55 : decode cX12_areAllApart 55 = .ok (.iload_n 1, 1) := by decide +kernel
theorem dX12_areAllApart_56 : decode cX12_areAllApart 56 = .ok (.iload 5, 2) := by decide +kernel
theorem dX12_areAllApart_58 : decode cX12_areAllApart 58 = .ok (.invokevirtual 341, 3) := by decide +kernel
theorem dX12_areAllApart_61 : decode cX12_areAllApart 61 = .ok (.invokevirtual 344, 3) := by decide +kernel
theorem dX12_areAllApart_64 : decode cX12_areAllApart 64 = .ok (.ifCond .eq 7, 3) := by decide +kernel
theorem dX12_areAllApart_67 : decode cX12_areAllApart 67 = .ok (.iconst 1, 1) := by decide +kernel
theorem dX12_areAllApart_68 : decode cX12_areAllApart 68 = .ok (.goto 4, 3) := by decide +kernel
theorem dX12_areAllApart_71 : decode cX12_areAllApart 71 = .ok (.iconst 0, 1) := by decide +kernel
theorem dX12_areAllApart_72 : decode cX12_areAllApart 72 = .ok (.istore_n 3, 1) := by decide +kernel
theorem dX12_areAllApart_73 : decode cX12_areAllApart 73 = .ok (.iinc 5 1, 3) := by decide +kernel
theorem dX12_areAllApart_76 : decode cX12_areAllApart 76 = .ok (.goto (-61), 3) := by decide +kernel
theorem dX12_areAllApart_79 : decode cX12_areAllApart 79 = .ok (.iinc 4 1, 3) := by decide +kernel
theorem dX12_areAllApart_82 : decode cX12_areAllApart 82 = .ok (.goto (-77), 3) := by decide +kernel
theorem dX12_areAllApart_85 : decode cX12_areAllApart 85 = .ok (.iload_n 3, 1) := by decide +kernel
theorem dX12_areAllApart_86 : decode cX12_areAllApart 86 = .ok (.ireturn, 1) := by decide +kernel
theorem dX12_fixAt_0 : decode cX12_fixAt 0 = .ok (.iconst (-1), 1) := by decide +kernel
theorem dX12_fixAt_1 : decode cX12_fixAt 1 = .ok (.istore 5, 2) := by decide +kernel
theorem dX12_fixAt_3 : decode cX12_fixAt 3 = .ok (.iconst 0, 1) := by decide +kernel
theorem dX12_fixAt_4 : decode cX12_fixAt 4 = .ok (.istore 6, 2) := by decide +kernel
theorem dX12_fixAt_6 : decode cX12_fixAt 6 = .ok (.iload 6, 2) := by decide +kernel
theorem dX12_fixAt_8 : decode cX12_fixAt 8 = .ok (.bipush 31, 2) := by decide +kernel
theorem dX12_fixAt_10 : decode cX12_fixAt 10 = .ok (.if_icmp .ge 70, 3) := by decide +kernel
theorem dX12_fixAt_13 : decode cX12_fixAt 13 = .ok (.aload_n 0, 1) := by decide +kernel
theorem dX12_fixAt_14 : decode cX12_fixAt 14 = .ok (.iload_n 2, 1) := by decide +kernel
theorem dX12_fixAt_15 : decode cX12_fixAt 15 = .ok (.iload 6, 2) := by decide +kernel
theorem dX12_fixAt_17 : decode cX12_fixAt 17 = .ok (.invokevirtual 338, 3) := by decide +kernel
theorem dX12_fixAt_20 : decode cX12_fixAt 20 = .ok (.ifCond .eq 13, 3) := by decide +kernel
theorem dX12_fixAt_23 : decode cX12_fixAt 23 = .ok (.aload_n 0, 1) := by decide +kernel
theorem dX12_fixAt_24 : decode cX12_fixAt 24 = .ok (.iload_n 1, 1) := by decide +kernel
theorem dX12_fixAt_25 : decode cX12_fixAt 25 = .ok (.iload 6, 2) := by decide +kernel
theorem dX12_fixAt_27 : decode cX12_fixAt 27 = .ok (.invokevirtual 341, 3) := by decide +kernel
theorem dX12_fixAt_30 : decode cX12_fixAt 30 = .ok (.goto 4, 3) := by decide +kernel
theorem dX12_fixAt_33 : decode cX12_fixAt 33 = .ok (.iconst (-1), 1) := by decide +kernel
theorem dX12_fixAt_34 : decode cX12_fixAt 34 = .ok (.istore 7, 2) := by decide +kernel
theorem dX12_fixAt_36 : decode cX12_fixAt 36 = .ok (.iload 7, 2) := by decide +kernel
theorem dX12_fixAt_38 : decode cX12_fixAt 38 = .ok (.iconst (-1), 1) := by decide +kernel
theorem dX12_fixAt_39 : decode cX12_fixAt 39 = .ok (.if_icmp .eq 31, 3) := by decide +kernel
theorem dX12_fixAt_42 : decode cX12_fixAt 42 = .ok (.aload_n 0, 1) := by decide +kernel
theorem dX12_fixAt_43 : decode cX12_fixAt 43 = .ok (.getfield 114, 3) := by decide +kernel
theorem dX12_fixAt_46 : decode cX12_fixAt 46 = .ok (.iload 7, 2) := by decide +kernel
theorem dX12_fixAt_48 : decode cX12_fixAt 48 = .ok (.iaload, 1) := by decide +kernel
theorem dX12_fixAt_49 : decode cX12_fixAt 49 = .ok (.iload_n 3, 1) := by decide +kernel
theorem dX12_fixAt_50 : decode cX12_fixAt 50 = .ok (.if_icmp .ne 20, 3) := by decide +kernel
theorem dX12_fixAt_53 : decode cX12_fixAt 53 = .ok (.aload_n 0, 1) := by decide +kernel
theorem dX12_fixAt_54 : decode cX12_fixAt 54 = .ok (.getfield 117, 3) := by decide +kernel
theorem dX12_fixAt_57 : decode cX12_fixAt 57 = .ok (.iload 7, 2) := by decide +kernel
theorem dX12_fixAt_59 : decode cX12_fixAt 59 = .ok (.iaload, 1) := by decide +kernel
theorem dX12_fixAt_60 : decode cX12_fixAt 60 = .ok (.iload 4, 2) := by decide +kernel
theorem dX12_fixAt_62 : decode cX12_fixAt 62 = .ok (.if_icmp .ne 8, 3) := by decide +kernel
theorem dX12_fixAt_65 : decode cX12_fixAt 65 = .ok (.iload 7, 2) := by decide +kernel
theorem dX12_fixAt_67 : decode cX12_fixAt 67 = .ok (.goto 5, 3) := by decide +kernel
theorem dX12_fixAt_70 : decode cX12_fixAt 70 = .ok (.iload 5, 2) := by decide +kernel
theorem dX12_fixAt_72 : decode cX12_fixAt 72 = .ok (.istore 5, 2) := by decide +kernel
theorem dX12_fixAt_74 : decode cX12_fixAt 74 = .ok (.iinc 6 1, 3) := by decide +kernel
theorem dX12_fixAt_77 : decode cX12_fixAt 77 = .ok (.goto (-71), 3) := by decide +kernel
theorem dX12_fixAt_80 : decode cX12_fixAt 80 = .ok (.iload 5, 2) := by decide +kernel
theorem dX12_fixAt_82 : decode cX12_fixAt 82 = .ok (.ireturn, 1) := by decide +kernel
theorem dX12_fixes_0 : decode cX12_fixes 0 = .ok (.aload_n 0, 1) := by decide +kernel
theorem dX12_fixes_1 : decode cX12_fixes 1 = .ok (.iload_n 1, 1) := by decide +kernel
theorem dX12_fixes_2 : decode cX12_fixes 2 = .ok (.invokevirtual 247, 3) := by decide +kernel
theorem dX12_fixes_5 : decode cX12_fixes 5 = .ok (.istore 4, 2) := by decide +kernel
theorem dX12_fixes_7 : decode cX12_fixes 7 = .ok (.iconst 0, 1) := by decide +kernel
theorem dX12_fixes_8 : decode cX12_fixes 8 = .ok (.istore 5, 2) := by decide +kernel
theorem dX12_fixes_10 : decode cX12_fixes 10 = .ok (.aload_n 0, 1) := by decide +kernel
theorem dX12_fixes_11 : decode cX12_fixes 11 = .ok (.iconst 0, 1) := by decide +kernel
theorem dX12_fixes_12 : decode cX12_fixes 12 = .ok (.putfield 224, 3) := by decide +kernel
theorem dX12_fixes_15 : decode cX12_fixes 15 = .ok (.iload 5, 2) := by decide +kernel
theorem dX12_fixes_17 : decode cX12_fixes 17 = .ok (.aload_n 0, 1) := by decide +kernel
theorem dX12_fixes_18 : decode cX12_fixes 18 = .ok (.iload 4, 2) := by decide +kernel
theorem dX12_fixes_20 : decode cX12_fixes 20 = .ok (.iload_n 3, 1) := by decide +kernel
theorem dX12_fixes_21 : decode cX12_fixes 21 = .ok (.invokevirtual 207, 3) := by decide +kernel
theorem dX12_fixes_24 : decode cX12_fixes 24 = .ok (.if_icmp .gt 122, 3) := by decide +kernel
theorem dX12_fixes_27 : decode cX12_fixes 27 = .ok (.aload_n 0, 1) := by decide +kernel
theorem dX12_fixes_28 : decode cX12_fixes 28 = .ok (.iload_n 1, 1) := by decide +kernel
theorem dX12_fixes_29 : decode cX12_fixes 29 = .ok (.iload_n 2, 1) := by decide +kernel
theorem dX12_fixes_30 : decode cX12_fixes 30 = .ok (.iload_n 3, 1) := by decide +kernel
theorem dX12_fixes_31 : decode cX12_fixes 31 = .ok (.iload 5, 2) := by decide +kernel
theorem dX12_fixes_33 : decode cX12_fixes 33 = .ok (.invokevirtual 347, 3) := by decide +kernel
theorem dX12_fixes_36 : decode cX12_fixes 36 = .ok (.istore 6, 2) := by decide +kernel
theorem dX12_fixes_38 : decode cX12_fixes 38 = .ok (.iload 6, 2) := by decide +kernel
theorem dX12_fixes_40 : decode cX12_fixes 40 = .ok (.iconst (-1), 1) := by decide +kernel
theorem dX12_fixes_41 : decode cX12_fixes 41 = .ok (.if_icmp .ne 7, 3) := by decide +kernel
theorem dX12_fixes_44 : decode cX12_fixes 44 = .ok (.iconst 0, 1) := by decide +kernel
theorem dX12_fixes_45 : decode cX12_fixes 45 = .ok (.goto 10, 3) := by decide +kernel
theorem dX12_fixes_48 : decode cX12_fixes 48 = .ok (.aload_n 0, 1) := by decide +kernel
theorem dX12_fixes_49 : decode cX12_fixes 49 = .ok (.getfield 120, 3) := by decide +kernel
theorem dX12_fixes_52 : decode cX12_fixes 52 = .ok (.iload 6, 2) := by decide +kernel
theorem dX12_fixes_54 : decode cX12_fixes 54 = .ok (.iaload, 1) := by decide +kernel
theorem dX12_fixes_55 : decode cX12_fixes 55 = .ok (.istore 7, 2) := by decide +kernel
theorem dX12_fixes_57 : decode cX12_fixes 57 = .ok (.iload 6, 2) := by decide +kernel
theorem dX12_fixes_59 : decode cX12_fixes 59 = .ok (.iconst (-1), 1) := by decide +kernel
theorem dX12_fixes_60 : decode cX12_fixes 60 = .ok (.if_icmp .eq 40, 3) := by decide +kernel
theorem dX12_fixes_63 : decode cX12_fixes 63 = .ok (.aload_n 0, 1) := by decide +kernel
theorem dX12_fixes_64 : decode cX12_fixes 64 = .ok (.getfield 123, 3) := by decide +kernel
theorem dX12_fixes_67 : decode cX12_fixes 67 = .ok (.iload 6, 2) := by decide +kernel
theorem dX12_fixes_69 : decode cX12_fixes 69 = .ok (.iaload, 1) := by decide +kernel
theorem dX12_fixes_70 : decode cX12_fixes 70 = .ok (.iconst (-1), 1) := by decide +kernel
theorem dX12_fixes_71 : decode cX12_fixes 71 = .ok (.if_icmp .eq 29, 3) := by decide +kernel
theorem dX12_fixes_74 : decode cX12_fixes 74 = .ok (.aload_n 0, 1) := by decide +kernel
theorem dX12_fixes_75 : decode cX12_fixes 75 = .ok (.getfield 183, 3) := by decide +kernel
theorem dX12_fixes_78 : decode cX12_fixes 78 = .ok (.aload_n 0, 1) := by decide +kernel
theorem dX12_fixes_79 : decode cX12_fixes 79 = .ok (.getfield 224, 3) := by decide +kernel
theorem dX12_fixes_82 : decode cX12_fixes 82 = .ok (.aload_n 0, 1) := by decide +kernel
theorem dX12_fixes_83 : decode cX12_fixes 83 = .ok (.getfield 123, 3) := by decide +kernel
theorem dX12_fixes_86 : decode cX12_fixes 86 = .ok (.iload 6, 2) := by decide +kernel
theorem dX12_fixes_88 : decode cX12_fixes 88 = .ok (.iaload, 1) := by decide +kernel
theorem dX12_fixes_89 : decode cX12_fixes 89 = .ok (.iastore, 1) := by decide +kernel
theorem dX12_fixes_90 : decode cX12_fixes 90 = .ok (.aload_n 0, 1) := by decide +kernel
theorem dX12_fixes_91 : decode cX12_fixes 91 = .ok (.dup, 1) := by decide +kernel
theorem dX12_fixes_92 : decode cX12_fixes 92 = .ok (.getfield 224, 3) := by decide +kernel
theorem dX12_fixes_95 : decode cX12_fixes 95 = .ok (.iconst 1, 1) := by decide +kernel
theorem dX12_fixes_96 : decode cX12_fixes 96 = .ok (.iadd, 1) := by decide +kernel
theorem dX12_fixes_97 : decode cX12_fixes 97 = .ok (.putfield 224, 3) := by decide +kernel
theorem dX12_fixes_100 : decode cX12_fixes 100 = .ok (.iload 7, 2) := by decide +kernel
theorem dX12_fixes_102 : decode cX12_fixes 102 = .ok (.ifCond .ne 25, 3) := by decide +kernel
theorem dX12_fixes_105 : decode cX12_fixes 105 = .ok (.iload 5, 2) := by decide +kernel
theorem dX12_fixes_107 : decode cX12_fixes 107 = .ok (.aload_n 0, 1) := by decide +kernel
theorem dX12_fixes_108 : decode cX12_fixes 108 = .ok (.iload 4, 2) := by decide +kernel
theorem dX12_fixes_110 : decode cX12_fixes 110 = .ok (.iload_n 3, 1) := by decide +kernel
theorem dX12_fixes_111 : decode cX12_fixes 111 = .ok (.invokevirtual 207, 3) := by decide +kernel
theorem dX12_fixes_114 : decode cX12_fixes 114 = .ok (.if_icmp .ge 13, 3) := by decide +kernel
theorem dX12_fixes_117 : decode cX12_fixes 117 = .ok (.aload_n 0, 1) := by decide +kernel
theorem dX12_fixes_118 : decode cX12_fixes 118 = .ok (.iload 4, 2) := by decide +kernel
theorem dX12_fixes_120 : decode cX12_fixes 120 = .ok (.iload_n 3, 1) := by decide +kernel
theorem dX12_fixes_121 : decode cX12_fixes 121 = .ok (.iload 5, 2) := by decide +kernel
theorem dX12_fixes_123 : decode cX12_fixes 123 = .ok (.iconst 1, 1) := by decide +kernel
theorem dX12_fixes_124 : decode cX12_fixes 124 = .ok (.invokevirtual 237, 3) := by decide +kernel
theorem dX12_fixes_127 : decode cX12_fixes 127 = .ok (.iload 5, 2) := by decide +kernel
theorem dX12_fixes_129 : decode cX12_fixes 129 = .ok (.iload 7, 2) := by decide +kernel
theorem dX12_fixes_131 : decode cX12_fixes 131 = .ok (.ifCond .ne 7, 3) := by decide +kernel
theorem dX12_fixes_134 : decode cX12_fixes 134 = .ok (.iconst 1, 1) := by decide +kernel
theorem dX12_fixes_135 : decode cX12_fixes 135 = .ok (.goto 5, 3) := by decide +kernel
theorem dX12_fixes_138 : decode cX12_fixes 138 = .ok (.iload 7, 2) := by decide +kernel
theorem dX12_fixes_140 : decode cX12_fixes 140 = .ok (.iadd, 1) := by decide +kernel
theorem dX12_fixes_141 : decode cX12_fixes 141 = .ok (.istore 5, 2) := by decide +kernel
theorem dX12_fixes_143 : decode cX12_fixes 143 = .ok (.goto (-128), 3) := by decide +kernel
theorem dX12_fixes_146 : decode cX12_fixes 146 = .ok (.aload_n 0, 1) := by decide +kernel
theorem dX12_fixes_147 : decode cX12_fixes 147 = .ok (.getfield 224, 3) := by decide +kernel
theorem dX12_fixes_150 : decode cX12_fixes 150 = .ok (.ireturn, 1) := by decide +kernel
theorem dX12_groupOf_0 : decode cX12_groupOf 0 = .ok (.iconst 1, 1) := by decide +kernel
theorem dX12_groupOf_1 : decode cX12_groupOf 1 = .ok (.iload_n 1, 1) := by decide +kernel
theorem dX12_groupOf_2 : decode cX12_groupOf 2 = .ok (.ishl, 1) := by decide +kernel
theorem dX12_groupOf_3 : decode cX12_groupOf 3 = .ok (.istore_n 2, 1) := by decide +kernel
theorem dX12_groupOf_4 : decode cX12_groupOf 4 = .ok (.iconst 0, 1) := by decide +kernel
theorem dX12_groupOf_5 : decode cX12_groupOf 5 = .ok (.istore_n 3, 1) := by decide +kernel
theorem dX12_groupOf_6 : decode cX12_groupOf 6 = .ok (.iload_n 3, 1) := by decide +kernel
theorem dX12_groupOf_7 : decode cX12_groupOf 7 = .ok (.iload_n 2, 1) := by decide +kernel
theorem dX12_groupOf_8 : decode cX12_groupOf 8 = .ok (.if_icmp .eq 121, 3) := by decide +kernel
theorem dX12_groupOf_11 : decode cX12_groupOf 11 = .ok (.iload_n 2, 1) := by decide +kernel
theorem dX12_groupOf_12 : decode cX12_groupOf 12 = .ok (.istore_n 3, 1) := by decide +kernel
theorem dX12_groupOf_13 : decode cX12_groupOf 13 = .ok (.iconst 0, 1) := by decide +kernel
theorem dX12_groupOf_14 : decode cX12_groupOf 14 = .ok (.istore 4, 2) := by decide +kernel
theorem dX12_groupOf_16 : decode cX12_groupOf 16 = .ok (.iload 4, 2) := by decide +kernel
theorem dX12_groupOf_18 : decode cX12_groupOf 18 = .ok (.aload_n 0, 1) := by decide +kernel
theorem dX12_groupOf_19 : decode cX12_groupOf 19 = .ok (.getfield 196, 3) := by decide +kernel
theorem dX12_groupOf_22 : decode cX12_groupOf 22 = .ok (.if_icmp .ge 104, 3) := by decide +kernel
theorem dX12_groupOf_25 : decode cX12_groupOf 25 = .ok (.iload_n 2, 1) := by decide +kernel
theorem dX12_groupOf_26 : decode cX12_groupOf 26 = .ok (.iload 4, 2) := by decide +kernel
theorem dX12_groupOf_28 : decode cX12_groupOf 28 = .ok (.invokestatic 329, 3) := by decide +kernel
theorem dX12_groupOf_31 : decode cX12_groupOf 31 = .ok (.ifCond .eq 12, 3) := by decide +kernel
theorem dX12_groupOf_34 : decode cX12_groupOf 34 = .ok (.aload_n 0, 1) := by decide +kernel
theorem dX12_groupOf_35 : decode cX12_groupOf 35 = .ok (.iload 4, 2) := by decide +kernel
theorem dX12_groupOf_37 : decode cX12_groupOf 37 = .ok (.invokevirtual 298, 3) := by decide +kernel
theorem dX12_groupOf_40 : decode cX12_groupOf 40 = .ok (.goto 4, 3) := by decide +kernel
theorem dX12_groupOf_43 : decode cX12_groupOf 43 = .ok (.iconst (-1), 1) := by decide +kernel
theorem dX12_groupOf_44 : decode cX12_groupOf 44 = .ok (.istore 5, 2) := by decide +kernel
theorem dX12_groupOf_46 : decode cX12_groupOf 46 = .ok (.iload_n 2, 1) := by decide +kernel
theorem dX12_groupOf_47 : decode cX12_groupOf 47 = .ok (.iload 5, 2) := by decide +kernel
theorem dX12_groupOf_49 : decode cX12_groupOf 49 = .ok (.iconst (-1), 1) := by decide +kernel
theorem dX12_groupOf_50 : decode cX12_groupOf 50 = .ok (.if_icmp .eq 20, 3) := by decide +kernel
theorem dX12_groupOf_53 : decode cX12_groupOf 53 = .ok (.aload_n 0, 1) := by decide +kernel
theorem dX12_groupOf_54 : decode cX12_groupOf 54 = .ok (.getfield 47, 3) := by decide +kernel
theorem dX12_groupOf_57 : decode cX12_groupOf 57 = .ok (.iload 5, 2) := by decide +kernel
theorem dX12_groupOf_59 : decode cX12_groupOf 59 = .ok (.iaload, 1) := by decide +kernel
theorem dX12_groupOf_60 : decode cX12_groupOf 60 = .ok (.ifCond .ne 10, 3) := by decide +kernel
theorem dX12_groupOf_63 : decode cX12_groupOf 63 = .ok (.iconst 1, 1) := by decide +kernel
theorem dX12_groupOf_64 : decode cX12_groupOf 64 = .ok (.iload 5, 2) := by decide +kernel
theorem dX12_groupOf_66 : decode cX12_groupOf 66 = .ok (.ishl, 1) := by decide +kernel
theorem dX12_groupOf_67 : decode cX12_groupOf 67 = .ok (.goto 4, 3) := by decide +kernel
theorem dX12_groupOf_70 : decode cX12_groupOf 70 = .ok (.iconst 0, 1) := by decide +kernel
theorem dX12_groupOf_71 : decode cX12_groupOf 71 = .ok (.ior, 1) := by decide +kernel
theorem dX12_groupOf_72 : decode cX12_groupOf 72 = .ok (.istore_n 2, 1) := by decide +kernel
theorem dX12_groupOf_73 : decode cX12_groupOf 73 = .ok (.iload_n 2, 1) := by decide +kernel
theorem dX12_groupOf_74 : decode cX12_groupOf 74 = .ok (.aload_n 0, 1) := by decide +kernel
theorem dX12_groupOf_75 : decode cX12_groupOf 75 = .ok (.getfield 47, 3) := by decide +kernel
theorem dX12_groupOf_78 : decode cX12_groupOf 78 = .ok (.iload 4, 2) := by decide +kernel
theorem dX12_groupOf_80 : decode cX12_groupOf 80 = .ok (.iaload, 1) := by decide +kernel
theorem dX12_groupOf_81 : decode cX12_groupOf 81 = .ok (.ifCond .ne 36, 3) := by decide +kernel
theorem dX12_groupOf_84 : decode cX12_groupOf 84 = .ok (.aload_n 0, 1) := by decide +kernel
theorem dX12_groupOf_85 : decode cX12_groupOf 85 = .ok (.getfield 60, 3) := by decide +kernel
theorem dX12_groupOf_88 : decode cX12_groupOf 88 = .ok (.iload 4, 2) := by decide +kernel
theorem dX12_groupOf_90 : decode cX12_groupOf 90 = .ok (.iaload, 1) := by decide +kernel
theorem dX12_groupOf_91 : decode cX12_groupOf 91 = .ok (.iconst (-1), 1) := by decide +kernel
theorem dX12_groupOf_92 : decode cX12_groupOf 92 = .ok (.if_icmp .eq 25, 3) := by decide +kernel
theorem dX12_groupOf_95 : decode cX12_groupOf 95 = .ok (.aload_n 0, 1) := by decide +kernel
theorem dX12_groupOf_96 : decode cX12_groupOf 96 = .ok (.iload_n 3, 1) := by decide +kernel
theorem dX12_groupOf_97 : decode cX12_groupOf 97 = .ok (.aload_n 0, 1) := by decide +kernel
theorem dX12_groupOf_98 : decode cX12_groupOf 98 = .ok (.getfield 60, 3) := by decide +kernel
theorem dX12_groupOf_101 : decode cX12_groupOf 101 = .ok (.iload 4, 2) := by decide +kernel
theorem dX12_groupOf_103 : decode cX12_groupOf 103 = .ok (.iaload, 1) := by decide +kernel
theorem dX12_groupOf_104 : decode cX12_groupOf 104 = .ok (.invokevirtual 351, 3) := by decide +kernel
theorem dX12_groupOf_107 : decode cX12_groupOf 107 = .ok (.ifCond .eq 10, 3) := by decide +kernel
theorem dX12_groupOf_110 : decode cX12_groupOf 110 = .ok (.iconst 1, 1) := by decide +kernel
theorem dX12_groupOf_111 : decode cX12_groupOf 111 = .ok (.iload 4, 2) := by decide +kernel
theorem dX12_groupOf_113 : decode cX12_groupOf 113 = .ok (.ishl, 1) := by decide +kernel
theorem dX12_groupOf_114 : decode cX12_groupOf 114 = .ok (.goto 4, 3) := by decide +kernel
theorem dX12_groupOf_117 : decode cX12_groupOf 117 = .ok (.iconst 0, 1) := by decide +kernel
theorem dX12_groupOf_118 : decode cX12_groupOf 118 = .ok (.ior, 1) := by decide +kernel
theorem dX12_groupOf_119 : decode cX12_groupOf 119 = .ok (.istore_n 2, 1) := by decide +kernel
theorem dX12_groupOf_120 : decode cX12_groupOf 120 = .ok (.iinc 4 1, 3) := by decide +kernel
theorem dX12_groupOf_123 : decode cX12_groupOf 123 = .ok (.goto (-107), 3) := by decide +kernel
theorem dX12_groupOf_126 : decode cX12_groupOf 126 = .ok (.goto (-120), 3) := by decide +kernel
theorem dX12_groupOf_129 : decode cX12_groupOf 129 = .ok (.iload_n 2, 1) := by decide +kernel
theorem dX12_groupOf_130 : decode cX12_groupOf 130 = .ok (.ireturn, 1) := by decide +kernel
theorem dX12_hasTopic_0 : decode cX12_hasTopic 0 = .ok (.iconst 0, 1) := by decide +kernel
theorem dX12_hasTopic_1 : decode cX12_hasTopic 1 = .ok (.istore_n 3, 1) := by decide +kernel
theorem dX12_hasTopic_2 : decode cX12_hasTopic 2 = .ok (.iconst 0, 1) := by decide +kernel
theorem dX12_hasTopic_3 : decode cX12_hasTopic 3 = .ok (.istore 4, 2) := by decide +kernel
theorem dX12_hasTopic_5 : decode cX12_hasTopic 5 = .ok (.iload 4, 2) := by decide +kernel
theorem dX12_hasTopic_7 : decode cX12_hasTopic 7 = .ok (.aload_n 0, 1) := by decide +kernel
theorem dX12_hasTopic_8 : decode cX12_hasTopic 8 = .ok (.getfield 196, 3) := by decide +kernel
theorem dX12_hasTopic_11 : decode cX12_hasTopic 11 = .ok (.if_icmp .ge 39, 3) := by decide +kernel
theorem dX12_hasTopic_14 : decode cX12_hasTopic 14 = .ok (.iload_n 3, 1) := by decide +kernel
theorem dX12_hasTopic_15 : decode cX12_hasTopic 15 = .ok (.ifCond .ne 23, 3) := by decide +kernel
theorem dX12_hasTopic_18 : decode cX12_hasTopic 18 = .ok (.iload_n 1, 1) := by decide +kernel
theorem dX12_hasTopic_19 : decode cX12_hasTopic 19 = .ok (.iload 4, 2) := by decide +kernel
theorem dX12_hasTopic_21 : decode cX12_hasTopic 21 = .ok (.invokestatic 329, 3) := by decide +kernel
theorem dX12_hasTopic_24 : decode cX12_hasTopic 24 = .ok (.ifCond .eq 18, 3) := by decide +kernel
theorem dX12_hasTopic_27 : decode cX12_hasTopic 27 = .ok (.aload_n 0, 1) := by decide +kernel
theorem dX12_hasTopic_28 : decode cX12_hasTopic 28 = .ok (.getfield 60, 3) := by decide +kernel
theorem dX12_hasTopic_31 : decode cX12_hasTopic 31 = .ok (.iload 4, 2) := by decide +kernel
theorem dX12_hasTopic_33 : decode cX12_hasTopic 33 = .ok (.iaload, 1) := by decide +kernel
theorem dX12_hasTopic_34 : decode cX12_hasTopic 34 = .ok (.iload_n 2, 1) := by decide +kernel
theorem dX12_hasTopic_35 : decode cX12_hasTopic 35 = .ok (.if_icmp .ne 7, 3) := by decide +kernel
theorem dX12_hasTopic_38 : decode cX12_hasTopic 38 = .ok (.iconst 1, 1) := by decide +kernel
theorem dX12_hasTopic_39 : decode cX12_hasTopic 39 = .ok (.goto 4, 3) := by decide +kernel
theorem dX12_hasTopic_42 : decode cX12_hasTopic 42 = .ok (.iconst 0, 1) := by decide +kernel
theorem dX12_hasTopic_43 : decode cX12_hasTopic 43 = .ok (.istore_n 3, 1) := by decide +kernel
theorem dX12_hasTopic_44 : decode cX12_hasTopic 44 = .ok (.iinc 4 1, 3) := by decide +kernel
theorem dX12_hasTopic_47 : decode cX12_hasTopic 47 = .ok (.goto (-42), 3) := by decide +kernel
theorem dX12_hasTopic_50 : decode cX12_hasTopic 50 = .ok (.iload_n 3, 1) := by decide +kernel
theorem dX12_hasTopic_51 : decode cX12_hasTopic 51 = .ok (.ireturn, 1) := by decide +kernel
theorem dX12_nextOf_0 : decode cX12_nextOf 0 = .ok (.iconst (-1), 1) := by decide +kernel
theorem dX12_nextOf_1 : decode cX12_nextOf 1 = .ok (.istore_n 2, 1) := by decide +kernel
theorem dX12_nextOf_2 : decode cX12_nextOf 2 = .ok (.aload_n 0, 1) := by decide +kernel
theorem dX12_nextOf_3 : decode cX12_nextOf 3 = .ok (.getfield 196, 3) := by decide +kernel
theorem dX12_nextOf_6 : decode cX12_nextOf 6 = .ok (.iconst 1, 1) := by decide +kernel
theorem dX12_nextOf_7 : decode cX12_nextOf 7 = .ok (.isub, 1) := by decide +kernel
theorem dX12_nextOf_8 : decode cX12_nextOf 8 = .ok (.istore_n 3, 1) := by decide +kernel
theorem dX12_nextOf_9 : decode cX12_nextOf 9 = .ok (.iload_n 3, 1) := by decide +kernel
theorem dX12_nextOf_10 : decode cX12_nextOf 10 = .ok (.ifCond .lt 56, 3) := by decide +kernel
theorem dX12_nextOf_13 : decode cX12_nextOf 13 = .ok (.iload_n 1, 1) := by decide +kernel
theorem dX12_nextOf_14 : decode cX12_nextOf 14 = .ok (.iload_n 3, 1) := by decide +kernel
theorem dX12_nextOf_15 : decode cX12_nextOf 15 = .ok (.invokestatic 329, 3) := by decide +kernel
theorem dX12_nextOf_18 : decode cX12_nextOf 18 = .ok (.ifCond .eq 28, 3) := by decide +kernel
theorem dX12_nextOf_21 : decode cX12_nextOf 21 = .ok (.aload_n 0, 1) := by decide +kernel
theorem dX12_nextOf_22 : decode cX12_nextOf 22 = .ok (.iload_n 3, 1) := by decide +kernel
theorem dX12_nextOf_23 : decode cX12_nextOf 23 = .ok (.invokevirtual 298, 3) := by decide +kernel
theorem dX12_nextOf_26 : decode cX12_nextOf 26 = .ok (.iconst (-1), 1) := by decide +kernel
theorem dX12_nextOf_27 : decode cX12_nextOf 27 = .ok (.if_icmp .eq 15, 3) := by decide +kernel
theorem dX12_nextOf_30 : decode cX12_nextOf 30 = .ok (.iload_n 1, 1) := by decide +kernel
theorem dX12_nextOf_31 : decode cX12_nextOf 31 = .ok (.aload_n 0, 1) := by decide +kernel
theorem dX12_nextOf_32 : decode cX12_nextOf 32 = .ok (.iload_n 3, 1) := by decide +kernel
theorem dX12_nextOf_33 : decode cX12_nextOf 33 = .ok (.invokevirtual 298, 3) := by decide +kernel
theorem dX12_nextOf_36 : decode cX12_nextOf 36 = .ok (.invokestatic 329, 3) := by decide +kernel
theorem dX12_nextOf_39 : decode cX12_nextOf 39 = .ok (.ifCond .ne 7, 3) := by decide +kernel
theorem dX12_nextOf_42 : decode cX12_nextOf 42 = .ok (.iconst 1, 1) := by decide +kernel
theorem dX12_nextOf_43 : decode cX12_nextOf 43 = .ok (.goto 4, 3) := by decide +kernel
theorem dX12_nextOf_46 : decode cX12_nextOf 46 = .ok (.iconst 0, 1) := by decide +kernel
theorem dX12_nextOf_47 : decode cX12_nextOf 47 = .ok (.istore 4, 2) := by decide +kernel
theorem dX12_nextOf_49 : decode cX12_nextOf 49 = .ok (.iload 4, 2) := by decide +kernel
theorem dX12_nextOf_51 : decode cX12_nextOf 51 = .ok (.ifCond .eq 7, 3) := by decide +kernel
theorem dX12_nextOf_54 : decode cX12_nextOf 54 = .ok (.iload_n 3, 1) := by decide +kernel
theorem dX12_nextOf_55 : decode cX12_nextOf 55 = .ok (.goto 4, 3) := by decide +kernel
theorem dX12_nextOf_58 : decode cX12_nextOf 58 = .ok (.iload_n 2, 1) := by decide +kernel
theorem dX12_nextOf_59 : decode cX12_nextOf 59 = .ok (.istore_n 2, 1) := by decide +kernel
theorem dX12_nextOf_60 : decode cX12_nextOf 60 = .ok (.iinc 3 (-1), 3) := by decide +kernel
theorem dX12_nextOf_63 : decode cX12_nextOf 63 = .ok (.goto (-54), 3) := by decide +kernel
theorem dX12_nextOf_66 : decode cX12_nextOf 66 = .ok (.iload_n 2, 1) := by decide +kernel
theorem dX12_nextOf_67 : decode cX12_nextOf 67 = .ok (.ireturn, 1) := by decide +kernel
theorem dX12_hasChild_0 : decode cX12_hasChild 0 = .ok (.iconst 0, 1) := by decide +kernel
theorem dX12_hasChild_1 : decode cX12_hasChild 1 = .ok (.istore_n 3, 1) := by decide +kernel
theorem dX12_hasChild_2 : decode cX12_hasChild 2 = .ok (.iconst 0, 1) := by decide +kernel
theorem dX12_hasChild_3 : decode cX12_hasChild 3 = .ok (.istore 4, 2) := by decide +kernel
theorem dX12_hasChild_5 : decode cX12_hasChild 5 = .ok (.iload 4, 2) := by decide +kernel
theorem dX12_hasChild_7 : decode cX12_hasChild 7 = .ok (.aload_n 0, 1) := by decide +kernel
theorem dX12_hasChild_8 : decode cX12_hasChild 8 = .ok (.getfield 196, 3) := by decide +kernel
theorem dX12_hasChild_11 : decode cX12_hasChild 11 = .ok (.if_icmp .ge 38, 3) := by decide +kernel
theorem dX12_hasChild_14 : decode cX12_hasChild 14 = .ok (.iload_n 3, 1) := by decide +kernel
theorem dX12_hasChild_15 : decode cX12_hasChild 15 = .ok (.ifCond .ne 22, 3) := by decide +kernel
theorem dX12_hasChild_18 : decode cX12_hasChild 18 = .ok (.iload_n 2, 1) := by decide +kernel
theorem dX12_hasChild_19 : decode cX12_hasChild 19 = .ok (.iload 4, 2) := by decide +kernel
theorem dX12_hasChild_21 : decode cX12_hasChild 21 = .ok (.invokestatic 329, 3) := by decide +kernel
theorem dX12_hasChild_24 : decode cX12_hasChild 24 = .ok (.ifCond .eq 17, 3) := by decide +kernel
theorem dX12_hasChild_27 : decode cX12_hasChild 27 = .ok (.aload_n 0, 1) := by decide +kernel
theorem dX12_hasChild_28 : decode cX12_hasChild 28 = .ok (.iload 4, 2) := by decide +kernel
theorem dX12_hasChild_30 : decode cX12_hasChild 30 = .ok (.invokevirtual 298, 3) := by decide +kernel
theorem dX12_hasChild_33 : decode cX12_hasChild 33 = .ok (.iload_n 1, 1) := by decide +kernel
theorem dX12_hasChild_34 : decode cX12_hasChild 34 = .ok (.if_icmp .ne 7, 3) := by decide +kernel
theorem dX12_hasChild_37 : decode cX12_hasChild 37 = .ok (.iconst 1, 1) := by decide +kernel
theorem dX12_hasChild_38 : decode cX12_hasChild 38 = .ok (.goto 4, 3) := by decide +kernel
theorem dX12_hasChild_41 : decode cX12_hasChild 41 = .ok (.iconst 0, 1) := by decide +kernel
theorem dX12_hasChild_42 : decode cX12_hasChild 42 = .ok (.istore_n 3, 1) := by decide +kernel
theorem dX12_hasChild_43 : decode cX12_hasChild 43 = .ok (.iinc 4 1, 3) := by decide +kernel
theorem dX12_hasChild_46 : decode cX12_hasChild 46 = .ok (.goto (-41), 3) := by decide +kernel
theorem dX12_hasChild_49 : decode cX12_hasChild 49 = .ok (.iload_n 3, 1) := by decide +kernel
theorem dX12_hasChild_50 : decode cX12_hasChild 50 = .ok (.ireturn, 1) := by decide +kernel
theorem dX12_makes_0 : decode cX12_makes 0 = .ok (.aload_n 0, 1) := by decide +kernel
theorem dX12_makes_1 : decode cX12_makes 1 = .ok (.bipush 81, 2) := by decide +kernel
theorem dX12_makes_3 : decode cX12_makes 3 = .ok (.aload_n 0, 1) := by decide +kernel
theorem dX12_makes_4 : decode cX12_makes 4 = .ok (.getfield 7, 3) := by decide +kernel
theorem dX12_makes_7 : decode cX12_makes 7 = .ok (.invokevirtual 354, 3) := by decide +kernel
theorem dX12_makes_10 : decode cX12_makes 10 = .ok (.aload_n 0, 1) := by decide +kernel
theorem dX12_makes_11 : decode cX12_makes 11 = .ok (.getfield 13, 3) := by decide +kernel
theorem dX12_makes_14 : decode cX12_makes 14 = .ok (.aload_n 0, 1) := by decide +kernel
theorem dX12_makes_15 : decode cX12_makes 15 = .ok (.getfield 7, 3) := by decide +kernel
theorem dX12_makes_18 : decode cX12_makes 18 = .ok (.iload_n 1, 1) := by decide +kernel
theorem dX12_makes_19 : decode cX12_makes 19 = .ok (.iastore, 1) := by decide +kernel
theorem dX12_makes_20 : decode cX12_makes 20 = .ok (.aload_n 0, 1) := by decide +kernel
theorem dX12_makes_21 : decode cX12_makes 21 = .ok (.getfield 17, 3) := by decide +kernel
theorem dX12_makes_24 : decode cX12_makes 24 = .ok (.aload_n 0, 1) := by decide +kernel
theorem dX12_makes_25 : decode cX12_makes 25 = .ok (.getfield 7, 3) := by decide +kernel
theorem dX12_makes_28 : decode cX12_makes 28 = .ok (.iload_n 2, 1) := by decide +kernel
theorem dX12_makes_29 : decode cX12_makes 29 = .ok (.iastore, 1) := by decide +kernel
theorem dX12_makes_30 : decode cX12_makes 30 = .ok (.aload_n 0, 1) := by decide +kernel
theorem dX12_makes_31 : decode cX12_makes 31 = .ok (.getfield 26, 3) := by decide +kernel
theorem dX12_makes_34 : decode cX12_makes 34 = .ok (.aload_n 0, 1) := by decide +kernel
theorem dX12_makes_35 : decode cX12_makes 35 = .ok (.getfield 7, 3) := by decide +kernel
theorem dX12_makes_38 : decode cX12_makes 38 = .ok (.iconst (-1), 1) := by decide +kernel
theorem dX12_makes_39 : decode cX12_makes 39 = .ok (.iastore, 1) := by decide +kernel
theorem dX12_makes_40 : decode cX12_makes 40 = .ok (.aload_n 0, 1) := by decide +kernel
theorem dX12_makes_41 : decode cX12_makes 41 = .ok (.getfield 35, 3) := by decide +kernel
theorem dX12_makes_44 : decode cX12_makes 44 = .ok (.aload_n 0, 1) := by decide +kernel
theorem dX12_makes_45 : decode cX12_makes 45 = .ok (.getfield 7, 3) := by decide +kernel
theorem dX12_makes_48 : decode cX12_makes 48 = .ok (.iconst (-1), 1) := by decide +kernel
theorem dX12_makes_49 : decode cX12_makes 49 = .ok (.iastore, 1) := by decide +kernel
theorem dX12_makes_50 : decode cX12_makes 50 = .ok (.aload_n 0, 1) := by decide +kernel
theorem dX12_makes_51 : decode cX12_makes 51 = .ok (.dup, 1) := by decide +kernel
theorem dX12_makes_52 : decode cX12_makes 52 = .ok (.getfield 7, 3) := by decide +kernel
theorem dX12_makes_55 : decode cX12_makes 55 = .ok (.iconst 1, 1) := by decide +kernel
theorem dX12_makes_56 : decode cX12_makes 56 = .ok (.iadd, 1) := by decide +kernel
theorem dX12_makes_57 : decode cX12_makes 57 = .ok (.putfield 7, 3) := by decide +kernel
theorem dX12_makes_60 : decode cX12_makes 60 = .ok (.aload_n 0, 1) := by decide +kernel
theorem dX12_makes_61 : decode cX12_makes 61 = .ok (.getfield 7, 3) := by decide +kernel
theorem dX12_makes_64 : decode cX12_makes 64 = .ok (.iconst 1, 1) := by decide +kernel
theorem dX12_makes_65 : decode cX12_makes 65 = .ok (.isub, 1) := by decide +kernel
theorem dX12_makes_66 : decode cX12_makes 66 = .ok (.ireturn, 1) := by decide +kernel
theorem dX12_landsOne_0 : decode cX12_landsOne 0 = .ok (.aload_n 0, 1) := by decide +kernel
theorem dX12_landsOne_1 : decode cX12_landsOne 1 = .ok (.iload_n 1, 1) := by decide +kernel
theorem dX12_landsOne_2 : decode cX12_landsOne 2 = .ok (.invokevirtual 257, 3) := by decide +kernel
theorem dX12_landsOne_5 : decode cX12_landsOne 5 = .ok (.istore_n 3, 1) := by decide +kernel
theorem dX12_landsOne_6 : decode cX12_landsOne 6 = .ok (.aload_n 0, 1) := by decide +kernel
theorem dX12_landsOne_7 : decode cX12_landsOne 7 = .ok (.getfield 38, 3) := by decide +kernel
theorem dX12_landsOne_10 : decode cX12_landsOne 10 = .ok (.iload_n 3, 1) := by decide +kernel
theorem dX12_landsOne_11 : decode cX12_landsOne 11 = .ok (.iaload, 1) := by decide +kernel
theorem dX12_landsOne_12 : decode cX12_landsOne 12 = .ok (.istore 4, 2) := by decide +kernel
theorem dX12_landsOne_14 : decode cX12_landsOne 14 = .ok (.aload_n 0, 1) := by decide +kernel
theorem dX12_landsOne_15 : decode cX12_landsOne 15 = .ok (.iload_n 1, 1) := by decide +kernel
theorem dX12_landsOne_16 : decode cX12_landsOne 16 = .ok (.invokevirtual 247, 3) := by decide +kernel
theorem dX12_landsOne_19 : decode cX12_landsOne 19 = .ok (.istore 5, 2) := by decide +kernel
theorem dX12_landsOne_21 : decode cX12_landsOne 21 = .ok (.aload_n 0, 1) := by decide +kernel
theorem dX12_landsOne_22 : decode cX12_landsOne 22 = .ok (.getfield 41, 3) := by decide +kernel
theorem dX12_landsOne_25 : decode cX12_landsOne 25 = .ok (.iload_n 3, 1) := by decide +kernel
theorem dX12_landsOne_26 : decode cX12_landsOne 26 = .ok (.iaload, 1) := by decide +kernel
theorem dX12_landsOne_27 : decode cX12_landsOne 27 = .ok (.ifCond .ne 48, 3) := by decide +kernel
theorem dX12_landsOne_30 : decode cX12_landsOne 30 = .ok (.aload_n 0, 1) := by decide +kernel
theorem dX12_landsOne_31 : decode cX12_landsOne 31 = .ok (.getfield 38, 3) := by decide +kernel
theorem dX12_landsOne_34 : decode cX12_landsOne 34 = .ok (.iload_n 3, 1) := by decide +kernel
theorem dX12_landsOne_35 : decode cX12_landsOne 35 = .ok (.aload_n 0, 1) := by decide +kernel
theorem dX12_landsOne_36 : decode cX12_landsOne 36 = .ok (.getfield 17, 3) := by decide +kernel
theorem dX12_landsOne_39 : decode cX12_landsOne 39 = .ok (.iload 5, 2) := by decide +kernel
theorem dX12_landsOne_41 : decode cX12_landsOne 41 = .ok (.iaload, 1) := by decide +kernel
theorem dX12_landsOne_42 : decode cX12_landsOne 42 = .ok (.iload 4, 2) := by decide +kernel
theorem dX12_landsOne_44 : decode cX12_landsOne 44 = .ok (.if_icmp .ne 8, 3) := by decide +kernel
theorem dX12_landsOne_47 : decode cX12_landsOne 47 = .ok (.iload 5, 2) := by decide +kernel
theorem dX12_landsOne_49 : decode cX12_landsOne 49 = .ok (.goto 5, 3) := by decide +kernel
theorem dX12_landsOne_52 : decode cX12_landsOne 52 = .ok (.iload 4, 2) := by decide +kernel
theorem dX12_landsOne_54 : decode cX12_landsOne 54 = .ok (.iastore, 1) := by decide +kernel
theorem dX12_landsOne_55 : decode cX12_landsOne 55 = .ok (.aload_n 0, 1) := by decide +kernel
theorem dX12_landsOne_56 : decode cX12_landsOne 56 = .ok (.getfield 17, 3) := by decide +kernel
theorem dX12_landsOne_59 : decode cX12_landsOne 59 = .ok (.iload 5, 2) := by decide +kernel
theorem dX12_landsOne_61 : decode cX12_landsOne 61 = .ok (.iaload, 1) := by decide +kernel
theorem dX12_landsOne_62 : decode cX12_landsOne 62 = .ok (.iload 4, 2) := by decide +kernel
theorem dX12_landsOne_64 : decode cX12_landsOne 64 = .ok (.if_icmp .ne 8, 3) := by decide +kernel
theorem dX12_landsOne_67 : decode cX12_landsOne 67 = .ok (.iload 5, 2) := by decide +kernel
theorem dX12_landsOne_69 : decode cX12_landsOne 69 = .ok (.goto 5, 3) := by decide +kernel
theorem dX12_landsOne_72 : decode cX12_landsOne 72 = .ok (.bipush (-2), 2) := by decide +kernel
theorem dX12_landsOne_74 : decode cX12_landsOne 74 = .ok (.ireturn, 1) := by decide +kernel
theorem dX12_landsOne_75 : decode cX12_landsOne 75 = .ok (.aload_n 0, 1) := by decide +kernel
theorem dX12_landsOne_76 : decode cX12_landsOne 76 = .ok (.getfield 41, 3) := by decide +kernel
theorem dX12_landsOne_79 : decode cX12_landsOne 79 = .ok (.iload_n 3, 1) := by decide +kernel
theorem dX12_landsOne_80 : decode cX12_landsOne 80 = .ok (.iaload, 1) := by decide +kernel
theorem dX12_landsOne_81 : decode cX12_landsOne 81 = .ok (.iconst 2, 1) := by decide +kernel
theorem dX12_landsOne_82 : decode cX12_landsOne 82 = .ok (.if_icmp .ne 14, 3) := by decide +kernel
theorem dX12_landsOne_85 : decode cX12_landsOne 85 = .ok (.aload_n 0, 1) := by decide +kernel
theorem dX12_landsOne_86 : decode cX12_landsOne 86 = .ok (.iload_n 1, 1) := by decide +kernel
theorem dX12_landsOne_87 : decode cX12_landsOne 87 = .ok (.iload_n 2, 1) := by decide +kernel
theorem dX12_landsOne_88 : decode cX12_landsOne 88 = .ok (.invokevirtual 357, 3) := by decide +kernel
theorem dX12_landsOne_91 : decode cX12_landsOne 91 = .ok (.ifCond .eq 5, 3) := by decide +kernel
theorem dX12_landsOne_94 : decode cX12_landsOne 94 = .ok (.iconst (-1), 1) := by decide +kernel
theorem dX12_landsOne_95 : decode cX12_landsOne 95 = .ok (.ireturn, 1) := by decide +kernel
theorem dX12_landsOne_96 : decode cX12_landsOne 96 = .ok (.aload_n 0, 1) := by decide +kernel
theorem dX12_landsOne_97 : decode cX12_landsOne 97 = .ok (.getfield 17, 3) := by decide +kernel
theorem dX12_landsOne_100 : decode cX12_landsOne 100 = .ok (.iload 5, 2) := by decide +kernel
theorem dX12_landsOne_102 : decode cX12_landsOne 102 = .ok (.iaload, 1) := by decide +kernel
theorem dX12_landsOne_103 : decode cX12_landsOne 103 = .ok (.istore 6, 2) := by decide +kernel
theorem dX12_landsOne_105 : decode cX12_landsOne 105 = .ok (.aload_n 0, 1) := by decide +kernel
theorem dX12_landsOne_106 : decode cX12_landsOne 106 = .ok (.iload_n 1, 1) := by decide +kernel
theorem dX12_landsOne_107 : decode cX12_landsOne 107 = .ok (.invokevirtual 298, 3) := by decide +kernel
theorem dX12_landsOne_110 : decode cX12_landsOne 110 = .ok (.istore 7, 2) := by decide +kernel
theorem dX12_landsOne_112 : decode cX12_landsOne 112 = .ok (.aload_n 0, 1) := by decide +kernel
theorem dX12_landsOne_113 : decode cX12_landsOne 113 = .ok (.getfield 41, 3) := by decide +kernel
theorem dX12_landsOne_116 : decode cX12_landsOne 116 = .ok (.iload_n 3, 1) := by decide +kernel
theorem dX12_landsOne_117 : decode cX12_landsOne 117 = .ok (.iaload, 1) := by decide +kernel
theorem dX12_landsOne_118 : decode cX12_landsOne 118 = .ok (.iconst 2, 1) := by decide +kernel
theorem dX12_landsOne_119 : decode cX12_landsOne 119 = .ok (.if_icmp .ne 42, 3) := by decide +kernel
theorem dX12_landsOne_122 : decode cX12_landsOne 122 = .ok (.iload 7, 2) := by decide +kernel
theorem dX12_landsOne_124 : decode cX12_landsOne 124 = .ok (.iconst (-1), 1) := by decide +kernel
theorem dX12_landsOne_125 : decode cX12_landsOne 125 = .ok (.if_icmp .eq 36, 3) := by decide +kernel
theorem dX12_landsOne_128 : decode cX12_landsOne 128 = .ok (.iload_n 2, 1) := by decide +kernel
theorem dX12_landsOne_129 : decode cX12_landsOne 129 = .ok (.iload 7, 2) := by decide +kernel
theorem dX12_landsOne_131 : decode cX12_landsOne 131 = .ok (.invokestatic 329, 3) := by decide +kernel
theorem dX12_landsOne_134 : decode cX12_landsOne 134 = .ok (.ifCond .eq 27, 3) := by decide +kernel
theorem dX12_landsOne_137 : decode cX12_landsOne 137 = .ok (.aload_n 0, 1) := by decide +kernel
theorem dX12_landsOne_138 : decode cX12_landsOne 138 = .ok (.getfield 17, 3) := by decide +kernel
theorem dX12_landsOne_141 : decode cX12_landsOne 141 = .ok (.aload_n 0, 1) := by decide +kernel
theorem dX12_landsOne_142 : decode cX12_landsOne 142 = .ok (.iload 7, 2) := by decide +kernel
theorem dX12_landsOne_144 : decode cX12_landsOne 144 = .ok (.invokevirtual 247, 3) := by decide +kernel
theorem dX12_landsOne_147 : decode cX12_landsOne 147 = .ok (.iaload, 1) := by decide +kernel
theorem dX12_landsOne_148 : decode cX12_landsOne 148 = .ok (.istore 6, 2) := by decide +kernel
theorem dX12_landsOne_150 : decode cX12_landsOne 150 = .ok (.aload_n 0, 1) := by decide +kernel
theorem dX12_landsOne_151 : decode cX12_landsOne 151 = .ok (.iload 7, 2) := by decide +kernel
theorem dX12_landsOne_153 : decode cX12_landsOne 153 = .ok (.invokevirtual 298, 3) := by decide +kernel
theorem dX12_landsOne_156 : decode cX12_landsOne 156 = .ok (.istore 7, 2) := by decide +kernel
theorem dX12_landsOne_158 : decode cX12_landsOne 158 = .ok (.goto (-46), 3) := by decide +kernel
theorem dX12_landsOne_161 : decode cX12_landsOne 161 = .ok (.aload_n 0, 1) := by decide +kernel
theorem dX12_landsOne_162 : decode cX12_landsOne 162 = .ok (.getfield 7, 3) := by decide +kernel
theorem dX12_landsOne_165 : decode cX12_landsOne 165 = .ok (.bipush 80, 2) := by decide +kernel
theorem dX12_landsOne_167 : decode cX12_landsOne 167 = .ok (.if_icmp .eq 16, 3) := by decide +kernel
theorem dX12_landsOne_170 : decode cX12_landsOne 170 = .ok (.aload_n 0, 1) := by decide +kernel
theorem dX12_landsOne_171 : decode cX12_landsOne 171 = .ok (.iload 6, 2) := by decide +kernel
theorem dX12_landsOne_173 : decode cX12_landsOne 173 = .ok (.iload 5, 2) := by decide +kernel
theorem dX12_landsOne_175 : decode cX12_landsOne 175 = .ok (.iload 4, 2) := by decide +kernel
theorem dX12_landsOne_177 : decode cX12_landsOne 177 = .ok (.invokevirtual 360, 3) := by decide +kernel
theorem dX12_landsOne_180 : decode cX12_landsOne 180 = .ok (.ifCond .ne 6, 3) := by decide +kernel
theorem dX12_landsOne_183 : decode cX12_landsOne 183 = .ok (.bipush (-2), 2) := by decide +kernel
theorem dX12_landsOne_185 : decode cX12_landsOne 185 = .ok (.ireturn, 1) := by decide +kernel
theorem dX12_landsOne_186 : decode cX12_landsOne 186 = .ok (.aload_n 0, 1) := by decide +kernel
theorem dX12_landsOne_187 : decode cX12_landsOne 187 = .ok (.getfield 38, 3) := by decide +kernel
theorem dX12_landsOne_190 : decode cX12_landsOne 190 = .ok (.iload_n 3, 1) := by decide +kernel
theorem dX12_landsOne_191 : decode cX12_landsOne 191 = .ok (.aload_n 0, 1) := by decide +kernel
theorem dX12_landsOne_192 : decode cX12_landsOne 192 = .ok (.iload_n 3, 1) := by decide +kernel
theorem dX12_landsOne_193 : decode cX12_landsOne 193 = .ok (.iload 4, 2) := by decide +kernel
theorem dX12_landsOne_195 : decode cX12_landsOne 195 = .ok (.invokevirtual 363, 3) := by decide +kernel
theorem dX12_landsOne_198 : decode cX12_landsOne 198 = .ok (.iastore, 1) := by decide +kernel
theorem dX12_landsOne_199 : decode cX12_landsOne 199 = .ok (.aload_n 0, 1) := by decide +kernel
theorem dX12_landsOne_200 : decode cX12_landsOne 200 = .ok (.getfield 38, 3) := by decide +kernel
theorem dX12_landsOne_203 : decode cX12_landsOne 203 = .ok (.iload_n 3, 1) := by decide +kernel
theorem dX12_landsOne_204 : decode cX12_landsOne 204 = .ok (.iaload, 1) := by decide +kernel
theorem dX12_landsOne_205 : decode cX12_landsOne 205 = .ok (.ireturn, 1) := by decide +kernel
theorem dX12_areLandable_0 : decode cX12_areLandable 0 = .ok (.iconst 1, 1) := by decide +kernel
theorem dX12_areLandable_1 : decode cX12_areLandable 1 = .ok (.istore_n 2, 1) := by decide +kernel
theorem dX12_areLandable_2 : decode cX12_areLandable 2 = .ok (.iconst 0, 1) := by decide +kernel
theorem dX12_areLandable_3 : decode cX12_areLandable 3 = .ok (.istore_n 3, 1) := by decide +kernel
theorem dX12_areLandable_4 : decode cX12_areLandable 4 = .ok (.iload_n 3, 1) := by decide +kernel
theorem dX12_areLandable_5 : decode cX12_areLandable 5 = .ok (.aload_n 0, 1) := by decide +kernel
theorem dX12_areLandable_6 : decode cX12_areLandable 6 = .ok (.getfield 196, 3) := by decide +kernel
theorem dX12_areLandable_9 : decode cX12_areLandable 9 = .ok (.if_icmp .ge 44, 3) := by decide +kernel
theorem dX12_areLandable_12 : decode cX12_areLandable 12 = .ok (.iload_n 2, 1) := by decide +kernel
theorem dX12_areLandable_13 : decode cX12_areLandable 13 = .ok (.ifCond .eq 32, 3) := by decide +kernel
theorem dX12_areLandable_16 : decode cX12_areLandable 16 = .ok (.iload_n 1, 1) := by decide +kernel
theorem dX12_areLandable_17 : decode cX12_areLandable 17 = .ok (.iload_n 3, 1) := by decide +kernel
theorem dX12_areLandable_18 : decode cX12_areLandable 18 = .ok (.invokestatic 329, 3) := by decide +kernel
theorem dX12_areLandable_21 : decode cX12_areLandable 21 = .ok (.ifCond .eq 20, 3) := by decide +kernel
theorem dX12_areLandable_24 : decode cX12_areLandable 24 = .ok (.aload_n 0, 1) := by decide +kernel
theorem dX12_areLandable_25 : decode cX12_areLandable 25 = .ok (.iload_n 3, 1) := by decide +kernel
theorem dX12_areLandable_26 : decode cX12_areLandable 26 = .ok (.iload_n 1, 1) := by decide +kernel
theorem dX12_areLandable_27 : decode cX12_areLandable 27 = .ok (.invokevirtual 366, 3) := by decide +kernel
theorem dX12_areLandable_30 : decode cX12_areLandable 30 = .ok (.ifCond .eq 15, 3) := by decide +kernel
theorem dX12_areLandable_33 : decode cX12_areLandable 33 = .ok (.aload_n 0, 1) := by decide +kernel
theorem dX12_areLandable_34 : decode cX12_areLandable 34 = .ok (.iload_n 3, 1) := by decide +kernel
theorem dX12_areLandable_35 : decode cX12_areLandable 35 = .ok (.invokevirtual 369, 3) := by decide +kernel
theorem dX12_areLandable_38 : decode cX12_areLandable 38 = .ok (.ifCond .ne 7, 3) := by decide +kernel
theorem dX12_areLandable_41 : decode cX12_areLandable 41 = .ok (.iconst 1, 1) := by decide +kernel
theorem dX12_areLandable_42 : decode cX12_areLandable 42 = .ok (.goto 4, 3) := by decide +kernel
theorem dX12_areLandable_45 : decode cX12_areLandable 45 = .ok (.iconst 0, 1) := by decide +kernel
theorem dX12_areLandable_46 : decode cX12_areLandable 46 = .ok (.istore_n 2, 1) := by decide +kernel
theorem dX12_areLandable_47 : decode cX12_areLandable 47 = .ok (.iinc 3 1, 3) := by decide +kernel
theorem dX12_areLandable_50 : decode cX12_areLandable 50 = .ok (.goto (-46), 3) := by decide +kernel
theorem dX12_areLandable_53 : decode cX12_areLandable 53 = .ok (.iload_n 2, 1) := by decide +kernel
theorem dX12_areLandable_54 : decode cX12_areLandable 54 = .ok (.ireturn, 1) := by decide +kernel
theorem dX12_isBelow_0 : decode cX12_isBelow 0 = .ok (.iconst 0, 1) := by decide +kernel
theorem dX12_isBelow_1 : decode cX12_isBelow 1 = .ok (.istore 4, 2) := by decide +kernel
theorem dX12_isBelow_3 : decode cX12_isBelow 3 = .ok (.iload_n 1, 1) := by decide +kernel
theorem dX12_isBelow_4 : decode cX12_isBelow 4 = .ok (.istore 5, 2) := by decide +kernel
theorem dX12_isBelow_6 : decode cX12_isBelow 6 = .ok (.iload 5, 2) := by decide +kernel
theorem dX12_isBelow_8 : decode cX12_isBelow 8 = .ok (.iconst (-1), 1) := by decide +kernel
theorem dX12_isBelow_9 : decode cX12_isBelow 9 = .ok (.if_icmp .eq 41, 3) := by decide +kernel
theorem dX12_isBelow_12 : decode cX12_isBelow 12 = .ok (.iload_n 3, 1) := by decide +kernel
theorem dX12_isBelow_13 : decode cX12_isBelow 13 = .ok (.iload 5, 2) := by decide +kernel
theorem dX12_isBelow_15 : decode cX12_isBelow 15 = .ok (.invokestatic 329, 3) := by decide +kernel
theorem dX12_isBelow_18 : decode cX12_isBelow 18 = .ok (.ifCond .eq 32, 3) := by decide +kernel
theorem dX12_isBelow_21 : decode cX12_isBelow 21 = .ok (.iload 4, 2) := by decide +kernel
theorem dX12_isBelow_23 : decode cX12_isBelow 23 = .ok (.ifCond .ne 27, 3) := by decide +kernel
theorem dX12_isBelow_26 : decode cX12_isBelow 26 = .ok (.iload 5, 2) := by decide +kernel
theorem dX12_isBelow_28 : decode cX12_isBelow 28 = .ok (.iload_n 2, 1) := by decide +kernel
theorem dX12_isBelow_29 : decode cX12_isBelow 29 = .ok (.if_icmp .ne 7, 3) := by decide +kernel
theorem dX12_isBelow_32 : decode cX12_isBelow 32 = .ok (.iconst 1, 1) := by decide +kernel
theorem dX12_isBelow_33 : decode cX12_isBelow 33 = .ok (.goto 4, 3) := by decide +kernel
theorem dX12_isBelow_36 : decode cX12_isBelow 36 = .ok (.iconst 0, 1) := by decide +kernel
theorem dX12_isBelow_37 : decode cX12_isBelow 37 = .ok (.istore 4, 2) := by decide +kernel
theorem dX12_isBelow_39 : decode cX12_isBelow 39 = .ok (.aload_n 0, 1) := by decide +kernel
theorem dX12_isBelow_40 : decode cX12_isBelow 40 = .ok (.iload 5, 2) := by decide +kernel
theorem dX12_isBelow_42 : decode cX12_isBelow 42 = .ok (.invokevirtual 298, 3) := by decide +kernel
theorem dX12_isBelow_45 : decode cX12_isBelow 45 = .ok (.istore 5, 2) := by decide +kernel
theorem dX12_isBelow_47 : decode cX12_isBelow 47 = .ok (.goto (-41), 3) := by decide +kernel
theorem dX12_isBelow_50 : decode cX12_isBelow 50 = .ok (.iload 4, 2) := by decide +kernel
theorem dX12_isBelow_52 : decode cX12_isBelow 52 = .ok (.ireturn, 1) := by decide +kernel
theorem dX12_landed_0 : decode cX12_landed 0 = .ok (.iconst 0, 1) := by decide +kernel
theorem dX12_landed_1 : decode cX12_landed 1 = .ok (.istore_n 3, 1) := by decide +kernel
theorem dX12_landed_2 : decode cX12_landed 2 = .ok (.iload_n 3, 1) := by decide +kernel
theorem dX12_landed_3 : decode cX12_landed 3 = .ok (.aload_n 0, 1) := by decide +kernel
theorem dX12_landed_4 : decode cX12_landed 4 = .ok (.getfield 196, 3) := by decide +kernel
theorem dX12_landed_7 : decode cX12_landed 7 = .ok (.if_icmp .ge 37, 3) := by decide +kernel
theorem dX12_landed_10 : decode cX12_landed 10 = .ok (.iload_n 1, 1) := by decide +kernel
theorem dX12_landed_11 : decode cX12_landed 11 = .ok (.iload_n 3, 1) := by decide +kernel
theorem dX12_landed_12 : decode cX12_landed 12 = .ok (.invokestatic 329, 3) := by decide +kernel
theorem dX12_landed_15 : decode cX12_landed 15 = .ok (.ifCond .eq 23, 3) := by decide +kernel
theorem dX12_landed_18 : decode cX12_landed 18 = .ok (.aload_n 0, 1) := by decide +kernel
theorem dX12_landed_19 : decode cX12_landed 19 = .ok (.getfield 47, 3) := by decide +kernel
theorem dX12_landed_22 : decode cX12_landed 22 = .ok (.iload_n 3, 1) := by decide +kernel
theorem dX12_landed_23 : decode cX12_landed 23 = .ok (.iconst 1, 1) := by decide +kernel
theorem dX12_landed_24 : decode cX12_landed 24 = .ok (.iastore, 1) := by decide +kernel
theorem dX12_landed_25 : decode cX12_landed 25 = .ok (.aload_n 0, 1) := by decide +kernel
theorem dX12_landed_26 : decode cX12_landed 26 = .ok (.getfield 69, 3) := by decide +kernel
theorem dX12_landed_29 : decode cX12_landed 29 = .ok (.iload_n 3, 1) := by decide +kernel
theorem dX12_landed_30 : decode cX12_landed 30 = .ok (.iconst 0, 1) := by decide +kernel
theorem dX12_landed_31 : decode cX12_landed 31 = .ok (.iastore, 1) := by decide +kernel
theorem dX12_landed_32 : decode cX12_landed 32 = .ok (.aload_n 0, 1) := by decide +kernel
theorem dX12_landed_33 : decode cX12_landed 33 = .ok (.iload_n 3, 1) := by decide +kernel
theorem dX12_landed_34 : decode cX12_landed 34 = .ok (.iload_n 2, 1) := by decide +kernel
theorem dX12_landed_35 : decode cX12_landed 35 = .ok (.invokevirtual 372, 3) := by decide +kernel
theorem dX12_landed_38 : decode cX12_landed 38 = .ok (.iinc 3 1, 3) := by decide +kernel
theorem dX12_landed_41 : decode cX12_landed 41 = .ok (.goto (-39), 3) := by decide +kernel
theorem dX12_landed_44 : decode cX12_landed 44 = .ok (.return_, 1) := by decide +kernel
theorem dX12_lands_0 : decode cX12_lands 0 = .ok (.aload_n 0, 1) := by decide +kernel
theorem dX12_lands_1 : decode cX12_lands 1 = .ok (.iload_n 1, 1) := by decide +kernel
theorem dX12_lands_2 : decode cX12_lands 2 = .ok (.invokevirtual 375, 3) := by decide +kernel
theorem dX12_lands_5 : decode cX12_lands 5 = .ok (.istore_n 3, 1) := by decide +kernel
theorem dX12_lands_6 : decode cX12_lands 6 = .ok (.aload_n 0, 1) := by decide +kernel
theorem dX12_lands_7 : decode cX12_lands 7 = .ok (.iload_n 3, 1) := by decide +kernel
theorem dX12_lands_8 : decode cX12_lands 8 = .ok (.invokevirtual 378, 3) := by decide +kernel
theorem dX12_lands_11 : decode cX12_lands 11 = .ok (.ifCond .ne 5, 3) := by decide +kernel
theorem dX12_lands_14 : decode cX12_lands 14 = .ok (.iconst 0, 1) := by decide +kernel
theorem dX12_lands_15 : decode cX12_lands 15 = .ok (.ireturn, 1) := by decide +kernel
theorem dX12_lands_16 : decode cX12_lands 16 = .ok (.aload_n 0, 1) := by decide +kernel
theorem dX12_lands_17 : decode cX12_lands 17 = .ok (.getfield 7, 3) := by decide +kernel
theorem dX12_lands_20 : decode cX12_lands 20 = .ok (.istore 4, 2) := by decide +kernel
theorem dX12_lands_22 : decode cX12_lands 22 = .ok (.aload_n 0, 1) := by decide +kernel
theorem dX12_lands_23 : decode cX12_lands 23 = .ok (.getfield 38, 3) := by decide +kernel
theorem dX12_lands_26 : decode cX12_lands 26 = .ok (.iconst 0, 1) := by decide +kernel
theorem dX12_lands_27 : decode cX12_lands 27 = .ok (.iaload, 1) := by decide +kernel
theorem dX12_lands_28 : decode cX12_lands 28 = .ok (.istore 5, 2) := by decide +kernel
theorem dX12_lands_30 : decode cX12_lands 30 = .ok (.aload_n 0, 1) := by decide +kernel
theorem dX12_lands_31 : decode cX12_lands 31 = .ok (.getfield 38, 3) := by decide +kernel
theorem dX12_lands_34 : decode cX12_lands 34 = .ok (.iconst 1, 1) := by decide +kernel
theorem dX12_lands_35 : decode cX12_lands 35 = .ok (.iaload, 1) := by decide +kernel
theorem dX12_lands_36 : decode cX12_lands 36 = .ok (.istore 6, 2) := by decide +kernel
theorem dX12_lands_38 : decode cX12_lands 38 = .ok (.iload_n 3, 1) := by decide +kernel
theorem dX12_lands_39 : decode cX12_lands 39 = .ok (.istore 7, 2) := by decide +kernel
theorem dX12_lands_41 : decode cX12_lands 41 = .ok (.iconst 0, 1) := by decide +kernel
theorem dX12_lands_42 : decode cX12_lands 42 = .ok (.istore 8, 2) := by decide +kernel
theorem dX12_lands_44 : decode cX12_lands 44 = .ok (.iconst 1, 1) := by decide +kernel
theorem dX12_lands_45 : decode cX12_lands 45 = .ok (.istore 9, 2) := by decide +kernel
theorem dX12_lands_47 : decode cX12_lands 47 = .ok (.iload 7, 2) := by decide +kernel
theorem dX12_lands_49 : decode cX12_lands 49 = .ok (.ifCond .eq 168, 3) := by decide +kernel
theorem dX12_lands_52 : decode cX12_lands 52 = .ok (.iload 9, 2) := by decide +kernel
theorem dX12_lands_54 : decode cX12_lands 54 = .ok (.ifCond .eq 163, 3) := by decide +kernel
theorem dX12_lands_57 : decode cX12_lands 57 = .ok (.aload_n 0, 1) := by decide +kernel
theorem dX12_lands_58 : decode cX12_lands 58 = .ok (.iload 7, 2) := by decide +kernel
theorem dX12_lands_60 : decode cX12_lands 60 = .ok (.invokevirtual 381, 3) := by decide +kernel
theorem dX12_lands_63 : decode cX12_lands 63 = .ok (.istore 10, 2) := by decide +kernel
theorem dX12_lands_65 : decode cX12_lands 65 = .ok (.aload_n 0, 1) := by decide +kernel
theorem dX12_lands_66 : decode cX12_lands 66 = .ok (.iload 10, 2) := by decide +kernel
theorem dX12_lands_68 : decode cX12_lands 68 = .ok (.iload_n 3, 1) := by decide +kernel
theorem dX12_lands_69 : decode cX12_lands 69 = .ok (.invokevirtual 384, 3) := by decide +kernel
theorem dX12_lands_72 : decode cX12_lands 72 = .ok (.istore 11, 2) := by decide +kernel
theorem dX12_lands_74 : decode cX12_lands 74 = .ok (.iload 11, 2) := by decide +kernel
theorem dX12_lands_76 : decode cX12_lands 76 = .ok (.bipush (-2), 2) := by decide +kernel
theorem dX12_lands_78 : decode cX12_lands 78 = .ok (.if_icmp .eq 7, 3) := by decide +kernel
theorem dX12_lands_81 : decode cX12_lands 81 = .ok (.iconst 1, 1) := by decide +kernel
theorem dX12_lands_82 : decode cX12_lands 82 = .ok (.goto 4, 3) := by decide +kernel
theorem dX12_lands_85 : decode cX12_lands 85 = .ok (.iconst 0, 1) := by decide +kernel
theorem dX12_lands_86 : decode cX12_lands 86 = .ok (.istore 9, 2) := by decide +kernel
theorem dX12_lands_88 : decode cX12_lands 88 = .ok (.iload 7, 2) := by decide +kernel
theorem dX12_lands_90 : decode cX12_lands 90 = .ok (.iconst 1, 1) := by decide +kernel
theorem dX12_lands_91 : decode cX12_lands 91 = .ok (.iload 10, 2) := by decide +kernel
theorem dX12_lands_93 : decode cX12_lands 93 = .ok (.ishl, 1) := by decide +kernel
theorem dX12_lands_94 : decode cX12_lands 94 = .ok (.iconst (-1), 1) := by decide +kernel
theorem dX12_lands_95 : decode cX12_lands 95 = .ok (.ixor, 1) := by decide +kernel
theorem dX12_lands_96 : decode cX12_lands 96 = .ok (.iand, 1) := by decide +kernel
theorem dX12_lands_97 : decode cX12_lands 97 = .ok (.istore 7, 2) := by decide +kernel
theorem dX12_lands_99 : decode cX12_lands 99 = .ok (.iload 8, 2) := by decide +kernel
theorem dX12_lands_101 : decode cX12_lands 101 = .ok (.iload 11, 2) := by decide +kernel
theorem dX12_lands_103 : decode cX12_lands 103 = .ok (.iconst (-1), 1) := by decide +kernel
theorem dX12_lands_104 : decode cX12_lands 104 = .ok (.if_icmp .ne 10, 3) := by decide +kernel
theorem dX12_lands_107 : decode cX12_lands 107 = .ok (.iconst 1, 1) := by decide +kernel
theorem dX12_lands_108 : decode cX12_lands 108 = .ok (.iload 10, 2) := by decide +kernel
theorem dX12_lands_110 : decode cX12_lands 110 = .ok (.ishl, 1) := by decide +kernel
theorem dX12_lands_111 : decode cX12_lands 111 = .ok (.goto 4, 3) := by decide +kernel
theorem dX12_lands_114 : decode cX12_lands 114 = .ok (.iconst 0, 1) := by decide +kernel
theorem dX12_lands_115 : decode cX12_lands 115 = .ok (.ior, 1) := by decide +kernel
theorem dX12_lands_116 : decode cX12_lands 116 = .ok (.istore 8, 2) := by decide +kernel
theorem dX12_lands_118 : decode cX12_lands 118 = .ok (.aload_n 0, 1) := by decide +kernel
theorem dX12_lands_119 : decode cX12_lands 119 = .ok (.getfield 63, 3) := by decide +kernel
theorem dX12_lands_122 : decode cX12_lands 122 = .ok (.iload 10, 2) := by decide +kernel
theorem dX12_lands_124 : decode cX12_lands 124 = .ok (.iload 11, 2) := by decide +kernel
theorem dX12_lands_126 : decode cX12_lands 126 = .ok (.iastore, 1) := by decide +kernel
theorem dX12_lands_127 : decode cX12_lands 127 = .ok (.iconst 0, 1) := by decide +kernel
theorem dX12_lands_128 : decode cX12_lands 128 = .ok (.istore 12, 2) := by decide +kernel
theorem dX12_lands_130 : decode cX12_lands 130 = .ok (.iload 12, 2) := by decide +kernel
theorem dX12_lands_132 : decode cX12_lands 132 = .ok (.aload_n 0, 1) := by decide +kernel
theorem dX12_lands_133 : decode cX12_lands 133 = .ok (.getfield 196, 3) := by decide +kernel
theorem dX12_lands_136 : decode cX12_lands 136 = .ok (.if_icmp .ge 78, 3) := by decide +kernel
theorem dX12_lands_139 : decode cX12_lands 139 = .ok (.iload 11, 2) := by decide +kernel
theorem dX12_lands_141 : decode cX12_lands 141 = .ok (.ifCond .lt 73, 3) := by decide +kernel
theorem dX12_lands_144 : decode cX12_lands 144 = .ok (.iload 8, 2) := by decide +kernel
theorem dX12_lands_146 : decode cX12_lands 146 = .ok (.iload 12, 2) := by decide +kernel
theorem dX12_lands_148 : decode cX12_lands 148 = .ok (.invokestatic 329, 3) := by decide +kernel
theorem dX12_lands_151 : decode cX12_lands 151 = .ok (.ifCond .eq 30, 3) := by decide +kernel
theorem dX12_lands_154 : decode cX12_lands 154 = .ok (.aload_n 0, 1) := by decide +kernel
theorem dX12_lands_155 : decode cX12_lands 155 = .ok (.getfield 63, 3) := by decide +kernel
theorem dX12_lands_158 : decode cX12_lands 158 = .ok (.iload 12, 2) := by decide +kernel
theorem dX12_lands_160 : decode cX12_lands 160 = .ok (.iaload, 1) := by decide +kernel
theorem dX12_lands_161 : decode cX12_lands 161 = .ok (.iconst (-1), 1) := by decide +kernel
theorem dX12_lands_162 : decode cX12_lands 162 = .ok (.if_icmp .ne 19, 3) := by decide +kernel
theorem dX12_lands_165 : decode cX12_lands 165 = .ok (.aload_n 0, 1) := by decide +kernel
theorem dX12_lands_166 : decode cX12_lands 166 = .ok (.iload 10, 2) := by decide +kernel
theorem dX12_lands_168 : decode cX12_lands 168 = .ok (.iload 12, 2) := by decide +kernel
theorem dX12_lands_170 : decode cX12_lands 170 = .ok (.iload_n 3, 1) := by decide +kernel
theorem dX12_lands_171 : decode cX12_lands 171 = .ok (.invokevirtual 387, 3) := by decide +kernel
theorem dX12_lands_174 : decode cX12_lands 174 = .ok (.ifCond .eq 7, 3) := by decide +kernel
theorem dX12_lands_177 : decode cX12_lands 177 = .ok (.iconst 1, 1) := by decide +kernel
theorem dX12_lands_178 : decode cX12_lands 178 = .ok (.goto 4, 3) := by decide +kernel
theorem dX12_lands_181 : decode cX12_lands 181 = .ok (.iconst 0, 1) := by decide +kernel
theorem dX12_lands_182 : decode cX12_lands 182 = .ok (.istore 13, 2) := by decide +kernel
theorem dX12_lands_184 : decode cX12_lands 184 = .ok (.aload_n 0, 1) := by decide +kernel
theorem dX12_lands_185 : decode cX12_lands 185 = .ok (.getfield 63, 3) := by decide +kernel
theorem dX12_lands_188 : decode cX12_lands 188 = .ok (.iload 12, 2) := by decide +kernel
theorem dX12_lands_190 : decode cX12_lands 190 = .ok (.iload 13, 2) := by decide +kernel
theorem dX12_lands_192 : decode cX12_lands 192 = .ok (.ifCond .eq 8, 3) := by decide +kernel
theorem dX12_lands_195 : decode cX12_lands 195 = .ok (.iload 11, 2) := by decide +kernel
theorem dX12_lands_197 : decode cX12_lands 197 = .ok (.goto 10, 3) := by decide +kernel
theorem dX12_lands_200 : decode cX12_lands 200 = .ok (.aload_n 0, 1) := by decide +kernel
theorem dX12_lands_201 : decode cX12_lands 201 = .ok (.getfield 63, 3) := by decide +kernel
theorem dX12_lands_204 : decode cX12_lands 204 = .ok (.iload 12, 2) := by decide +kernel
theorem dX12_lands_206 : decode cX12_lands 206 = .ok (.iaload, 1) := by decide +kernel
theorem dX12_lands_207 : decode cX12_lands 207 = .ok (.iastore, 1) := by decide +kernel
theorem dX12_lands_208 : decode cX12_lands 208 = .ok (.iinc 12 1, 3) := by decide +kernel
theorem dX12_lands_211 : decode cX12_lands 211 = .ok (.goto (-81), 3) := by decide +kernel
theorem dX12_lands_214 : decode cX12_lands 214 = .ok (.goto (-167), 3) := by decide +kernel
theorem dX12_lands_217 : decode cX12_lands 217 = .ok (.iload 9, 2) := by decide +kernel
theorem dX12_lands_219 : decode cX12_lands 219 = .ok (.ifCond .ne 27, 3) := by decide +kernel
theorem dX12_lands_222 : decode cX12_lands 222 = .ok (.aload_n 0, 1) := by decide +kernel
theorem dX12_lands_223 : decode cX12_lands 223 = .ok (.iload 4, 2) := by decide +kernel
theorem dX12_lands_225 : decode cX12_lands 225 = .ok (.putfield 7, 3) := by decide +kernel
theorem dX12_lands_228 : decode cX12_lands 228 = .ok (.aload_n 0, 1) := by decide +kernel
theorem dX12_lands_229 : decode cX12_lands 229 = .ok (.getfield 38, 3) := by decide +kernel
theorem dX12_lands_232 : decode cX12_lands 232 = .ok (.iconst 0, 1) := by decide +kernel
theorem dX12_lands_233 : decode cX12_lands 233 = .ok (.iload 5, 2) := by decide +kernel
theorem dX12_lands_235 : decode cX12_lands 235 = .ok (.iastore, 1) := by decide +kernel
theorem dX12_lands_236 : decode cX12_lands 236 = .ok (.aload_n 0, 1) := by decide +kernel
theorem dX12_lands_237 : decode cX12_lands 237 = .ok (.getfield 38, 3) := by decide +kernel
theorem dX12_lands_240 : decode cX12_lands 240 = .ok (.iconst 1, 1) := by decide +kernel
theorem dX12_lands_241 : decode cX12_lands 241 = .ok (.iload 6, 2) := by decide +kernel
theorem dX12_lands_243 : decode cX12_lands 243 = .ok (.iastore, 1) := by decide +kernel
theorem dX12_lands_244 : decode cX12_lands 244 = .ok (.iconst (-1), 1) := by decide +kernel
theorem dX12_lands_245 : decode cX12_lands 245 = .ok (.ireturn, 1) := by decide +kernel
theorem dX12_lands_246 : decode cX12_lands 246 = .ok (.aload_n 0, 1) := by decide +kernel
theorem dX12_lands_247 : decode cX12_lands 247 = .ok (.iload_n 3, 1) := by decide +kernel
theorem dX12_lands_248 : decode cX12_lands 248 = .ok (.iload 8, 2) := by decide +kernel
theorem dX12_lands_250 : decode cX12_lands 250 = .ok (.invokevirtual 390, 3) := by decide +kernel
theorem dX12_lands_253 : decode cX12_lands 253 = .ok (.aload_n 0, 1) := by decide +kernel
theorem dX12_lands_254 : decode cX12_lands 254 = .ok (.iload_n 3, 1) := by decide +kernel
theorem dX12_lands_255 : decode cX12_lands 255 = .ok (.iload_n 2, 1) := by decide +kernel
theorem dX12_lands_256 : decode cX12_lands 256 = .ok (.invokevirtual 393, 3) := by decide +kernel
theorem dX12_lands_259 : decode cX12_lands 259 = .ok (.iload_n 3, 1) := by decide +kernel
theorem dX12_lands_260 : decode cX12_lands 260 = .ok (.invokestatic 292, 3) := by decide +kernel
theorem dX12_lands_263 : decode cX12_lands 263 = .ok (.ireturn, 1) := by decide +kernel
theorem dX12_names_0 : decode cX12_names 0 = .ok (.iconst 0, 1) := by decide +kernel
theorem dX12_names_1 : decode cX12_names 1 = .ok (.istore_n 3, 1) := by decide +kernel
theorem dX12_names_2 : decode cX12_names 2 = .ok (.iload_n 3, 1) := by decide +kernel
theorem dX12_names_3 : decode cX12_names 3 = .ok (.aload_n 0, 1) := by decide +kernel
theorem dX12_names_4 : decode cX12_names 4 = .ok (.getfield 196, 3) := by decide +kernel
theorem dX12_names_7 : decode cX12_names 7 = .ok (.if_icmp .ge 37, 3) := by decide +kernel
theorem dX12_names_10 : decode cX12_names 10 = .ok (.iload_n 1, 1) := by decide +kernel
theorem dX12_names_11 : decode cX12_names 11 = .ok (.iload_n 3, 1) := by decide +kernel
theorem dX12_names_12 : decode cX12_names 12 = .ok (.invokestatic 329, 3) := by decide +kernel
theorem dX12_names_15 : decode cX12_names 15 = .ok (.ifCond .eq 23, 3) := by decide +kernel
theorem dX12_names_18 : decode cX12_names 18 = .ok (.iload_n 2, 1) := by decide +kernel
theorem dX12_names_19 : decode cX12_names 19 = .ok (.iload_n 3, 1) := by decide +kernel
theorem dX12_names_20 : decode cX12_names 20 = .ok (.invokestatic 329, 3) := by decide +kernel
theorem dX12_names_23 : decode cX12_names 23 = .ok (.ifCond .ne 15, 3) := by decide +kernel
theorem dX12_names_26 : decode cX12_names 26 = .ok (.aload_n 0, 1) := by decide +kernel
theorem dX12_names_27 : decode cX12_names 27 = .ok (.getfield 35, 3) := by decide +kernel
theorem dX12_names_30 : decode cX12_names 30 = .ok (.aload_n 0, 1) := by decide +kernel
theorem dX12_names_31 : decode cX12_names 31 = .ok (.getfield 63, 3) := by decide +kernel
theorem dX12_names_34 : decode cX12_names 34 = .ok (.iload_n 3, 1) := by decide +kernel
theorem dX12_names_35 : decode cX12_names 35 = .ok (.iaload, 1) := by decide +kernel
theorem dX12_names_36 : decode cX12_names 36 = .ok (.iload_n 3, 1) := by decide +kernel
theorem dX12_names_37 : decode cX12_names 37 = .ok (.iastore, 1) := by decide +kernel
theorem dX12_names_38 : decode cX12_names 38 = .ok (.iinc 3 1, 3) := by decide +kernel
theorem dX12_names_41 : decode cX12_names 41 = .ok (.goto (-39), 3) := by decide +kernel
theorem dX12_names_44 : decode cX12_names 44 = .ok (.return_, 1) := by decide +kernel
theorem dX12_take_0 : decode cX12_take 0 = .ok (.aload_n 0, 1) := by decide +kernel
theorem dX12_take_1 : decode cX12_take 1 = .ok (.aload_n 0, 1) := by decide +kernel
theorem dX12_take_2 : decode cX12_take 2 = .ok (.iload_n 1, 1) := by decide +kernel
theorem dX12_take_3 : decode cX12_take 3 = .ok (.invokevirtual 396, 3) := by decide +kernel
theorem dX12_take_6 : decode cX12_take 6 = .ok (.ifCond .eq 7, 3) := by decide +kernel
theorem dX12_take_9 : decode cX12_take 9 = .ok (.iconst 0, 1) := by decide +kernel
theorem dX12_take_10 : decode cX12_take 10 = .ok (.goto 4, 3) := by decide +kernel
theorem dX12_take_13 : decode cX12_take 13 = .ok (.iconst 1, 1) := by decide +kernel
theorem dX12_take_14 : decode cX12_take 14 = .ok (.invokevirtual 399, 3) := by decide +kernel
theorem dX12_take_17 : decode cX12_take 17 = .ok (.ifCond .ne 5, 3) := by decide +kernel
theorem dX12_take_20 : decode cX12_take 20 = .ok (.iconst 0, 1) := by decide +kernel
theorem dX12_take_21 : decode cX12_take 21 = .ok (.ireturn, 1) := by decide +kernel
theorem dX12_take_22 : decode cX12_take 22 = .ok (.aload_n 0, 1) := by decide +kernel
theorem dX12_take_23 : decode cX12_take 23 = .ok (.iload_n 1, 1) := by decide +kernel
theorem dX12_take_24 : decode cX12_take 24 = .ok (.bipush 80, 2) := by decide +kernel
theorem dX12_take_26 : decode cX12_take 26 = .ok (.invokevirtual 354, 3) := by decide +kernel
theorem dX12_take_29 : decode cX12_take 29 = .ok (.aload_n 0, 1) := by decide +kernel
theorem dX12_take_30 : decode cX12_take 30 = .ok (.getfield 17, 3) := by decide +kernel
theorem dX12_take_33 : decode cX12_take 33 = .ok (.bipush 80, 2) := by decide +kernel
theorem dX12_take_35 : decode cX12_take 35 = .ok (.iload_n 1, 1) := by decide +kernel
theorem dX12_take_36 : decode cX12_take 36 = .ok (.iastore, 1) := by decide +kernel
theorem dX12_take_37 : decode cX12_take 37 = .ok (.aload_n 0, 1) := by decide +kernel
theorem dX12_take_38 : decode cX12_take 38 = .ok (.getfield 13, 3) := by decide +kernel
theorem dX12_take_41 : decode cX12_take 41 = .ok (.iload_n 1, 1) := by decide +kernel
theorem dX12_take_42 : decode cX12_take 42 = .ok (.iaload, 1) := by decide +kernel
theorem dX12_take_43 : decode cX12_take 43 = .ok (.ireturn, 1) := by decide +kernel
theorem dX12_takeSet_0 : decode cX12_takeSet 0 = .ok (.aload_n 0, 1) := by decide +kernel
theorem dX12_takeSet_1 : decode cX12_takeSet 1 = .ok (.aload_n 0, 1) := by decide +kernel
theorem dX12_takeSet_2 : decode cX12_takeSet 2 = .ok (.iload_n 1, 1) := by decide +kernel
theorem dX12_takeSet_3 : decode cX12_takeSet 3 = .ok (.iload_n 2, 1) := by decide +kernel
theorem dX12_takeSet_4 : decode cX12_takeSet 4 = .ok (.invokevirtual 402, 3) := by decide +kernel
theorem dX12_takeSet_7 : decode cX12_takeSet 7 = .ok (.ifCond .eq 7, 3) := by decide +kernel
theorem dX12_takeSet_10 : decode cX12_takeSet 10 = .ok (.iconst 0, 1) := by decide +kernel
theorem dX12_takeSet_11 : decode cX12_takeSet 11 = .ok (.goto 4, 3) := by decide +kernel
theorem dX12_takeSet_14 : decode cX12_takeSet 14 = .ok (.iconst 1, 1) := by decide +kernel
theorem dX12_takeSet_15 : decode cX12_takeSet 15 = .ok (.invokevirtual 399, 3) := by decide +kernel
theorem dX12_takeSet_18 : decode cX12_takeSet 18 = .ok (.ifCond .ne 5, 3) := by decide +kernel
theorem dX12_takeSet_21 : decode cX12_takeSet 21 = .ok (.iconst 0, 1) := by decide +kernel
theorem dX12_takeSet_22 : decode cX12_takeSet 22 = .ok (.ireturn, 1) := by decide +kernel
theorem dX12_takeSet_23 : decode cX12_takeSet 23 = .ok (.aload_n 0, 1) := by decide +kernel
theorem dX12_takeSet_24 : decode cX12_takeSet 24 = .ok (.aload_n 0, 1) := by decide +kernel
theorem dX12_takeSet_25 : decode cX12_takeSet 25 = .ok (.iload_n 1, 1) := by decide +kernel
theorem dX12_takeSet_26 : decode cX12_takeSet 26 = .ok (.iload_n 2, 1) := by decide +kernel
theorem dX12_takeSet_27 : decode cX12_takeSet 27 = .ok (.invokevirtual 244, 3) := by decide +kernel
theorem dX12_takeSet_30 : decode cX12_takeSet 30 = .ok (.bipush 80, 2) := by decide +kernel
theorem dX12_takeSet_32 : decode cX12_takeSet 32 = .ok (.invokevirtual 354, 3) := by decide +kernel
theorem dX12_takeSet_35 : decode cX12_takeSet 35 = .ok (.aload_n 0, 1) := by decide +kernel
theorem dX12_takeSet_36 : decode cX12_takeSet 36 = .ok (.getfield 17, 3) := by decide +kernel
theorem dX12_takeSet_39 : decode cX12_takeSet 39 = .ok (.bipush 80, 2) := by decide +kernel
theorem dX12_takeSet_41 : decode cX12_takeSet 41 = .ok (.aload_n 0, 1) := by decide +kernel
theorem dX12_takeSet_42 : decode cX12_takeSet 42 = .ok (.getfield 17, 3) := by decide +kernel
theorem dX12_takeSet_45 : decode cX12_takeSet 45 = .ok (.aload_n 0, 1) := by decide +kernel
theorem dX12_takeSet_46 : decode cX12_takeSet 46 = .ok (.iload_n 1, 1) := by decide +kernel
theorem dX12_takeSet_47 : decode cX12_takeSet 47 = .ok (.iload_n 2, 1) := by decide +kernel
theorem dX12_takeSet_48 : decode cX12_takeSet 48 = .ok (.invokevirtual 244, 3) := by decide +kernel
theorem dX12_takeSet_51 : decode cX12_takeSet 51 = .ok (.iaload, 1) := by decide +kernel
theorem dX12_takeSet_52 : decode cX12_takeSet 52 = .ok (.iastore, 1) := by decide +kernel
theorem dX12_takeSet_53 : decode cX12_takeSet 53 = .ok (.aload_n 0, 1) := by decide +kernel
theorem dX12_takeSet_54 : decode cX12_takeSet 54 = .ok (.getfield 17, 3) := by decide +kernel
theorem dX12_takeSet_57 : decode cX12_takeSet 57 = .ok (.bipush 80, 2) := by decide +kernel
theorem dX12_takeSet_59 : decode cX12_takeSet 59 = .ok (.iaload, 1) := by decide +kernel
theorem dX12_takeSet_60 : decode cX12_takeSet 60 = .ok (.ireturn, 1) := by decide +kernel
theorem dX12_put_0 : decode cX12_put 0 = .ok (.aload_n 0, 1) := by decide +kernel
theorem dX12_put_1 : decode cX12_put 1 = .ok (.iload_n 1, 1) := by decide +kernel
theorem dX12_put_2 : decode cX12_put 2 = .ok (.invokestatic 405, 3) := by decide +kernel
theorem dX12_put_5 : decode cX12_put 5 = .ok (.ifCond .eq 18, 3) := by decide +kernel
theorem dX12_put_8 : decode cX12_put 8 = .ok (.iload_n 2, 1) := by decide +kernel
theorem dX12_put_9 : decode cX12_put 9 = .ok (.iconst 0, 1) := by decide +kernel
theorem dX12_put_10 : decode cX12_put 10 = .ok (.aload_n 0, 1) := by decide +kernel
theorem dX12_put_11 : decode cX12_put 11 = .ok (.bipush 80, 2) := by decide +kernel
theorem dX12_put_13 : decode cX12_put 13 = .ok (.iload_n 1, 1) := by decide +kernel
theorem dX12_put_14 : decode cX12_put 14 = .ok (.invokevirtual 207, 3) := by decide +kernel
theorem dX12_put_17 : decode cX12_put 17 = .ok (.invokestatic 192, 3) := by decide +kernel
theorem dX12_put_20 : decode cX12_put 20 = .ok (.ifCond .ne 7, 3) := by decide +kernel
theorem dX12_put_23 : decode cX12_put 23 = .ok (.iconst 1, 1) := by decide +kernel
theorem dX12_put_24 : decode cX12_put 24 = .ok (.goto 35, 3) := by decide +kernel
theorem dX12_put_27 : decode cX12_put 27 = .ok (.iload_n 3, 1) := by decide +kernel
theorem dX12_put_28 : decode cX12_put 28 = .ok (.iconst 0, 1) := by decide +kernel
theorem dX12_put_29 : decode cX12_put 29 = .ok (.sipush 399, 3) := by decide +kernel
theorem dX12_put_32 : decode cX12_put 32 = .ok (.invokestatic 192, 3) := by decide +kernel
theorem dX12_put_35 : decode cX12_put 35 = .ok (.ifCond .ne 7, 3) := by decide +kernel
theorem dX12_put_38 : decode cX12_put 38 = .ok (.iconst 2, 1) := by decide +kernel
theorem dX12_put_39 : decode cX12_put 39 = .ok (.goto 20, 3) := by decide +kernel
theorem dX12_put_42 : decode cX12_put 42 = .ok (.aload_n 0, 1) := by decide +kernel
theorem dX12_put_43 : decode cX12_put 43 = .ok (.bipush 80, 2) := by decide +kernel
theorem dX12_put_45 : decode cX12_put 45 = .ok (.iload_n 1, 1) := by decide +kernel
theorem dX12_put_46 : decode cX12_put 46 = .ok (.invokevirtual 207, 3) := by decide +kernel
theorem dX12_put_49 : decode cX12_put 49 = .ok (.bipush 10, 2) := by decide +kernel
theorem dX12_put_51 : decode cX12_put 51 = .ok (.if_icmp .ne 7, 3) := by decide +kernel
theorem dX12_put_54 : decode cX12_put 54 = .ok (.iconst 3, 1) := by decide +kernel
theorem dX12_put_55 : decode cX12_put 55 = .ok (.goto 4, 3) := by decide +kernel
theorem dX12_put_58 : decode cX12_put 58 = .ok (.iconst 0, 1) := by decide +kernel
theorem dX12_put_59 : decode cX12_put 59 = .ok (.invokevirtual 399, 3) := by decide +kernel
theorem dX12_put_62 : decode cX12_put 62 = .ok (.ifCond .ne 5, 3) := by decide +kernel
theorem dX12_put_65 : decode cX12_put 65 = .ok (.iconst 0, 1) := by decide +kernel
theorem dX12_put_66 : decode cX12_put 66 = .ok (.ireturn, 1) := by decide +kernel
theorem dX12_put_67 : decode cX12_put 67 = .ok (.bipush 10, 2) := by decide +kernel
theorem dX12_put_69 : decode cX12_put 69 = .ok (.sipush 320, 3) := by decide +kernel
theorem dX12_put_72 : decode cX12_put 72 = .ok (.iload_n 1, 1) := by decide +kernel
theorem dX12_put_73 : decode cX12_put 73 = .ok (.iadd, 1) := by decide +kernel
theorem dX12_put_74 : decode cX12_put 74 = .ok (.imul, 1) := by decide +kernel
theorem dX12_put_75 : decode cX12_put 75 = .ok (.istore 4, 2) := by decide +kernel
theorem dX12_put_77 : decode cX12_put 77 = .ok (.iload 4, 2) := by decide +kernel
theorem dX12_put_79 : decode cX12_put 79 = .ok (.aload_n 0, 1) := by decide +kernel
theorem dX12_put_80 : decode cX12_put 80 = .ok (.bipush 80, 2) := by decide +kernel
theorem dX12_put_82 : decode cX12_put 82 = .ok (.iload_n 1, 1) := by decide +kernel
theorem dX12_put_83 : decode cX12_put 83 = .ok (.invokevirtual 207, 3) := by decide +kernel
theorem dX12_put_86 : decode cX12_put 86 = .ok (.iadd, 1) := by decide +kernel
theorem dX12_put_87 : decode cX12_put 87 = .ok (.istore 5, 2) := by decide +kernel
theorem dX12_put_89 : decode cX12_put 89 = .ok (.iload 5, 2) := by decide +kernel
theorem dX12_put_91 : decode cX12_put 91 = .ok (.iload 4, 2) := by decide +kernel
theorem dX12_put_93 : decode cX12_put 93 = .ok (.iload_n 2, 1) := by decide +kernel
theorem dX12_put_94 : decode cX12_put 94 = .ok (.iadd, 1) := by decide +kernel
theorem dX12_put_95 : decode cX12_put 95 = .ok (.if_icmp .le 25, 3) := by decide +kernel
theorem dX12_put_98 : decode cX12_put 98 = .ok (.aload_n 0, 1) := by decide +kernel
theorem dX12_put_99 : decode cX12_put 99 = .ok (.getfield 23, 3) := by decide +kernel
theorem dX12_put_102 : decode cX12_put 102 = .ok (.iload 5, 2) := by decide +kernel
theorem dX12_put_104 : decode cX12_put 104 = .ok (.aload_n 0, 1) := by decide +kernel
theorem dX12_put_105 : decode cX12_put 105 = .ok (.getfield 23, 3) := by decide +kernel
theorem dX12_put_108 : decode cX12_put 108 = .ok (.iload 5, 2) := by decide +kernel
theorem dX12_put_110 : decode cX12_put 110 = .ok (.iconst 1, 1) := by decide +kernel
theorem dX12_put_111 : decode cX12_put 111 = .ok (.isub, 1) := by decide +kernel
theorem dX12_put_112 : decode cX12_put 112 = .ok (.iaload, 1) := by decide +kernel
theorem dX12_put_113 : decode cX12_put 113 = .ok (.iastore, 1) := by decide +kernel
theorem dX12_put_114 : decode cX12_put 114 = .ok (.iinc 5 (-1), 3) := by decide +kernel
theorem dX12_put_117 : decode cX12_put 117 = .ok (.goto (-28), 3) := by decide +kernel
theorem dX12_put_120 : decode cX12_put 120 = .ok (.aload_n 0, 1) := by decide +kernel
theorem dX12_put_121 : decode cX12_put 121 = .ok (.getfield 23, 3) := by decide +kernel
theorem dX12_put_124 : decode cX12_put 124 = .ok (.iload 4, 2) := by decide +kernel
theorem dX12_put_126 : decode cX12_put 126 = .ok (.iload_n 2, 1) := by decide +kernel
theorem dX12_put_127 : decode cX12_put 127 = .ok (.iadd, 1) := by decide +kernel
theorem dX12_put_128 : decode cX12_put 128 = .ok (.iload_n 3, 1) := by decide +kernel
theorem dX12_put_129 : decode cX12_put 129 = .ok (.iastore, 1) := by decide +kernel
theorem dX12_put_130 : decode cX12_put 130 = .ok (.aload_n 0, 1) := by decide +kernel
theorem dX12_put_131 : decode cX12_put 131 = .ok (.getfield 20, 3) := by decide +kernel
theorem dX12_put_134 : decode cX12_put 134 = .ok (.sipush 320, 3) := by decide +kernel
theorem dX12_put_137 : decode cX12_put 137 = .ok (.iload_n 1, 1) := by decide +kernel
theorem dX12_put_138 : decode cX12_put 138 = .ok (.iadd, 1) := by decide +kernel
theorem dX12_put_139 : decode cX12_put 139 = .ok (.dup2, 1) := by decide +kernel
theorem dX12_put_140 : decode cX12_put 140 = .ok (.iaload, 1) := by decide +kernel
theorem dX12_put_141 : decode cX12_put 141 = .ok (.iconst 1, 1) := by decide +kernel
theorem dX12_put_142 : decode cX12_put 142 = .ok (.iadd, 1) := by decide +kernel
theorem dX12_put_143 : decode cX12_put 143 = .ok (.iastore, 1) := by decide +kernel
theorem dX12_put_144 : decode cX12_put 144 = .ok (.aload_n 0, 1) := by decide +kernel
theorem dX12_put_145 : decode cX12_put 145 = .ok (.bipush 80, 2) := by decide +kernel
theorem dX12_put_147 : decode cX12_put 147 = .ok (.iload_n 1, 1) := by decide +kernel
theorem dX12_put_148 : decode cX12_put 148 = .ok (.invokevirtual 207, 3) := by decide +kernel
theorem dX12_put_151 : decode cX12_put 151 = .ok (.ireturn, 1) := by decide +kernel
theorem dX12_cut_0 : decode cX12_cut 0 = .ok (.aload_n 0, 1) := by decide +kernel
theorem dX12_cut_1 : decode cX12_cut 1 = .ok (.iload_n 1, 1) := by decide +kernel
theorem dX12_cut_2 : decode cX12_cut 2 = .ok (.invokestatic 405, 3) := by decide +kernel
theorem dX12_cut_5 : decode cX12_cut 5 = .ok (.ifCond .eq 20, 3) := by decide +kernel
theorem dX12_cut_8 : decode cX12_cut 8 = .ok (.iload_n 2, 1) := by decide +kernel
theorem dX12_cut_9 : decode cX12_cut 9 = .ok (.iconst 0, 1) := by decide +kernel
theorem dX12_cut_10 : decode cX12_cut 10 = .ok (.aload_n 0, 1) := by decide +kernel
theorem dX12_cut_11 : decode cX12_cut 11 = .ok (.bipush 80, 2) := by decide +kernel
theorem dX12_cut_13 : decode cX12_cut 13 = .ok (.iload_n 1, 1) := by decide +kernel
theorem dX12_cut_14 : decode cX12_cut 14 = .ok (.invokevirtual 207, 3) := by decide +kernel
theorem dX12_cut_17 : decode cX12_cut 17 = .ok (.iconst 1, 1) := by decide +kernel
theorem dX12_cut_18 : decode cX12_cut 18 = .ok (.isub, 1) := by decide +kernel
theorem dX12_cut_19 : decode cX12_cut 19 = .ok (.invokestatic 192, 3) := by decide +kernel
theorem dX12_cut_22 : decode cX12_cut 22 = .ok (.ifCond .ne 7, 3) := by decide +kernel
theorem dX12_cut_25 : decode cX12_cut 25 = .ok (.iconst 1, 1) := by decide +kernel
theorem dX12_cut_26 : decode cX12_cut 26 = .ok (.goto 4, 3) := by decide +kernel
theorem dX12_cut_29 : decode cX12_cut 29 = .ok (.iconst 0, 1) := by decide +kernel
theorem dX12_cut_30 : decode cX12_cut 30 = .ok (.invokevirtual 399, 3) := by decide +kernel
theorem dX12_cut_33 : decode cX12_cut 33 = .ok (.ifCond .ne 5, 3) := by decide +kernel
theorem dX12_cut_36 : decode cX12_cut 36 = .ok (.iconst 0, 1) := by decide +kernel
theorem dX12_cut_37 : decode cX12_cut 37 = .ok (.ireturn, 1) := by decide +kernel
theorem dX12_cut_38 : decode cX12_cut 38 = .ok (.bipush 10, 2) := by decide +kernel
theorem dX12_cut_40 : decode cX12_cut 40 = .ok (.sipush 320, 3) := by decide +kernel
theorem dX12_cut_43 : decode cX12_cut 43 = .ok (.iload_n 1, 1) := by decide +kernel
theorem dX12_cut_44 : decode cX12_cut 44 = .ok (.iadd, 1) := by decide +kernel
theorem dX12_cut_45 : decode cX12_cut 45 = .ok (.imul, 1) := by decide +kernel
theorem dX12_cut_46 : decode cX12_cut 46 = .ok (.istore_n 3, 1) := by decide +kernel
theorem dX12_cut_47 : decode cX12_cut 47 = .ok (.aload_n 0, 1) := by decide +kernel
theorem dX12_cut_48 : decode cX12_cut 48 = .ok (.getfield 23, 3) := by decide +kernel
theorem dX12_cut_51 : decode cX12_cut 51 = .ok (.iload_n 3, 1) := by decide +kernel
theorem dX12_cut_52 : decode cX12_cut 52 = .ok (.iload_n 2, 1) := by decide +kernel
theorem dX12_cut_53 : decode cX12_cut 53 = .ok (.iadd, 1) := by decide +kernel
theorem dX12_cut_54 : decode cX12_cut 54 = .ok (.iaload, 1) := by decide +kernel
theorem dX12_cut_55 : decode cX12_cut 55 = .ok (.istore 4, 2) := by decide +kernel
theorem dX12_cut_57 : decode cX12_cut 57 = .ok (.aload_n 0, 1) := by decide +kernel
theorem dX12_cut_58 : decode cX12_cut 58 = .ok (.getfield 20, 3) := by decide +kernel
theorem dX12_cut_61 : decode cX12_cut 61 = .ok (.sipush 320, 3) := by decide +kernel
theorem dX12_cut_64 : decode cX12_cut 64 = .ok (.iload_n 1, 1) := by decide +kernel
theorem dX12_cut_65 : decode cX12_cut 65 = .ok (.iadd, 1) := by decide +kernel
theorem dX12_cut_66 : decode cX12_cut 66 = .ok (.dup2, 1) := by decide +kernel
theorem dX12_cut_67 : decode cX12_cut 67 = .ok (.iaload, 1) := by decide +kernel
theorem dX12_cut_68 : decode cX12_cut 68 = .ok (.iconst 1, 1) := by decide +kernel
theorem dX12_cut_69 : decode cX12_cut 69 = .ok (.isub, 1) := by decide +kernel
theorem dX12_cut_70 : decode cX12_cut 70 = .ok (.iastore, 1) := by decide +kernel
theorem dX12_cut_71 : decode cX12_cut 71 = .ok (.iload_n 3, 1) := by decide +kernel
theorem dX12_cut_72 : decode cX12_cut 72 = .ok (.iload_n 2, 1) := by decide +kernel
theorem dX12_cut_73 : decode cX12_cut 73 = .ok (.iadd, 1) := by decide +kernel
theorem dX12_cut_74 : decode cX12_cut 74 = .ok (.istore 5, 2) := by decide +kernel
theorem dX12_cut_76 : decode cX12_cut 76 = .ok (.iload 5, 2) := by decide +kernel
theorem dX12_cut_78 : decode cX12_cut 78 = .ok (.iload_n 3, 1) := by decide +kernel
theorem dX12_cut_79 : decode cX12_cut 79 = .ok (.aload_n 0, 1) := by decide +kernel
theorem dX12_cut_80 : decode cX12_cut 80 = .ok (.bipush 80, 2) := by decide +kernel
theorem dX12_cut_82 : decode cX12_cut 82 = .ok (.iload_n 1, 1) := by decide +kernel
theorem dX12_cut_83 : decode cX12_cut 83 = .ok (.invokevirtual 207, 3) := by decide +kernel
theorem dX12_cut_86 : decode cX12_cut 86 = .ok (.iadd, 1) := by decide +kernel
theorem dX12_cut_87 : decode cX12_cut 87 = .ok (.if_icmp .ge 25, 3) := by decide +kernel
theorem dX12_cut_90 : decode cX12_cut 90 = .ok (.aload_n 0, 1) := by decide +kernel
theorem dX12_cut_91 : decode cX12_cut 91 = .ok (.getfield 23, 3) := by decide +kernel
theorem dX12_cut_94 : decode cX12_cut 94 = .ok (.iload 5, 2) := by decide +kernel
theorem dX12_cut_96 : decode cX12_cut 96 = .ok (.aload_n 0, 1) := by decide +kernel
theorem dX12_cut_97 : decode cX12_cut 97 = .ok (.getfield 23, 3) := by decide +kernel
theorem dX12_cut_100 : decode cX12_cut 100 = .ok (.iload 5, 2) := by decide +kernel
theorem dX12_cut_102 : decode cX12_cut 102 = .ok (.iconst 1, 1) := by decide +kernel
theorem dX12_cut_103 : decode cX12_cut 103 = .ok (.iadd, 1) := by decide +kernel
theorem dX12_cut_104 : decode cX12_cut 104 = .ok (.iaload, 1) := by decide +kernel
theorem dX12_cut_105 : decode cX12_cut 105 = .ok (.iastore, 1) := by decide +kernel
theorem dX12_cut_106 : decode cX12_cut 106 = .ok (.iinc 5 1, 3) := by decide +kernel
theorem dX12_cut_109 : decode cX12_cut 109 = .ok (.goto (-33), 3) := by decide +kernel
theorem dX12_cut_112 : decode cX12_cut 112 = .ok (.iload 4, 2) := by decide +kernel
theorem dX12_cut_114 : decode cX12_cut 114 = .ok (.ireturn, 1) := by decide +kernel
theorem dX12_commits_0 : decode cX12_commits 0 = .ok (.aload_n 0, 1) := by decide +kernel
theorem dX12_commits_1 : decode cX12_commits 1 = .ok (.iconst 0, 1) := by decide +kernel
theorem dX12_commits_2 : decode cX12_commits 2 = .ok (.putfield 189, 3) := by decide +kernel
theorem dX12_commits_5 : decode cX12_commits 5 = .ok (.aload_n 0, 1) := by decide +kernel
theorem dX12_commits_6 : decode cX12_commits 6 = .ok (.getfield 7, 3) := by decide +kernel
theorem dX12_commits_9 : decode cX12_commits 9 = .ok (.ireturn, 1) := by decide +kernel
theorem dX12_line_0 : decode cX12_line 0 = .ok (.iload_n 1, 1) := by decide +kernel
theorem dX12_line_1 : decode cX12_line 1 = .ok (.iconst (-1), 1) := by decide +kernel
theorem dX12_line_2 : decode cX12_line 2 = .ok (.if_icmp .eq 11, 3) := by decide +kernel
theorem dX12_line_5 : decode cX12_line 5 = .ok (.aload_n 0, 1) := by decide +kernel
theorem dX12_line_6 : decode cX12_line 6 = .ok (.iload_n 1, 1) := by decide +kernel
theorem dX12_line_7 : decode cX12_line 7 = .ok (.invokevirtual 396, 3) := by decide +kernel
theorem dX12_line_10 : decode cX12_line 10 = .ok (.ifCond .eq 18, 3) := by decide +kernel
theorem dX12_line_13 : decode cX12_line 13 = .ok (.iload_n 2, 1) := by decide +kernel
theorem dX12_line_14 : decode cX12_line 14 = .ok (.invokestatic 405, 3) := by decide +kernel
theorem dX12_line_17 : decode cX12_line 17 = .ok (.ifCond .eq 11, 3) := by decide +kernel
theorem dX12_line_20 : decode cX12_line 20 = .ok (.iload_n 3, 1) := by decide +kernel
theorem dX12_line_21 : decode cX12_line 21 = .ok (.ifCond .lt 7, 3) := by decide +kernel
theorem dX12_line_24 : decode cX12_line 24 = .ok (.iconst 1, 1) := by decide +kernel
theorem dX12_line_25 : decode cX12_line 25 = .ok (.goto 4, 3) := by decide +kernel
theorem dX12_line_28 : decode cX12_line 28 = .ok (.iconst 0, 1) := by decide +kernel
theorem dX12_line_29 : decode cX12_line 29 = .ok (.istore 4, 2) := by decide +kernel
theorem dX12_line_31 : decode cX12_line 31 = .ok (.aload_n 0, 1) := by decide +kernel
theorem dX12_line_32 : decode cX12_line 32 = .ok (.iload 4, 2) := by decide +kernel
theorem dX12_line_34 : decode cX12_line 34 = .ok (.ifCond .eq 7, 3) := by decide +kernel
theorem dX12_line_37 : decode cX12_line 37 = .ok (.iconst 0, 1) := by decide +kernel
theorem dX12_line_38 : decode cX12_line 38 = .ok (.goto 4, 3) := by decide +kernel
theorem dX12_line_41 : decode cX12_line 41 = .ok (.iconst 1, 1) := by decide +kernel
theorem dX12_line_42 : decode cX12_line 42 = .ok (.invokevirtual 399, 3) := by decide +kernel
theorem dX12_line_45 : decode cX12_line 45 = .ok (.ifCond .ne 5, 3) := by decide +kernel
theorem dX12_line_48 : decode cX12_line 48 = .ok (.iconst 0, 1) := by decide +kernel
theorem dX12_line_49 : decode cX12_line 49 = .ok (.ireturn, 1) := by decide +kernel
theorem dX12_line_50 : decode cX12_line 50 = .ok (.iload_n 1, 1) := by decide +kernel
theorem dX12_line_51 : decode cX12_line 51 = .ok (.iconst (-1), 1) := by decide +kernel
theorem dX12_line_52 : decode cX12_line 52 = .ok (.if_icmp .ne 8, 3) := by decide +kernel
theorem dX12_line_55 : decode cX12_line 55 = .ok (.bipush 80, 2) := by decide +kernel
theorem dX12_line_57 : decode cX12_line 57 = .ok (.goto 4, 3) := by decide +kernel
theorem dX12_line_60 : decode cX12_line 60 = .ok (.iload_n 1, 1) := by decide +kernel
theorem dX12_line_61 : decode cX12_line 61 = .ok (.istore 5, 2) := by decide +kernel
theorem dX12_line_63 : decode cX12_line 63 = .ok (.iload_n 3, 1) := by decide +kernel
theorem dX12_line_64 : decode cX12_line 64 = .ok (.aload_n 0, 1) := by decide +kernel
theorem dX12_line_65 : decode cX12_line 65 = .ok (.iload 5, 2) := by decide +kernel
theorem dX12_line_67 : decode cX12_line 67 = .ok (.iload_n 2, 1) := by decide +kernel
theorem dX12_line_68 : decode cX12_line 68 = .ok (.invokevirtual 207, 3) := by decide +kernel
theorem dX12_line_71 : decode cX12_line 71 = .ok (.if_icmp .ge 14, 3) := by decide +kernel
theorem dX12_line_74 : decode cX12_line 74 = .ok (.aload_n 0, 1) := by decide +kernel
theorem dX12_line_75 : decode cX12_line 75 = .ok (.iload 5, 2) := by decide +kernel
theorem dX12_line_77 : decode cX12_line 77 = .ok (.iload_n 2, 1) := by decide +kernel
theorem dX12_line_78 : decode cX12_line 78 = .ok (.iload_n 3, 1) := by decide +kernel
theorem dX12_line_79 : decode cX12_line 79 = .ok (.invokevirtual 214, 3) := by decide +kernel
theorem dX12_line_82 : decode cX12_line 82 = .ok (.goto 4, 3) := by decide +kernel
theorem dX12_line_85 : decode cX12_line 85 = .ok (.iconst (-1), 1) := by decide +kernel
theorem dX12_line_86 : decode cX12_line 86 = .ok (.ireturn, 1) := by decide +kernel
theorem dX12_before_0 : decode cX12_before 0 = .ok (.aload_n 0, 1) := by decide +kernel
theorem dX12_before_1 : decode cX12_before 1 = .ok (.iload_n 1, 1) := by decide +kernel
theorem dX12_before_2 : decode cX12_before 2 = .ok (.iconst (-1), 1) := by decide +kernel
theorem dX12_before_3 : decode cX12_before 3 = .ok (.if_icmp .eq 11, 3) := by decide +kernel
theorem dX12_before_6 : decode cX12_before 6 = .ok (.aload_n 0, 1) := by decide +kernel
theorem dX12_before_7 : decode cX12_before 7 = .ok (.iload_n 1, 1) := by decide +kernel
theorem dX12_before_8 : decode cX12_before 8 = .ok (.invokevirtual 396, 3) := by decide +kernel
theorem dX12_before_11 : decode cX12_before 11 = .ok (.ifCond .eq 7, 3) := by decide +kernel
theorem dX12_before_14 : decode cX12_before 14 = .ok (.iconst 0, 1) := by decide +kernel
theorem dX12_before_15 : decode cX12_before 15 = .ok (.goto 4, 3) := by decide +kernel
theorem dX12_before_18 : decode cX12_before 18 = .ok (.iconst 1, 1) := by decide +kernel
theorem dX12_before_19 : decode cX12_before 19 = .ok (.invokevirtual 399, 3) := by decide +kernel
theorem dX12_before_22 : decode cX12_before 22 = .ok (.ifCond .eq 22, 3) := by decide +kernel
theorem dX12_before_25 : decode cX12_before 25 = .ok (.aload_n 0, 1) := by decide +kernel
theorem dX12_before_26 : decode cX12_before 26 = .ok (.getfield 17, 3) := by decide +kernel
theorem dX12_before_29 : decode cX12_before 29 = .ok (.iload_n 1, 1) := by decide +kernel
theorem dX12_before_30 : decode cX12_before 30 = .ok (.iconst (-1), 1) := by decide +kernel
theorem dX12_before_31 : decode cX12_before 31 = .ok (.if_icmp .ne 8, 3) := by decide +kernel
theorem dX12_before_34 : decode cX12_before 34 = .ok (.bipush 80, 2) := by decide +kernel
theorem dX12_before_36 : decode cX12_before 36 = .ok (.goto 4, 3) := by decide +kernel
theorem dX12_before_39 : decode cX12_before 39 = .ok (.iload_n 1, 1) := by decide +kernel
theorem dX12_before_40 : decode cX12_before 40 = .ok (.iaload, 1) := by decide +kernel
theorem dX12_before_41 : decode cX12_before 41 = .ok (.goto 4, 3) := by decide +kernel
theorem dX12_before_44 : decode cX12_before 44 = .ok (.iconst 0, 1) := by decide +kernel
theorem dX12_before_45 : decode cX12_before 45 = .ok (.ireturn, 1) := by decide +kernel
theorem dX12_tip_0 : decode cX12_tip 0 = .ok (.aload_n 0, 1) := by decide +kernel
theorem dX12_tip_1 : decode cX12_tip 1 = .ok (.iload_n 1, 1) := by decide +kernel
theorem dX12_tip_2 : decode cX12_tip 2 = .ok (.invokestatic 408, 3) := by decide +kernel
theorem dX12_tip_5 : decode cX12_tip 5 = .ok (.ifCond .eq 7, 3) := by decide +kernel
theorem dX12_tip_8 : decode cX12_tip 8 = .ok (.iconst 0, 1) := by decide +kernel
theorem dX12_tip_9 : decode cX12_tip 9 = .ok (.goto 4, 3) := by decide +kernel
theorem dX12_tip_12 : decode cX12_tip 12 = .ok (.iconst 1, 1) := by decide +kernel
theorem dX12_tip_13 : decode cX12_tip 13 = .ok (.invokevirtual 399, 3) := by decide +kernel
theorem dX12_tip_16 : decode cX12_tip 16 = .ok (.ifCond .eq 12, 3) := by decide +kernel
theorem dX12_tip_19 : decode cX12_tip 19 = .ok (.aload_n 0, 1) := by decide +kernel
theorem dX12_tip_20 : decode cX12_tip 20 = .ok (.getfield 38, 3) := by decide +kernel
theorem dX12_tip_23 : decode cX12_tip 23 = .ok (.iload_n 1, 1) := by decide +kernel
theorem dX12_tip_24 : decode cX12_tip 24 = .ok (.iaload, 1) := by decide +kernel
theorem dX12_tip_25 : decode cX12_tip 25 = .ok (.goto 4, 3) := by decide +kernel
theorem dX12_tip_28 : decode cX12_tip 28 = .ok (.iconst 0, 1) := by decide +kernel
theorem dX12_tip_29 : decode cX12_tip 29 = .ok (.ireturn, 1) := by decide +kernel
theorem dX12_namedAfter_0 : decode cX12_namedAfter 0 = .ok (.aload_n 0, 1) := by decide +kernel
theorem dX12_namedAfter_1 : decode cX12_namedAfter 1 = .ok (.aload_n 0, 1) := by decide +kernel
theorem dX12_namedAfter_2 : decode cX12_namedAfter 2 = .ok (.iload_n 1, 1) := by decide +kernel
theorem dX12_namedAfter_3 : decode cX12_namedAfter 3 = .ok (.invokevirtual 396, 3) := by decide +kernel
theorem dX12_namedAfter_6 : decode cX12_namedAfter 6 = .ok (.ifCond .eq 7, 3) := by decide +kernel
theorem dX12_namedAfter_9 : decode cX12_namedAfter 9 = .ok (.iconst 0, 1) := by decide +kernel
theorem dX12_namedAfter_10 : decode cX12_namedAfter 10 = .ok (.goto 4, 3) := by decide +kernel
theorem dX12_namedAfter_13 : decode cX12_namedAfter 13 = .ok (.iconst 1, 1) := by decide +kernel
theorem dX12_namedAfter_14 : decode cX12_namedAfter 14 = .ok (.invokevirtual 399, 3) := by decide +kernel
theorem dX12_namedAfter_17 : decode cX12_namedAfter 17 = .ok (.ifCond .eq 12, 3) := by decide +kernel
theorem dX12_namedAfter_20 : decode cX12_namedAfter 20 = .ok (.aload_n 0, 1) := by decide +kernel
theorem dX12_namedAfter_21 : decode cX12_namedAfter 21 = .ok (.getfield 35, 3) := by decide +kernel
theorem dX12_namedAfter_24 : decode cX12_namedAfter 24 = .ok (.iload_n 1, 1) := by decide +kernel
theorem dX12_namedAfter_25 : decode cX12_namedAfter 25 = .ok (.iaload, 1) := by decide +kernel
theorem dX12_namedAfter_26 : decode cX12_namedAfter 26 = .ok (.goto 4, 3) := by decide +kernel
theorem dX12_namedAfter_29 : decode cX12_namedAfter 29 = .ok (.iconst 0, 1) := by decide +kernel
theorem dX12_namedAfter_30 : decode cX12_namedAfter 30 = .ok (.ireturn, 1) := by decide +kernel
theorem dX12_uploads_0 : decode cX12_uploads 0 = .ok (.aload_n 0, 1) := by decide +kernel
theorem dX12_uploads_1 : decode cX12_uploads 1 = .ok (.iload_n 3, 1) := by decide +kernel
theorem dX12_uploads_2 : decode cX12_uploads 2 = .ok (.bipush 81, 2) := by decide +kernel
theorem dX12_uploads_4 : decode cX12_uploads 4 = .ok (.invokevirtual 354, 3) := by decide +kernel
theorem dX12_uploads_7 : decode cX12_uploads 7 = .ok (.aload_n 0, 1) := by decide +kernel
theorem dX12_uploads_8 : decode cX12_uploads 8 = .ok (.aload_n 0, 1) := by decide +kernel
theorem dX12_uploads_9 : decode cX12_uploads 9 = .ok (.getfield 13, 3) := by decide +kernel
theorem dX12_uploads_12 : decode cX12_uploads 12 = .ok (.iload 4, 2) := by decide +kernel
theorem dX12_uploads_14 : decode cX12_uploads 14 = .ok (.iaload, 1) := by decide +kernel
theorem dX12_uploads_15 : decode cX12_uploads 15 = .ok (.iload 4, 2) := by decide +kernel
theorem dX12_uploads_17 : decode cX12_uploads 17 = .ok (.invokevirtual 363, 3) := by decide +kernel
theorem dX12_uploads_20 : decode cX12_uploads 20 = .ok (.istore 5, 2) := by decide +kernel
theorem dX12_uploads_22 : decode cX12_uploads 22 = .ok (.aload_n 0, 1) := by decide +kernel
theorem dX12_uploads_23 : decode cX12_uploads 23 = .ok (.getfield 26, 3) := by decide +kernel
theorem dX12_uploads_26 : decode cX12_uploads 26 = .ok (.iload 5, 2) := by decide +kernel
theorem dX12_uploads_28 : decode cX12_uploads 28 = .ok (.iload_n 2, 1) := by decide +kernel
theorem dX12_uploads_29 : decode cX12_uploads 29 = .ok (.iastore, 1) := by decide +kernel
theorem dX12_uploads_30 : decode cX12_uploads 30 = .ok (.aload_n 0, 1) := by decide +kernel
theorem dX12_uploads_31 : decode cX12_uploads 31 = .ok (.getfield 29, 3) := by decide +kernel
theorem dX12_uploads_34 : decode cX12_uploads 34 = .ok (.iload 5, 2) := by decide +kernel
theorem dX12_uploads_36 : decode cX12_uploads 36 = .ok (.aload_n 0, 1) := by decide +kernel
theorem dX12_uploads_37 : decode cX12_uploads 37 = .ok (.getfield 50, 3) := by decide +kernel
theorem dX12_uploads_40 : decode cX12_uploads 40 = .ok (.iload_n 2, 1) := by decide +kernel
theorem dX12_uploads_41 : decode cX12_uploads 41 = .ok (.iaload, 1) := by decide +kernel
theorem dX12_uploads_42 : decode cX12_uploads 42 = .ok (.iastore, 1) := by decide +kernel
theorem dX12_uploads_43 : decode cX12_uploads 43 = .ok (.aload_n 0, 1) := by decide +kernel
theorem dX12_uploads_44 : decode cX12_uploads 44 = .ok (.getfield 32, 3) := by decide +kernel
theorem dX12_uploads_47 : decode cX12_uploads 47 = .ok (.iload 5, 2) := by decide +kernel
theorem dX12_uploads_49 : decode cX12_uploads 49 = .ok (.iload_n 1, 1) := by decide +kernel
theorem dX12_uploads_50 : decode cX12_uploads 50 = .ok (.iastore, 1) := by decide +kernel
theorem dX12_uploads_51 : decode cX12_uploads 51 = .ok (.aload_n 0, 1) := by decide +kernel
theorem dX12_uploads_52 : decode cX12_uploads 52 = .ok (.getfield 50, 3) := by decide +kernel
theorem dX12_uploads_55 : decode cX12_uploads 55 = .ok (.iload_n 2, 1) := by decide +kernel
theorem dX12_uploads_56 : decode cX12_uploads 56 = .ok (.dup2, 1) := by decide +kernel
theorem dX12_uploads_57 : decode cX12_uploads 57 = .ok (.iaload, 1) := by decide +kernel
theorem dX12_uploads_58 : decode cX12_uploads 58 = .ok (.iconst 1, 1) := by decide +kernel
theorem dX12_uploads_59 : decode cX12_uploads 59 = .ok (.iadd, 1) := by decide +kernel
theorem dX12_uploads_60 : decode cX12_uploads 60 = .ok (.iastore, 1) := by decide +kernel
theorem dX12_uploads_61 : decode cX12_uploads 61 = .ok (.aload_n 0, 1) := by decide +kernel
theorem dX12_uploads_62 : decode cX12_uploads 62 = .ok (.iload_n 2, 1) := by decide +kernel
theorem dX12_uploads_63 : decode cX12_uploads 63 = .ok (.iload_n 1, 1) := by decide +kernel
theorem dX12_uploads_64 : decode cX12_uploads 64 = .ok (.invokevirtual 372, 3) := by decide +kernel
theorem dX12_uploads_67 : decode cX12_uploads 67 = .ok (.aload_n 0, 1) := by decide +kernel
theorem dX12_uploads_68 : decode cX12_uploads 68 = .ok (.iload_n 2, 1) := by decide +kernel
theorem dX12_uploads_69 : decode cX12_uploads 69 = .ok (.iload_n 1, 1) := by decide +kernel
theorem dX12_uploads_70 : decode cX12_uploads 70 = .ok (.iconst 0, 1) := by decide +kernel
theorem dX12_uploads_71 : decode cX12_uploads 71 = .ok (.invokevirtual 411, 3) := by decide +kernel
theorem dX12_uploads_74 : decode cX12_uploads 74 = .ok (.aload_n 0, 1) := by decide +kernel
theorem dX12_uploads_75 : decode cX12_uploads 75 = .ok (.getfield 50, 3) := by decide +kernel
theorem dX12_uploads_78 : decode cX12_uploads 78 = .ok (.iload_n 2, 1) := by decide +kernel
theorem dX12_uploads_79 : decode cX12_uploads 79 = .ok (.iaload, 1) := by decide +kernel
theorem dX12_uploads_80 : decode cX12_uploads 80 = .ok (.iconst 1, 1) := by decide +kernel
theorem dX12_uploads_81 : decode cX12_uploads 81 = .ok (.isub, 1) := by decide +kernel
theorem dX12_uploads_82 : decode cX12_uploads 82 = .ok (.ireturn, 1) := by decide +kernel
theorem dX12_open_0 : decode cX12_open 0 = .ok (.aload_n 0, 1) := by decide +kernel
theorem dX12_open_1 : decode cX12_open 1 = .ok (.iload_n 1, 1) := by decide +kernel
theorem dX12_open_2 : decode cX12_open 2 = .ok (.invokestatic 415, 3) := by decide +kernel
theorem dX12_open_5 : decode cX12_open 5 = .ok (.ifCond .ne 7, 3) := by decide +kernel
theorem dX12_open_8 : decode cX12_open 8 = .ok (.iconst 1, 1) := by decide +kernel
theorem dX12_open_9 : decode cX12_open 9 = .ok (.goto 26, 3) := by decide +kernel
theorem dX12_open_12 : decode cX12_open 12 = .ok (.aload_n 0, 1) := by decide +kernel
theorem dX12_open_13 : decode cX12_open 13 = .ok (.getfield 196, 3) := by decide +kernel
theorem dX12_open_16 : decode cX12_open 16 = .ok (.bipush 20, 2) := by decide +kernel
theorem dX12_open_18 : decode cX12_open 18 = .ok (.if_icmp .eq 12, 3) := by decide +kernel
theorem dX12_open_21 : decode cX12_open 21 = .ok (.aload_n 0, 1) := by decide +kernel
theorem dX12_open_22 : decode cX12_open 22 = .ok (.getfield 7, 3) := by decide +kernel
theorem dX12_open_25 : decode cX12_open 25 = .ok (.bipush 80, 2) := by decide +kernel
theorem dX12_open_27 : decode cX12_open 27 = .ok (.if_icmp .ne 7, 3) := by decide +kernel
theorem dX12_open_30 : decode cX12_open 30 = .ok (.iconst 2, 1) := by decide +kernel
theorem dX12_open_31 : decode cX12_open 31 = .ok (.goto 4, 3) := by decide +kernel
theorem dX12_open_34 : decode cX12_open 34 = .ok (.iconst 0, 1) := by decide +kernel
theorem dX12_open_35 : decode cX12_open 35 = .ok (.invokevirtual 399, 3) := by decide +kernel
theorem dX12_open_38 : decode cX12_open 38 = .ok (.ifCond .ne 5, 3) := by decide +kernel
theorem dX12_open_41 : decode cX12_open 41 = .ok (.iconst 0, 1) := by decide +kernel
theorem dX12_open_42 : decode cX12_open 42 = .ok (.ireturn, 1) := by decide +kernel
theorem dX12_open_43 : decode cX12_open 43 = .ok (.aload_n 0, 1) := by decide +kernel
theorem dX12_open_44 : decode cX12_open 44 = .ok (.getfield 44, 3) := by decide +kernel
theorem dX12_open_47 : decode cX12_open 47 = .ok (.aload_n 0, 1) := by decide +kernel
theorem dX12_open_48 : decode cX12_open 48 = .ok (.getfield 196, 3) := by decide +kernel
theorem dX12_open_51 : decode cX12_open 51 = .ok (.iload_n 1, 1) := by decide +kernel
theorem dX12_open_52 : decode cX12_open 52 = .ok (.iastore, 1) := by decide +kernel
theorem dX12_open_53 : decode cX12_open 53 = .ok (.aload_n 0, 1) := by decide +kernel
theorem dX12_open_54 : decode cX12_open 54 = .ok (.getfield 47, 3) := by decide +kernel
theorem dX12_open_57 : decode cX12_open 57 = .ok (.aload_n 0, 1) := by decide +kernel
theorem dX12_open_58 : decode cX12_open 58 = .ok (.getfield 196, 3) := by decide +kernel
theorem dX12_open_61 : decode cX12_open 61 = .ok (.iconst 0, 1) := by decide +kernel
theorem dX12_open_62 : decode cX12_open 62 = .ok (.iastore, 1) := by decide +kernel
theorem dX12_open_63 : decode cX12_open 63 = .ok (.aload_n 0, 1) := by decide +kernel
theorem dX12_open_64 : decode cX12_open 64 = .ok (.getfield 50, 3) := by decide +kernel
theorem dX12_open_67 : decode cX12_open 67 = .ok (.aload_n 0, 1) := by decide +kernel
theorem dX12_open_68 : decode cX12_open 68 = .ok (.getfield 196, 3) := by decide +kernel
theorem dX12_open_71 : decode cX12_open 71 = .ok (.iconst 0, 1) := by decide +kernel
theorem dX12_open_72 : decode cX12_open 72 = .ok (.iastore, 1) := by decide +kernel
theorem dX12_open_73 : decode cX12_open 73 = .ok (.aload_n 0, 1) := by decide +kernel
theorem dX12_open_74 : decode cX12_open 74 = .ok (.getfield 60, 3) := by decide +kernel
theorem dX12_open_77 : decode cX12_open 77 = .ok (.aload_n 0, 1) := by decide +kernel
theorem dX12_open_78 : decode cX12_open 78 = .ok (.getfield 196, 3) := by decide +kernel
theorem dX12_open_81 : decode cX12_open 81 = .ok (.iconst (-1), 1) := by decide +kernel
theorem dX12_open_82 : decode cX12_open 82 = .ok (.iastore, 1) := by decide +kernel
theorem dX12_open_83 : decode cX12_open 83 = .ok (.aload_n 0, 1) := by decide +kernel
theorem dX12_open_84 : decode cX12_open 84 = .ok (.dup, 1) := by decide +kernel
theorem dX12_open_85 : decode cX12_open 85 = .ok (.getfield 196, 3) := by decide +kernel
theorem dX12_open_88 : decode cX12_open 88 = .ok (.iconst 1, 1) := by decide +kernel
theorem dX12_open_89 : decode cX12_open 89 = .ok (.iadd, 1) := by decide +kernel
theorem dX12_open_90 : decode cX12_open 90 = .ok (.putfield 196, 3) := by decide +kernel
theorem dX12_open_93 : decode cX12_open 93 = .ok (.aload_n 0, 1) := by decide +kernel
theorem dX12_open_94 : decode cX12_open 94 = .ok (.iload_n 1, 1) := by decide +kernel
theorem dX12_open_95 : decode cX12_open 95 = .ok (.aload_n 0, 1) := by decide +kernel
theorem dX12_open_96 : decode cX12_open 96 = .ok (.getfield 196, 3) := by decide +kernel
theorem dX12_open_99 : decode cX12_open 99 = .ok (.iconst 1, 1) := by decide +kernel
theorem dX12_open_100 : decode cX12_open 100 = .ok (.isub, 1) := by decide +kernel
theorem dX12_open_101 : decode cX12_open 101 = .ok (.bipush 80, 2) := by decide +kernel
theorem dX12_open_103 : decode cX12_open 103 = .ok (.aload_n 0, 1) := by decide +kernel
theorem dX12_open_104 : decode cX12_open 104 = .ok (.getfield 17, 3) := by decide +kernel
theorem dX12_open_107 : decode cX12_open 107 = .ok (.bipush 80, 2) := by decide +kernel
theorem dX12_open_109 : decode cX12_open 109 = .ok (.iaload, 1) := by decide +kernel
theorem dX12_open_110 : decode cX12_open 110 = .ok (.invokevirtual 418, 3) := by decide +kernel
theorem dX12_open_113 : decode cX12_open 113 = .ok (.istore_n 2, 1) := by decide +kernel
theorem dX12_open_114 : decode cX12_open 114 = .ok (.aload_n 0, 1) := by decide +kernel
theorem dX12_open_115 : decode cX12_open 115 = .ok (.getfield 196, 3) := by decide +kernel
theorem dX12_open_118 : decode cX12_open 118 = .ok (.iconst 1, 1) := by decide +kernel
theorem dX12_open_119 : decode cX12_open 119 = .ok (.isub, 1) := by decide +kernel
theorem dX12_open_120 : decode cX12_open 120 = .ok (.ireturn, 1) := by decide +kernel
theorem dX12_isAbove_0 : decode cX12_isAbove 0 = .ok (.aload_n 0, 1) := by decide +kernel
theorem dX12_isAbove_1 : decode cX12_isAbove 1 = .ok (.getfield 26, 3) := by decide +kernel
theorem dX12_isAbove_4 : decode cX12_isAbove 4 = .ok (.iload_n 2, 1) := by decide +kernel
theorem dX12_isAbove_5 : decode cX12_isAbove 5 = .ok (.iaload, 1) := by decide +kernel
theorem dX12_isAbove_6 : decode cX12_isAbove 6 = .ok (.istore_n 3, 1) := by decide +kernel
theorem dX12_isAbove_7 : decode cX12_isAbove 7 = .ok (.iconst 0, 1) := by decide +kernel
theorem dX12_isAbove_8 : decode cX12_isAbove 8 = .ok (.istore 4, 2) := by decide +kernel
theorem dX12_isAbove_10 : decode cX12_isAbove 10 = .ok (.iload_n 3, 1) := by decide +kernel
theorem dX12_isAbove_11 : decode cX12_isAbove 11 = .ok (.iconst (-1), 1) := by decide +kernel
theorem dX12_isAbove_12 : decode cX12_isAbove 12 = .ok (.if_icmp .eq 29, 3) := by decide +kernel
theorem dX12_isAbove_15 : decode cX12_isAbove 15 = .ok (.iload 4, 2) := by decide +kernel
theorem dX12_isAbove_17 : decode cX12_isAbove 17 = .ok (.ifCond .ne 24, 3) := by decide +kernel
theorem dX12_isAbove_20 : decode cX12_isAbove 20 = .ok (.iload_n 3, 1) := by decide +kernel
theorem dX12_isAbove_21 : decode cX12_isAbove 21 = .ok (.iload_n 1, 1) := by decide +kernel
theorem dX12_isAbove_22 : decode cX12_isAbove 22 = .ok (.if_icmp .ne 7, 3) := by decide +kernel
theorem dX12_isAbove_25 : decode cX12_isAbove 25 = .ok (.iconst 1, 1) := by decide +kernel
theorem dX12_isAbove_26 : decode cX12_isAbove 26 = .ok (.goto 4, 3) := by decide +kernel
theorem dX12_isAbove_29 : decode cX12_isAbove 29 = .ok (.iconst 0, 1) := by decide +kernel
theorem dX12_isAbove_30 : decode cX12_isAbove 30 = .ok (.istore 4, 2) := by decide +kernel
theorem dX12_isAbove_32 : decode cX12_isAbove 32 = .ok (.aload_n 0, 1) := by decide +kernel
theorem dX12_isAbove_33 : decode cX12_isAbove 33 = .ok (.iload_n 3, 1) := by decide +kernel
theorem dX12_isAbove_34 : decode cX12_isAbove 34 = .ok (.invokevirtual 298, 3) := by decide +kernel
theorem dX12_isAbove_37 : decode cX12_isAbove 37 = .ok (.istore_n 3, 1) := by decide +kernel
theorem dX12_isAbove_38 : decode cX12_isAbove 38 = .ok (.goto (-28), 3) := by decide +kernel
theorem dX12_isAbove_41 : decode cX12_isAbove 41 = .ok (.iload 4, 2) := by decide +kernel
theorem dX12_isAbove_43 : decode cX12_isAbove 43 = .ok (.ireturn, 1) := by decide +kernel
theorem dX12_wrong_0 : decode cX12_wrong 0 = .ok (.iload_n 1, 1) := by decide +kernel
theorem dX12_wrong_1 : decode cX12_wrong 1 = .ok (.invokestatic 415, 3) := by decide +kernel
theorem dX12_wrong_4 : decode cX12_wrong 4 = .ok (.ifCond .eq 15, 3) := by decide +kernel
theorem dX12_wrong_7 : decode cX12_wrong 7 = .ok (.aload_n 0, 1) := by decide +kernel
theorem dX12_wrong_8 : decode cX12_wrong 8 = .ok (.iload_n 2, 1) := by decide +kernel
theorem dX12_wrong_9 : decode cX12_wrong 9 = .ok (.invokevirtual 199, 3) := by decide +kernel
theorem dX12_wrong_12 : decode cX12_wrong 12 = .ok (.ifCond .eq 7, 3) := by decide +kernel
theorem dX12_wrong_15 : decode cX12_wrong 15 = .ok (.iconst 0, 1) := by decide +kernel
theorem dX12_wrong_16 : decode cX12_wrong 16 = .ok (.goto 4, 3) := by decide +kernel
theorem dX12_wrong_19 : decode cX12_wrong 19 = .ok (.iconst 1, 1) := by decide +kernel
theorem dX12_wrong_20 : decode cX12_wrong 20 = .ok (.ireturn, 1) := by decide +kernel
theorem dX12_isShut_0 : decode cX12_isShut 0 = .ok (.aload_n 0, 1) := by decide +kernel
theorem dX12_isShut_1 : decode cX12_isShut 1 = .ok (.getfield 47, 3) := by decide +kernel
theorem dX12_isShut_4 : decode cX12_isShut 4 = .ok (.iload_n 2, 1) := by decide +kernel
theorem dX12_isShut_5 : decode cX12_isShut 5 = .ok (.iaload, 1) := by decide +kernel
theorem dX12_isShut_6 : decode cX12_isShut 6 = .ok (.ifCond .ne 12, 3) := by decide +kernel
theorem dX12_isShut_9 : decode cX12_isShut 9 = .ok (.aload_n 0, 1) := by decide +kernel
theorem dX12_isShut_10 : decode cX12_isShut 10 = .ok (.iload_n 1, 1) := by decide +kernel
theorem dX12_isShut_11 : decode cX12_isShut 11 = .ok (.iload_n 2, 1) := by decide +kernel
theorem dX12_isShut_12 : decode cX12_isShut 12 = .ok (.invokevirtual 421, 3) := by decide +kernel
theorem dX12_isShut_15 : decode cX12_isShut 15 = .ok (.ifCond .ne 7, 3) := by decide +kernel
theorem dX12_isShut_18 : decode cX12_isShut 18 = .ok (.iconst 1, 1) := by decide +kernel
theorem dX12_isShut_19 : decode cX12_isShut 19 = .ok (.goto 4, 3) := by decide +kernel
theorem dX12_isShut_22 : decode cX12_isShut 22 = .ok (.iconst 0, 1) := by decide +kernel
theorem dX12_isShut_23 : decode cX12_isShut 23 = .ok (.ireturn, 1) := by decide +kernel
theorem dX12_upload_0 : decode cX12_upload 0 = .ok (.aload_n 0, 1) := by decide +kernel
theorem dX12_upload_1 : decode cX12_upload 1 = .ok (.aload_n 0, 1) := by decide +kernel
theorem dX12_upload_2 : decode cX12_upload 2 = .ok (.iload_n 1, 1) := by decide +kernel
theorem dX12_upload_3 : decode cX12_upload 3 = .ok (.iload_n 2, 1) := by decide +kernel
theorem dX12_upload_4 : decode cX12_upload 4 = .ok (.invokevirtual 424, 3) := by decide +kernel
theorem dX12_upload_7 : decode cX12_upload 7 = .ok (.invokevirtual 399, 3) := by decide +kernel
theorem dX12_upload_10 : decode cX12_upload 10 = .ok (.ifCond .ne 5, 3) := by decide +kernel
theorem dX12_upload_13 : decode cX12_upload 13 = .ok (.iconst 0, 1) := by decide +kernel
theorem dX12_upload_14 : decode cX12_upload 14 = .ok (.ireturn, 1) := by decide +kernel
theorem dX12_upload_15 : decode cX12_upload 15 = .ok (.aload_n 0, 1) := by decide +kernel
theorem dX12_upload_16 : decode cX12_upload 16 = .ok (.getfield 13, 3) := by decide +kernel
theorem dX12_upload_19 : decode cX12_upload 19 = .ok (.aload_n 0, 1) := by decide +kernel
theorem dX12_upload_20 : decode cX12_upload 20 = .ok (.getfield 17, 3) := by decide +kernel
theorem dX12_upload_23 : decode cX12_upload 23 = .ok (.bipush 80, 2) := by decide +kernel
theorem dX12_upload_25 : decode cX12_upload 25 = .ok (.iaload, 1) := by decide +kernel
theorem dX12_upload_26 : decode cX12_upload 26 = .ok (.iaload, 1) := by decide +kernel
theorem dX12_upload_27 : decode cX12_upload 27 = .ok (.aload_n 0, 1) := by decide +kernel
theorem dX12_upload_28 : decode cX12_upload 28 = .ok (.iload_n 2, 1) := by decide +kernel
theorem dX12_upload_29 : decode cX12_upload 29 = .ok (.invokevirtual 257, 3) := by decide +kernel
theorem dX12_upload_32 : decode cX12_upload 32 = .ok (.if_icmp .ne 18, 3) := by decide +kernel
theorem dX12_upload_35 : decode cX12_upload 35 = .ok (.aload_n 0, 1) := by decide +kernel
theorem dX12_upload_36 : decode cX12_upload 36 = .ok (.iload_n 2, 1) := by decide +kernel
theorem dX12_upload_37 : decode cX12_upload 37 = .ok (.aload_n 0, 1) := by decide +kernel
theorem dX12_upload_38 : decode cX12_upload 38 = .ok (.getfield 17, 3) := by decide +kernel
theorem dX12_upload_41 : decode cX12_upload 41 = .ok (.bipush 80, 2) := by decide +kernel
theorem dX12_upload_43 : decode cX12_upload 43 = .ok (.iaload, 1) := by decide +kernel
theorem dX12_upload_44 : decode cX12_upload 44 = .ok (.invokevirtual 427, 3) := by decide +kernel
theorem dX12_upload_47 : decode cX12_upload 47 = .ok (.ifCond .eq 7, 3) := by decide +kernel
theorem dX12_upload_50 : decode cX12_upload 50 = .ok (.iconst 1, 1) := by decide +kernel
theorem dX12_upload_51 : decode cX12_upload 51 = .ok (.goto 4, 3) := by decide +kernel
theorem dX12_upload_54 : decode cX12_upload 54 = .ok (.iconst 0, 1) := by decide +kernel
theorem dX12_upload_55 : decode cX12_upload 55 = .ok (.istore_n 3, 1) := by decide +kernel
theorem dX12_upload_56 : decode cX12_upload 56 = .ok (.aload_n 0, 1) := by decide +kernel
theorem dX12_upload_57 : decode cX12_upload 57 = .ok (.aload_n 0, 1) := by decide +kernel
theorem dX12_upload_58 : decode cX12_upload 58 = .ok (.iload_n 1, 1) := by decide +kernel
theorem dX12_upload_59 : decode cX12_upload 59 = .ok (.iload_n 2, 1) := by decide +kernel
theorem dX12_upload_60 : decode cX12_upload 60 = .ok (.invokevirtual 430, 3) := by decide +kernel
theorem dX12_upload_63 : decode cX12_upload 63 = .ok (.ifCond .ne 16, 3) := by decide +kernel
theorem dX12_upload_66 : decode cX12_upload 66 = .ok (.iload_n 3, 1) := by decide +kernel
theorem dX12_upload_67 : decode cX12_upload 67 = .ok (.ifCond .ne 12, 3) := by decide +kernel
theorem dX12_upload_70 : decode cX12_upload 70 = .ok (.aload_n 0, 1) := by decide +kernel
theorem dX12_upload_71 : decode cX12_upload 71 = .ok (.getfield 7, 3) := by decide +kernel
theorem dX12_upload_74 : decode cX12_upload 74 = .ok (.bipush 80, 2) := by decide +kernel
theorem dX12_upload_76 : decode cX12_upload 76 = .ok (.if_icmp .ne 7, 3) := by decide +kernel
theorem dX12_upload_79 : decode cX12_upload 79 = .ok (.iconst 2, 1) := by decide +kernel
theorem dX12_upload_80 : decode cX12_upload 80 = .ok (.goto 4, 3) := by decide +kernel
theorem dX12_upload_83 : decode cX12_upload 83 = .ok (.iconst 0, 1) := by decide +kernel
theorem dX12_upload_84 : decode cX12_upload 84 = .ok (.invokevirtual 399, 3) := by decide +kernel
theorem dX12_upload_87 : decode cX12_upload 87 = .ok (.ifCond .ne 5, 3) := by decide +kernel
theorem dX12_upload_90 : decode cX12_upload 90 = .ok (.iconst 0, 1) := by decide +kernel
theorem dX12_upload_91 : decode cX12_upload 91 = .ok (.ireturn, 1) := by decide +kernel
theorem dX12_upload_92 : decode cX12_upload 92 = .ok (.aload_n 0, 1) := by decide +kernel
theorem dX12_upload_93 : decode cX12_upload 93 = .ok (.iload_n 1, 1) := by decide +kernel
theorem dX12_upload_94 : decode cX12_upload 94 = .ok (.iload_n 2, 1) := by decide +kernel
theorem dX12_upload_95 : decode cX12_upload 95 = .ok (.bipush 80, 2) := by decide +kernel
theorem dX12_upload_97 : decode cX12_upload 97 = .ok (.aload_n 0, 1) := by decide +kernel
theorem dX12_upload_98 : decode cX12_upload 98 = .ok (.getfield 17, 3) := by decide +kernel
theorem dX12_upload_101 : decode cX12_upload 101 = .ok (.bipush 80, 2) := by decide +kernel
theorem dX12_upload_103 : decode cX12_upload 103 = .ok (.iaload, 1) := by decide +kernel
theorem dX12_upload_104 : decode cX12_upload 104 = .ok (.invokevirtual 418, 3) := by decide +kernel
theorem dX12_upload_107 : decode cX12_upload 107 = .ok (.ireturn, 1) := by decide +kernel
theorem dX12_newBase_0 : decode cX12_newBase 0 = .ok (.aload_n 0, 1) := by decide +kernel
theorem dX12_newBase_1 : decode cX12_newBase 1 = .ok (.iload_n 1, 1) := by decide +kernel
theorem dX12_newBase_2 : decode cX12_newBase 2 = .ok (.invokevirtual 298, 3) := by decide +kernel
theorem dX12_newBase_5 : decode cX12_newBase 5 = .ok (.istore_n 2, 1) := by decide +kernel
theorem dX12_newBase_6 : decode cX12_newBase 6 = .ok (.iload_n 2, 1) := by decide +kernel
theorem dX12_newBase_7 : decode cX12_newBase 7 = .ok (.iconst (-1), 1) := by decide +kernel
theorem dX12_newBase_8 : decode cX12_newBase 8 = .ok (.if_icmp .eq 13, 3) := by decide +kernel
theorem dX12_newBase_11 : decode cX12_newBase 11 = .ok (.aload_n 0, 1) := by decide +kernel
theorem dX12_newBase_12 : decode cX12_newBase 12 = .ok (.getfield 47, 3) := by decide +kernel
theorem dX12_newBase_15 : decode cX12_newBase 15 = .ok (.iload_n 2, 1) := by decide +kernel
theorem dX12_newBase_16 : decode cX12_newBase 16 = .ok (.iaload, 1) := by decide +kernel
theorem dX12_newBase_17 : decode cX12_newBase 17 = .ok (.iconst 2, 1) := by decide +kernel
theorem dX12_newBase_18 : decode cX12_newBase 18 = .ok (.if_icmp .ne 14, 3) := by decide +kernel
theorem dX12_newBase_21 : decode cX12_newBase 21 = .ok (.aload_n 0, 1) := by decide +kernel
theorem dX12_newBase_22 : decode cX12_newBase 22 = .ok (.getfield 38, 3) := by decide +kernel
theorem dX12_newBase_25 : decode cX12_newBase 25 = .ok (.aload_n 0, 1) := by decide +kernel
theorem dX12_newBase_26 : decode cX12_newBase 26 = .ok (.iload_n 1, 1) := by decide +kernel
theorem dX12_newBase_27 : decode cX12_newBase 27 = .ok (.invokevirtual 257, 3) := by decide +kernel
theorem dX12_newBase_30 : decode cX12_newBase 30 = .ok (.iaload, 1) := by decide +kernel
theorem dX12_newBase_31 : decode cX12_newBase 31 = .ok (.ireturn, 1) := by decide +kernel
theorem dX12_newBase_32 : decode cX12_newBase 32 = .ok (.aload_n 0, 1) := by decide +kernel
theorem dX12_newBase_33 : decode cX12_newBase 33 = .ok (.getfield 47, 3) := by decide +kernel
theorem dX12_newBase_36 : decode cX12_newBase 36 = .ok (.iload_n 2, 1) := by decide +kernel
theorem dX12_newBase_37 : decode cX12_newBase 37 = .ok (.iaload, 1) := by decide +kernel
theorem dX12_newBase_38 : decode cX12_newBase 38 = .ok (.ifCond .ne 11, 3) := by decide +kernel
theorem dX12_newBase_41 : decode cX12_newBase 41 = .ok (.aload_n 0, 1) := by decide +kernel
theorem dX12_newBase_42 : decode cX12_newBase 42 = .ok (.iload_n 2, 1) := by decide +kernel
theorem dX12_newBase_43 : decode cX12_newBase 43 = .ok (.invokevirtual 247, 3) := by decide +kernel
theorem dX12_newBase_46 : decode cX12_newBase 46 = .ok (.goto 9, 3) := by decide +kernel
theorem dX12_newBase_49 : decode cX12_newBase 49 = .ok (.aload_n 0, 1) := by decide +kernel
theorem dX12_newBase_50 : decode cX12_newBase 50 = .ok (.getfield 63, 3) := by decide +kernel
theorem dX12_newBase_53 : decode cX12_newBase 53 = .ok (.iload_n 2, 1) := by decide +kernel
theorem dX12_newBase_54 : decode cX12_newBase 54 = .ok (.iaload, 1) := by decide +kernel
theorem dX12_newBase_55 : decode cX12_newBase 55 = .ok (.ireturn, 1) := by decide +kernel
theorem dX12_rebase_0 : decode cX12_rebase 0 = .ok (.aload_n 0, 1) := by decide +kernel
theorem dX12_rebase_1 : decode cX12_rebase 1 = .ok (.aload_n 0, 1) := by decide +kernel
theorem dX12_rebase_2 : decode cX12_rebase 2 = .ok (.iload_n 1, 1) := by decide +kernel
theorem dX12_rebase_3 : decode cX12_rebase 3 = .ok (.iload_n 2, 1) := by decide +kernel
theorem dX12_rebase_4 : decode cX12_rebase 4 = .ok (.invokevirtual 424, 3) := by decide +kernel
theorem dX12_rebase_7 : decode cX12_rebase 7 = .ok (.invokevirtual 399, 3) := by decide +kernel
theorem dX12_rebase_10 : decode cX12_rebase 10 = .ok (.ifCond .eq 33, 3) := by decide +kernel
theorem dX12_rebase_13 : decode cX12_rebase 13 = .ok (.aload_n 0, 1) := by decide +kernel
theorem dX12_rebase_14 : decode cX12_rebase 14 = .ok (.aload_n 0, 1) := by decide +kernel
theorem dX12_rebase_15 : decode cX12_rebase 15 = .ok (.iload_n 1, 1) := by decide +kernel
theorem dX12_rebase_16 : decode cX12_rebase 16 = .ok (.iload_n 2, 1) := by decide +kernel
theorem dX12_rebase_17 : decode cX12_rebase 17 = .ok (.invokevirtual 430, 3) := by decide +kernel
theorem dX12_rebase_20 : decode cX12_rebase 20 = .ok (.ifCond .ne 12, 3) := by decide +kernel
theorem dX12_rebase_23 : decode cX12_rebase 23 = .ok (.aload_n 0, 1) := by decide +kernel
theorem dX12_rebase_24 : decode cX12_rebase 24 = .ok (.getfield 7, 3) := by decide +kernel
theorem dX12_rebase_27 : decode cX12_rebase 27 = .ok (.bipush 80, 2) := by decide +kernel
theorem dX12_rebase_29 : decode cX12_rebase 29 = .ok (.if_icmp .ne 7, 3) := by decide +kernel
theorem dX12_rebase_32 : decode cX12_rebase 32 = .ok (.iconst 2, 1) := by decide +kernel
theorem dX12_rebase_33 : decode cX12_rebase 33 = .ok (.goto 4, 3) := by decide +kernel
theorem dX12_rebase_36 : decode cX12_rebase 36 = .ok (.iconst 0, 1) := by decide +kernel
theorem dX12_rebase_37 : decode cX12_rebase 37 = .ok (.invokevirtual 399, 3) := by decide +kernel
theorem dX12_rebase_40 : decode cX12_rebase 40 = .ok (.ifCond .ne 5, 3) := by decide +kernel
theorem dX12_rebase_43 : decode cX12_rebase 43 = .ok (.iconst 0, 1) := by decide +kernel
theorem dX12_rebase_44 : decode cX12_rebase 44 = .ok (.ireturn, 1) := by decide +kernel
theorem dX12_rebase_45 : decode cX12_rebase 45 = .ok (.aload_n 0, 1) := by decide +kernel
theorem dX12_rebase_46 : decode cX12_rebase 46 = .ok (.iload_n 2, 1) := by decide +kernel
theorem dX12_rebase_47 : decode cX12_rebase 47 = .ok (.invokevirtual 433, 3) := by decide +kernel
theorem dX12_rebase_50 : decode cX12_rebase 50 = .ok (.istore_n 3, 1) := by decide +kernel
theorem dX12_rebase_51 : decode cX12_rebase 51 = .ok (.aload_n 0, 1) := by decide +kernel
theorem dX12_rebase_52 : decode cX12_rebase 52 = .ok (.getfield 17, 3) := by decide +kernel
theorem dX12_rebase_55 : decode cX12_rebase 55 = .ok (.aload_n 0, 1) := by decide +kernel
theorem dX12_rebase_56 : decode cX12_rebase 56 = .ok (.iload_n 2, 1) := by decide +kernel
theorem dX12_rebase_57 : decode cX12_rebase 57 = .ok (.invokevirtual 247, 3) := by decide +kernel
theorem dX12_rebase_60 : decode cX12_rebase 60 = .ok (.iaload, 1) := by decide +kernel
theorem dX12_rebase_61 : decode cX12_rebase 61 = .ok (.istore 4, 2) := by decide +kernel
theorem dX12_rebase_63 : decode cX12_rebase 63 = .ok (.aload_n 0, 1) := by decide +kernel
theorem dX12_rebase_64 : decode cX12_rebase 64 = .ok (.iload_n 3, 1) := by decide +kernel
theorem dX12_rebase_65 : decode cX12_rebase 65 = .ok (.iload 4, 2) := by decide +kernel
theorem dX12_rebase_67 : decode cX12_rebase 67 = .ok (.if_icmp .eq 18, 3) := by decide +kernel
theorem dX12_rebase_70 : decode cX12_rebase 70 = .ok (.aload_n 0, 1) := by decide +kernel
theorem dX12_rebase_71 : decode cX12_rebase 71 = .ok (.iload 4, 2) := by decide +kernel
theorem dX12_rebase_73 : decode cX12_rebase 73 = .ok (.aload_n 0, 1) := by decide +kernel
theorem dX12_rebase_74 : decode cX12_rebase 74 = .ok (.iload_n 2, 1) := by decide +kernel
theorem dX12_rebase_75 : decode cX12_rebase 75 = .ok (.invokevirtual 247, 3) := by decide +kernel
theorem dX12_rebase_78 : decode cX12_rebase 78 = .ok (.iload_n 3, 1) := by decide +kernel
theorem dX12_rebase_79 : decode cX12_rebase 79 = .ok (.invokevirtual 360, 3) := by decide +kernel
theorem dX12_rebase_82 : decode cX12_rebase 82 = .ok (.ifCond .ne 7, 3) := by decide +kernel
theorem dX12_rebase_85 : decode cX12_rebase 85 = .ok (.iconst 2, 1) := by decide +kernel
theorem dX12_rebase_86 : decode cX12_rebase 86 = .ok (.goto 4, 3) := by decide +kernel
theorem dX12_rebase_89 : decode cX12_rebase 89 = .ok (.iconst 0, 1) := by decide +kernel
theorem dX12_rebase_90 : decode cX12_rebase 90 = .ok (.invokevirtual 399, 3) := by decide +kernel
theorem dX12_rebase_93 : decode cX12_rebase 93 = .ok (.ifCond .ne 5, 3) := by decide +kernel
theorem dX12_rebase_96 : decode cX12_rebase 96 = .ok (.iconst 0, 1) := by decide +kernel
theorem dX12_rebase_97 : decode cX12_rebase 97 = .ok (.ireturn, 1) := by decide +kernel
theorem dX12_rebase_98 : decode cX12_rebase 98 = .ok (.aload_n 0, 1) := by decide +kernel
theorem dX12_rebase_99 : decode cX12_rebase 99 = .ok (.iload_n 1, 1) := by decide +kernel
theorem dX12_rebase_100 : decode cX12_rebase 100 = .ok (.iload_n 2, 1) := by decide +kernel
theorem dX12_rebase_101 : decode cX12_rebase 101 = .ok (.bipush 81, 2) := by decide +kernel
theorem dX12_rebase_103 : decode cX12_rebase 103 = .ok (.iload_n 3, 1) := by decide +kernel
theorem dX12_rebase_104 : decode cX12_rebase 104 = .ok (.invokevirtual 418, 3) := by decide +kernel
theorem dX12_rebase_107 : decode cX12_rebase 107 = .ok (.ireturn, 1) := by decide +kernel
theorem dX12_abandons_0 : decode cX12_abandons 0 = .ok (.aload_n 0, 1) := by decide +kernel
theorem dX12_abandons_1 : decode cX12_abandons 1 = .ok (.getfield 47, 3) := by decide +kernel
theorem dX12_abandons_4 : decode cX12_abandons 4 = .ok (.iload_n 1, 1) := by decide +kernel
theorem dX12_abandons_5 : decode cX12_abandons 5 = .ok (.iconst 2, 1) := by decide +kernel
theorem dX12_abandons_6 : decode cX12_abandons 6 = .ok (.iastore, 1) := by decide +kernel
theorem dX12_abandons_7 : decode cX12_abandons 7 = .ok (.aload_n 0, 1) := by decide +kernel
theorem dX12_abandons_8 : decode cX12_abandons 8 = .ok (.getfield 69, 3) := by decide +kernel
theorem dX12_abandons_11 : decode cX12_abandons 11 = .ok (.iload_n 1, 1) := by decide +kernel
theorem dX12_abandons_12 : decode cX12_abandons 12 = .ok (.iconst 0, 1) := by decide +kernel
theorem dX12_abandons_13 : decode cX12_abandons 13 = .ok (.iastore, 1) := by decide +kernel
theorem dX12_abandons_14 : decode cX12_abandons 14 = .ok (.aload_n 0, 1) := by decide +kernel
theorem dX12_abandons_15 : decode cX12_abandons 15 = .ok (.iload_n 1, 1) := by decide +kernel
theorem dX12_abandons_16 : decode cX12_abandons 16 = .ok (.iload_n 2, 1) := by decide +kernel
theorem dX12_abandons_17 : decode cX12_abandons 17 = .ok (.invokevirtual 372, 3) := by decide +kernel
theorem dX12_abandons_20 : decode cX12_abandons 20 = .ok (.return_, 1) := by decide +kernel
theorem dX12_abandon_0 : decode cX12_abandon 0 = .ok (.aload_n 0, 1) := by decide +kernel
theorem dX12_abandon_1 : decode cX12_abandon 1 = .ok (.aload_n 0, 1) := by decide +kernel
theorem dX12_abandon_2 : decode cX12_abandon 2 = .ok (.iload_n 1, 1) := by decide +kernel
theorem dX12_abandon_3 : decode cX12_abandon 3 = .ok (.iload_n 2, 1) := by decide +kernel
theorem dX12_abandon_4 : decode cX12_abandon 4 = .ok (.invokevirtual 424, 3) := by decide +kernel
theorem dX12_abandon_7 : decode cX12_abandon 7 = .ok (.invokevirtual 399, 3) := by decide +kernel
theorem dX12_abandon_10 : decode cX12_abandon 10 = .ok (.ifCond .eq 24, 3) := by decide +kernel
theorem dX12_abandon_13 : decode cX12_abandon 13 = .ok (.aload_n 0, 1) := by decide +kernel
theorem dX12_abandon_14 : decode cX12_abandon 14 = .ok (.aload_n 0, 1) := by decide +kernel
theorem dX12_abandon_15 : decode cX12_abandon 15 = .ok (.iload_n 1, 1) := by decide +kernel
theorem dX12_abandon_16 : decode cX12_abandon 16 = .ok (.iload_n 2, 1) := by decide +kernel
theorem dX12_abandon_17 : decode cX12_abandon 17 = .ok (.invokevirtual 430, 3) := by decide +kernel
theorem dX12_abandon_20 : decode cX12_abandon 20 = .ok (.ifCond .eq 7, 3) := by decide +kernel
theorem dX12_abandon_23 : decode cX12_abandon 23 = .ok (.iconst 2, 1) := by decide +kernel
theorem dX12_abandon_24 : decode cX12_abandon 24 = .ok (.goto 4, 3) := by decide +kernel
theorem dX12_abandon_27 : decode cX12_abandon 27 = .ok (.iconst 0, 1) := by decide +kernel
theorem dX12_abandon_28 : decode cX12_abandon 28 = .ok (.invokevirtual 399, 3) := by decide +kernel
theorem dX12_abandon_31 : decode cX12_abandon 31 = .ok (.ifCond .ne 5, 3) := by decide +kernel
theorem dX12_abandon_34 : decode cX12_abandon 34 = .ok (.iconst 0, 1) := by decide +kernel
theorem dX12_abandon_35 : decode cX12_abandon 35 = .ok (.ireturn, 1) := by decide +kernel
theorem dX12_abandon_36 : decode cX12_abandon 36 = .ok (.aload_n 0, 1) := by decide +kernel
theorem dX12_abandon_37 : decode cX12_abandon 37 = .ok (.iload_n 2, 1) := by decide +kernel
theorem dX12_abandon_38 : decode cX12_abandon 38 = .ok (.iload_n 1, 1) := by decide +kernel
theorem dX12_abandon_39 : decode cX12_abandon 39 = .ok (.invokevirtual 436, 3) := by decide +kernel
theorem dX12_abandon_42 : decode cX12_abandon 42 = .ok (.iconst 0, 1) := by decide +kernel
theorem dX12_abandon_43 : decode cX12_abandon 43 = .ok (.istore_n 3, 1) := by decide +kernel
theorem dX12_abandon_44 : decode cX12_abandon 44 = .ok (.iconst 0, 1) := by decide +kernel
theorem dX12_abandon_45 : decode cX12_abandon 45 = .ok (.istore 4, 2) := by decide +kernel
theorem dX12_abandon_47 : decode cX12_abandon 47 = .ok (.iload 4, 2) := by decide +kernel
theorem dX12_abandon_49 : decode cX12_abandon 49 = .ok (.aload_n 0, 1) := by decide +kernel
theorem dX12_abandon_50 : decode cX12_abandon 50 = .ok (.getfield 196, 3) := by decide +kernel
theorem dX12_abandon_53 : decode cX12_abandon 53 = .ok (.if_icmp .ge 37, 3) := by decide +kernel
theorem dX12_abandon_56 : decode cX12_abandon 56 = .ok (.iload_n 3, 1) := by decide +kernel
theorem dX12_abandon_57 : decode cX12_abandon 57 = .ok (.aload_n 0, 1) := by decide +kernel
theorem dX12_abandon_58 : decode cX12_abandon 58 = .ok (.getfield 47, 3) := by decide +kernel
theorem dX12_abandon_61 : decode cX12_abandon 61 = .ok (.iload 4, 2) := by decide +kernel
theorem dX12_abandon_63 : decode cX12_abandon 63 = .ok (.iaload, 1) := by decide +kernel
theorem dX12_abandon_64 : decode cX12_abandon 64 = .ok (.ifCond .ne 17, 3) := by decide +kernel
theorem dX12_abandon_67 : decode cX12_abandon 67 = .ok (.aload_n 0, 1) := by decide +kernel
theorem dX12_abandon_68 : decode cX12_abandon 68 = .ok (.iload 4, 2) := by decide +kernel
theorem dX12_abandon_70 : decode cX12_abandon 70 = .ok (.invokevirtual 298, 3) := by decide +kernel
theorem dX12_abandon_73 : decode cX12_abandon 73 = .ok (.iload_n 2, 1) := by decide +kernel
theorem dX12_abandon_74 : decode cX12_abandon 74 = .ok (.if_icmp .ne 7, 3) := by decide +kernel
theorem dX12_abandon_77 : decode cX12_abandon 77 = .ok (.iconst 1, 1) := by decide +kernel
theorem dX12_abandon_78 : decode cX12_abandon 78 = .ok (.goto 4, 3) := by decide +kernel
theorem dX12_abandon_81 : decode cX12_abandon 81 = .ok (.iconst 0, 1) := by decide +kernel
theorem dX12_abandon_82 : decode cX12_abandon 82 = .ok (.iadd, 1) := by decide +kernel
theorem dX12_abandon_83 : decode cX12_abandon 83 = .ok (.istore_n 3, 1) := by decide +kernel
theorem dX12_abandon_84 : decode cX12_abandon 84 = .ok (.iinc 4 1, 3) := by decide +kernel
theorem dX12_abandon_87 : decode cX12_abandon 87 = .ok (.goto (-40), 3) := by decide +kernel
theorem dX12_abandon_90 : decode cX12_abandon 90 = .ok (.iload_n 3, 1) := by decide +kernel
theorem dX12_abandon_91 : decode cX12_abandon 91 = .ok (.ireturn, 1) := by decide +kernel
theorem dX12_restore_0 : decode cX12_restore 0 = .ok (.aload_n 0, 1) := by decide +kernel
theorem dX12_restore_1 : decode cX12_restore 1 = .ok (.aload_n 0, 1) := by decide +kernel
theorem dX12_restore_2 : decode cX12_restore 2 = .ok (.iload_n 1, 1) := by decide +kernel
theorem dX12_restore_3 : decode cX12_restore 3 = .ok (.invokevirtual 199, 3) := by decide +kernel
theorem dX12_restore_6 : decode cX12_restore 6 = .ok (.ifCond .ne 7, 3) := by decide +kernel
theorem dX12_restore_9 : decode cX12_restore 9 = .ok (.iconst 1, 1) := by decide +kernel
theorem dX12_restore_10 : decode cX12_restore 10 = .ok (.goto 18, 3) := by decide +kernel
theorem dX12_restore_13 : decode cX12_restore 13 = .ok (.aload_n 0, 1) := by decide +kernel
theorem dX12_restore_14 : decode cX12_restore 14 = .ok (.getfield 47, 3) := by decide +kernel
theorem dX12_restore_17 : decode cX12_restore 17 = .ok (.iload_n 1, 1) := by decide +kernel
theorem dX12_restore_18 : decode cX12_restore 18 = .ok (.iaload, 1) := by decide +kernel
theorem dX12_restore_19 : decode cX12_restore 19 = .ok (.iconst 2, 1) := by decide +kernel
theorem dX12_restore_20 : decode cX12_restore 20 = .ok (.if_icmp .ne 7, 3) := by decide +kernel
theorem dX12_restore_23 : decode cX12_restore 23 = .ok (.iconst 0, 1) := by decide +kernel
theorem dX12_restore_24 : decode cX12_restore 24 = .ok (.goto 4, 3) := by decide +kernel
theorem dX12_restore_27 : decode cX12_restore 27 = .ok (.iconst 2, 1) := by decide +kernel
theorem dX12_restore_28 : decode cX12_restore 28 = .ok (.invokevirtual 399, 3) := by decide +kernel
theorem dX12_restore_31 : decode cX12_restore 31 = .ok (.ifCond .ne 5, 3) := by decide +kernel
theorem dX12_restore_34 : decode cX12_restore 34 = .ok (.iconst 0, 1) := by decide +kernel
theorem dX12_restore_35 : decode cX12_restore 35 = .ok (.ireturn, 1) := by decide +kernel
theorem dX12_restore_36 : decode cX12_restore 36 = .ok (.aload_n 0, 1) := by decide +kernel
theorem dX12_restore_37 : decode cX12_restore 37 = .ok (.getfield 47, 3) := by decide +kernel
theorem dX12_restore_40 : decode cX12_restore 40 = .ok (.iload_n 1, 1) := by decide +kernel
theorem dX12_restore_41 : decode cX12_restore 41 = .ok (.iconst 0, 1) := by decide +kernel
theorem dX12_restore_42 : decode cX12_restore 42 = .ok (.iastore, 1) := by decide +kernel
theorem dX12_restore_43 : decode cX12_restore 43 = .ok (.aload_n 0, 1) := by decide +kernel
theorem dX12_restore_44 : decode cX12_restore 44 = .ok (.getfield 72, 3) := by decide +kernel
theorem dX12_restore_47 : decode cX12_restore 47 = .ok (.iload_n 1, 1) := by decide +kernel
theorem dX12_restore_48 : decode cX12_restore 48 = .ok (.aload_n 0, 1) := by decide +kernel
theorem dX12_restore_49 : decode cX12_restore 49 = .ok (.getfield 260, 3) := by decide +kernel
theorem dX12_restore_52 : decode cX12_restore 52 = .ok (.iastore, 1) := by decide +kernel
theorem dX12_restore_53 : decode cX12_restore 53 = .ok (.aload_n 0, 1) := by decide +kernel
theorem dX12_restore_54 : decode cX12_restore 54 = .ok (.getfield 50, 3) := by decide +kernel
theorem dX12_restore_57 : decode cX12_restore 57 = .ok (.iload_n 1, 1) := by decide +kernel
theorem dX12_restore_58 : decode cX12_restore 58 = .ok (.iaload, 1) := by decide +kernel
theorem dX12_restore_59 : decode cX12_restore 59 = .ok (.iconst 1, 1) := by decide +kernel
theorem dX12_restore_60 : decode cX12_restore 60 = .ok (.isub, 1) := by decide +kernel
theorem dX12_restore_61 : decode cX12_restore 61 = .ok (.ireturn, 1) := by decide +kernel
theorem dX12_setFlags_0 : decode cX12_setFlags 0 = .ok (.aload_n 0, 1) := by decide +kernel
theorem dX12_setFlags_1 : decode cX12_setFlags 1 = .ok (.aload_n 0, 1) := by decide +kernel
theorem dX12_setFlags_2 : decode cX12_setFlags 2 = .ok (.iload_n 1, 1) := by decide +kernel
theorem dX12_setFlags_3 : decode cX12_setFlags 3 = .ok (.invokevirtual 199, 3) := by decide +kernel
theorem dX12_setFlags_6 : decode cX12_setFlags 6 = .ok (.ifCond .ne 7, 3) := by decide +kernel
theorem dX12_setFlags_9 : decode cX12_setFlags 9 = .ok (.iconst 1, 1) := by decide +kernel
theorem dX12_setFlags_10 : decode cX12_setFlags 10 = .ok (.goto 17, 3) := by decide +kernel
theorem dX12_setFlags_13 : decode cX12_setFlags 13 = .ok (.aload_n 0, 1) := by decide +kernel
theorem dX12_setFlags_14 : decode cX12_setFlags 14 = .ok (.getfield 47, 3) := by decide +kernel
theorem dX12_setFlags_17 : decode cX12_setFlags 17 = .ok (.iload_n 1, 1) := by decide +kernel
theorem dX12_setFlags_18 : decode cX12_setFlags 18 = .ok (.iaload, 1) := by decide +kernel
theorem dX12_setFlags_19 : decode cX12_setFlags 19 = .ok (.ifCond .ne 7, 3) := by decide +kernel
theorem dX12_setFlags_22 : decode cX12_setFlags 22 = .ok (.iconst 0, 1) := by decide +kernel
theorem dX12_setFlags_23 : decode cX12_setFlags 23 = .ok (.goto 4, 3) := by decide +kernel
theorem dX12_setFlags_26 : decode cX12_setFlags 26 = .ok (.iconst 2, 1) := by decide +kernel
theorem dX12_setFlags_27 : decode cX12_setFlags 27 = .ok (.invokevirtual 399, 3) := by decide +kernel
theorem dX12_setFlags_30 : decode cX12_setFlags 30 = .ok (.ifCond .ne 5, 3) := by decide +kernel
theorem dX12_setFlags_33 : decode cX12_setFlags 33 = .ok (.iconst 0, 1) := by decide +kernel
theorem dX12_setFlags_34 : decode cX12_setFlags 34 = .ok (.ireturn, 1) := by decide +kernel
theorem dX12_setFlags_35 : decode cX12_setFlags 35 = .ok (.aload_n 0, 1) := by decide +kernel
theorem dX12_setFlags_36 : decode cX12_setFlags 36 = .ok (.getfield 53, 3) := by decide +kernel
theorem dX12_setFlags_39 : decode cX12_setFlags 39 = .ok (.iload_n 1, 1) := by decide +kernel
theorem dX12_setFlags_40 : decode cX12_setFlags 40 = .ok (.baload, 1) := by decide +kernel
theorem dX12_setFlags_41 : decode cX12_setFlags 41 = .ok (.ifCond .eq 7, 3) := by decide +kernel
theorem dX12_setFlags_44 : decode cX12_setFlags 44 = .ok (.iconst 1, 1) := by decide +kernel
theorem dX12_setFlags_45 : decode cX12_setFlags 45 = .ok (.goto 4, 3) := by decide +kernel
theorem dX12_setFlags_48 : decode cX12_setFlags 48 = .ok (.iconst 0, 1) := by decide +kernel
theorem dX12_setFlags_49 : decode cX12_setFlags 49 = .ok (.aload_n 0, 1) := by decide +kernel
theorem dX12_setFlags_50 : decode cX12_setFlags 50 = .ok (.getfield 57, 3) := by decide +kernel
theorem dX12_setFlags_53 : decode cX12_setFlags 53 = .ok (.iload_n 1, 1) := by decide +kernel
theorem dX12_setFlags_54 : decode cX12_setFlags 54 = .ok (.baload, 1) := by decide +kernel
theorem dX12_setFlags_55 : decode cX12_setFlags 55 = .ok (.ifCond .eq 7, 3) := by decide +kernel
theorem dX12_setFlags_58 : decode cX12_setFlags 58 = .ok (.iconst 2, 1) := by decide +kernel
theorem dX12_setFlags_59 : decode cX12_setFlags 59 = .ok (.goto 4, 3) := by decide +kernel
theorem dX12_setFlags_62 : decode cX12_setFlags 62 = .ok (.iconst 0, 1) := by decide +kernel
theorem dX12_setFlags_63 : decode cX12_setFlags 63 = .ok (.iadd, 1) := by decide +kernel
theorem dX12_setFlags_64 : decode cX12_setFlags 64 = .ok (.istore 4, 2) := by decide +kernel
theorem dX12_setFlags_66 : decode cX12_setFlags 66 = .ok (.aload_n 0, 1) := by decide +kernel
theorem dX12_setFlags_67 : decode cX12_setFlags 67 = .ok (.getfield 53, 3) := by decide +kernel
theorem dX12_setFlags_70 : decode cX12_setFlags 70 = .ok (.iload_n 1, 1) := by decide +kernel
theorem dX12_setFlags_71 : decode cX12_setFlags 71 = .ok (.baload, 1) := by decide +kernel
theorem dX12_setFlags_72 : decode cX12_setFlags 72 = .ok (.ifCond .eq 11, 3) := by decide +kernel
theorem dX12_setFlags_75 : decode cX12_setFlags 75 = .ok (.iload_n 2, 1) := by decide +kernel
theorem dX12_setFlags_76 : decode cX12_setFlags 76 = .ok (.ifCond .ne 7, 3) := by decide +kernel
theorem dX12_setFlags_79 : decode cX12_setFlags 79 = .ok (.iconst 1, 1) := by decide +kernel
theorem dX12_setFlags_80 : decode cX12_setFlags 80 = .ok (.goto 4, 3) := by decide +kernel
theorem dX12_setFlags_83 : decode cX12_setFlags 83 = .ok (.iconst 0, 1) := by decide +kernel
theorem dX12_setFlags_84 : decode cX12_setFlags 84 = .ok (.istore 5, 2) := by decide +kernel
theorem dX12_setFlags_86 : decode cX12_setFlags 86 = .ok (.aload_n 0, 1) := by decide +kernel
theorem dX12_setFlags_87 : decode cX12_setFlags 87 = .ok (.getfield 69, 3) := by decide +kernel
theorem dX12_setFlags_90 : decode cX12_setFlags 90 = .ok (.iload_n 1, 1) := by decide +kernel
theorem dX12_setFlags_91 : decode cX12_setFlags 91 = .ok (.iload_n 2, 1) := by decide +kernel
theorem dX12_setFlags_92 : decode cX12_setFlags 92 = .ok (.ifCond .eq 7, 3) := by decide +kernel
theorem dX12_setFlags_95 : decode cX12_setFlags 95 = .ok (.iconst 0, 1) := by decide +kernel
theorem dX12_setFlags_96 : decode cX12_setFlags 96 = .ok (.goto 9, 3) := by decide +kernel
theorem dX12_setFlags_99 : decode cX12_setFlags 99 = .ok (.aload_n 0, 1) := by decide +kernel
theorem dX12_setFlags_100 : decode cX12_setFlags 100 = .ok (.getfield 69, 3) := by decide +kernel
theorem dX12_setFlags_103 : decode cX12_setFlags 103 = .ok (.iload_n 1, 1) := by decide +kernel
theorem dX12_setFlags_104 : decode cX12_setFlags 104 = .ok (.iaload, 1) := by decide +kernel
theorem dX12_setFlags_105 : decode cX12_setFlags 105 = .ok (.iastore, 1) := by decide +kernel
theorem dX12_setFlags_106 : decode cX12_setFlags 106 = .ok (.aload_n 0, 1) := by decide +kernel
theorem dX12_setFlags_107 : decode cX12_setFlags 107 = .ok (.getfield 53, 3) := by decide +kernel
theorem dX12_setFlags_110 : decode cX12_setFlags 110 = .ok (.iload_n 1, 1) := by decide +kernel
theorem dX12_setFlags_111 : decode cX12_setFlags 111 = .ok (.iload_n 2, 1) := by decide +kernel
theorem dX12_setFlags_112 : decode cX12_setFlags 112 = .ok (.bastore, 1) := by decide +kernel
theorem dX12_setFlags_113 : decode cX12_setFlags 113 = .ok (.aload_n 0, 1) := by decide +kernel
theorem dX12_setFlags_114 : decode cX12_setFlags 114 = .ok (.getfield 57, 3) := by decide +kernel
theorem dX12_setFlags_117 : decode cX12_setFlags 117 = .ok (.iload_n 1, 1) := by decide +kernel
theorem dX12_setFlags_118 : decode cX12_setFlags 118 = .ok (.iload_n 3, 1) := by decide +kernel
theorem dX12_setFlags_119 : decode cX12_setFlags 119 = .ok (.bastore, 1) := by decide +kernel
theorem dX12_setFlags_120 : decode cX12_setFlags 120 = .ok (.aload_n 0, 1) := by decide +kernel
theorem dX12_setFlags_121 : decode cX12_setFlags 121 = .ok (.iload_n 1, 1) := by decide +kernel
theorem dX12_setFlags_122 : decode cX12_setFlags 122 = .ok (.iload 5, 2) := by decide +kernel
theorem dX12_setFlags_124 : decode cX12_setFlags 124 = .ok (.ifCond .eq 11, 3) := by decide +kernel
theorem dX12_setFlags_127 : decode cX12_setFlags 127 = .ok (.aload_n 0, 1) := by decide +kernel
theorem dX12_setFlags_128 : decode cX12_setFlags 128 = .ok (.iload_n 1, 1) := by decide +kernel
theorem dX12_setFlags_129 : decode cX12_setFlags 129 = .ok (.invokevirtual 254, 3) := by decide +kernel
theorem dX12_setFlags_132 : decode cX12_setFlags 132 = .ok (.goto 4, 3) := by decide +kernel
theorem dX12_setFlags_135 : decode cX12_setFlags 135 = .ok (.iconst 0, 1) := by decide +kernel
theorem dX12_setFlags_136 : decode cX12_setFlags 136 = .ok (.invokevirtual 266, 3) := by decide +kernel
theorem dX12_setFlags_139 : decode cX12_setFlags 139 = .ok (.iload 4, 2) := by decide +kernel
theorem dX12_setFlags_141 : decode cX12_setFlags 141 = .ok (.ireturn, 1) := by decide +kernel
theorem dX12_setTopic_0 : decode cX12_setTopic 0 = .ok (.aload_n 0, 1) := by decide +kernel
theorem dX12_setTopic_1 : decode cX12_setTopic 1 = .ok (.aload_n 0, 1) := by decide +kernel
theorem dX12_setTopic_2 : decode cX12_setTopic 2 = .ok (.iload_n 1, 1) := by decide +kernel
theorem dX12_setTopic_3 : decode cX12_setTopic 3 = .ok (.invokevirtual 199, 3) := by decide +kernel
theorem dX12_setTopic_6 : decode cX12_setTopic 6 = .ok (.ifCond .ne 7, 3) := by decide +kernel
theorem dX12_setTopic_9 : decode cX12_setTopic 9 = .ok (.iconst 1, 1) := by decide +kernel
theorem dX12_setTopic_10 : decode cX12_setTopic 10 = .ok (.goto 17, 3) := by decide +kernel
theorem dX12_setTopic_13 : decode cX12_setTopic 13 = .ok (.iload_n 2, 1) := by decide +kernel
theorem dX12_setTopic_14 : decode cX12_setTopic 14 = .ok (.iconst (-1), 1) := by decide +kernel
theorem dX12_setTopic_15 : decode cX12_setTopic 15 = .ok (.iconst 3, 1) := by decide +kernel
theorem dX12_setTopic_16 : decode cX12_setTopic 16 = .ok (.invokestatic 192, 3) := by decide +kernel
theorem dX12_setTopic_19 : decode cX12_setTopic 19 = .ok (.ifCond .eq 7, 3) := by decide +kernel
theorem dX12_setTopic_22 : decode cX12_setTopic 22 = .ok (.iconst 0, 1) := by decide +kernel
theorem dX12_setTopic_23 : decode cX12_setTopic 23 = .ok (.goto 4, 3) := by decide +kernel
theorem dX12_setTopic_26 : decode cX12_setTopic 26 = .ok (.iconst 2, 1) := by decide +kernel
theorem dX12_setTopic_27 : decode cX12_setTopic 27 = .ok (.invokevirtual 399, 3) := by decide +kernel
theorem dX12_setTopic_30 : decode cX12_setTopic 30 = .ok (.ifCond .ne 5, 3) := by decide +kernel
theorem dX12_setTopic_33 : decode cX12_setTopic 33 = .ok (.iconst 0, 1) := by decide +kernel
theorem dX12_setTopic_34 : decode cX12_setTopic 34 = .ok (.ireturn, 1) := by decide +kernel
theorem dX12_setTopic_35 : decode cX12_setTopic 35 = .ok (.aload_n 0, 1) := by decide +kernel
theorem dX12_setTopic_36 : decode cX12_setTopic 36 = .ok (.getfield 60, 3) := by decide +kernel
theorem dX12_setTopic_39 : decode cX12_setTopic 39 = .ok (.iload_n 1, 1) := by decide +kernel
theorem dX12_setTopic_40 : decode cX12_setTopic 40 = .ok (.iaload, 1) := by decide +kernel
theorem dX12_setTopic_41 : decode cX12_setTopic 41 = .ok (.istore_n 3, 1) := by decide +kernel
theorem dX12_setTopic_42 : decode cX12_setTopic 42 = .ok (.aload_n 0, 1) := by decide +kernel
theorem dX12_setTopic_43 : decode cX12_setTopic 43 = .ok (.getfield 60, 3) := by decide +kernel
theorem dX12_setTopic_46 : decode cX12_setTopic 46 = .ok (.iload_n 1, 1) := by decide +kernel
theorem dX12_setTopic_47 : decode cX12_setTopic 47 = .ok (.iload_n 2, 1) := by decide +kernel
theorem dX12_setTopic_48 : decode cX12_setTopic 48 = .ok (.iastore, 1) := by decide +kernel
theorem dX12_setTopic_49 : decode cX12_setTopic 49 = .ok (.iload_n 3, 1) := by decide +kernel
theorem dX12_setTopic_50 : decode cX12_setTopic 50 = .ok (.ireturn, 1) := by decide +kernel
theorem dX12_changes_0 : decode cX12_changes 0 = .ok (.aload_n 0, 1) := by decide +kernel
theorem dX12_changes_1 : decode cX12_changes 1 = .ok (.iconst 0, 1) := by decide +kernel
theorem dX12_changes_2 : decode cX12_changes 2 = .ok (.putfield 189, 3) := by decide +kernel
theorem dX12_changes_5 : decode cX12_changes 5 = .ok (.aload_n 0, 1) := by decide +kernel
theorem dX12_changes_6 : decode cX12_changes 6 = .ok (.getfield 196, 3) := by decide +kernel
theorem dX12_changes_9 : decode cX12_changes 9 = .ok (.ireturn, 1) := by decide +kernel
theorem dX12_asks_0 : decode cX12_asks 0 = .ok (.aload_n 0, 1) := by decide +kernel
theorem dX12_asks_1 : decode cX12_asks 1 = .ok (.aload_n 0, 1) := by decide +kernel
theorem dX12_asks_2 : decode cX12_asks 2 = .ok (.iload_n 1, 1) := by decide +kernel
theorem dX12_asks_3 : decode cX12_asks 3 = .ok (.invokevirtual 199, 3) := by decide +kernel
theorem dX12_asks_6 : decode cX12_asks 6 = .ok (.ifCond .eq 7, 3) := by decide +kernel
theorem dX12_asks_9 : decode cX12_asks 9 = .ok (.iconst 0, 1) := by decide +kernel
theorem dX12_asks_10 : decode cX12_asks 10 = .ok (.goto 4, 3) := by decide +kernel
theorem dX12_asks_13 : decode cX12_asks 13 = .ok (.iconst 1, 1) := by decide +kernel
theorem dX12_asks_14 : decode cX12_asks 14 = .ok (.invokevirtual 399, 3) := by decide +kernel
theorem dX12_asks_17 : decode cX12_asks 17 = .ok (.ireturn, 1) := by decide +kernel
theorem dX12_stateOf_0 : decode cX12_stateOf 0 = .ok (.aload_n 0, 1) := by decide +kernel
theorem dX12_stateOf_1 : decode cX12_stateOf 1 = .ok (.iload_n 1, 1) := by decide +kernel
theorem dX12_stateOf_2 : decode cX12_stateOf 2 = .ok (.invokevirtual 439, 3) := by decide +kernel
theorem dX12_stateOf_5 : decode cX12_stateOf 5 = .ok (.ifCond .eq 12, 3) := by decide +kernel
theorem dX12_stateOf_8 : decode cX12_stateOf 8 = .ok (.aload_n 0, 1) := by decide +kernel
theorem dX12_stateOf_9 : decode cX12_stateOf 9 = .ok (.getfield 47, 3) := by decide +kernel
theorem dX12_stateOf_12 : decode cX12_stateOf 12 = .ok (.iload_n 1, 1) := by decide +kernel
theorem dX12_stateOf_13 : decode cX12_stateOf 13 = .ok (.iaload, 1) := by decide +kernel
theorem dX12_stateOf_14 : decode cX12_stateOf 14 = .ok (.goto 4, 3) := by decide +kernel
theorem dX12_stateOf_17 : decode cX12_stateOf 17 = .ok (.iconst 0, 1) := by decide +kernel
theorem dX12_stateOf_18 : decode cX12_stateOf 18 = .ok (.ireturn, 1) := by decide +kernel
theorem dX12_sets_0 : decode cX12_sets 0 = .ok (.aload_n 0, 1) := by decide +kernel
theorem dX12_sets_1 : decode cX12_sets 1 = .ok (.iload_n 1, 1) := by decide +kernel
theorem dX12_sets_2 : decode cX12_sets 2 = .ok (.invokevirtual 439, 3) := by decide +kernel
theorem dX12_sets_5 : decode cX12_sets 5 = .ok (.ifCond .eq 12, 3) := by decide +kernel
theorem dX12_sets_8 : decode cX12_sets 8 = .ok (.aload_n 0, 1) := by decide +kernel
theorem dX12_sets_9 : decode cX12_sets 9 = .ok (.getfield 50, 3) := by decide +kernel
theorem dX12_sets_12 : decode cX12_sets 12 = .ok (.iload_n 1, 1) := by decide +kernel
theorem dX12_sets_13 : decode cX12_sets 13 = .ok (.iaload, 1) := by decide +kernel
theorem dX12_sets_14 : decode cX12_sets 14 = .ok (.goto 4, 3) := by decide +kernel
theorem dX12_sets_17 : decode cX12_sets 17 = .ok (.iconst 0, 1) := by decide +kernel
theorem dX12_sets_18 : decode cX12_sets 18 = .ok (.ireturn, 1) := by decide +kernel
theorem dX12_commitOf_0 : decode cX12_commitOf 0 = .ok (.aload_n 0, 1) := by decide +kernel
theorem dX12_commitOf_1 : decode cX12_commitOf 1 = .ok (.aload_n 0, 1) := by decide +kernel
theorem dX12_commitOf_2 : decode cX12_commitOf 2 = .ok (.iload_n 1, 1) := by decide +kernel
theorem dX12_commitOf_3 : decode cX12_commitOf 3 = .ok (.iload_n 2, 1) := by decide +kernel
theorem dX12_commitOf_4 : decode cX12_commitOf 4 = .ok (.invokevirtual 402, 3) := by decide +kernel
theorem dX12_commitOf_7 : decode cX12_commitOf 7 = .ok (.ifCond .eq 7, 3) := by decide +kernel
theorem dX12_commitOf_10 : decode cX12_commitOf 10 = .ok (.iconst 0, 1) := by decide +kernel
theorem dX12_commitOf_11 : decode cX12_commitOf 11 = .ok (.goto 4, 3) := by decide +kernel
theorem dX12_commitOf_14 : decode cX12_commitOf 14 = .ok (.iconst 1, 1) := by decide +kernel
theorem dX12_commitOf_15 : decode cX12_commitOf 15 = .ok (.invokevirtual 399, 3) := by decide +kernel
theorem dX12_commitOf_18 : decode cX12_commitOf 18 = .ok (.ifCond .eq 12, 3) := by decide +kernel
theorem dX12_commitOf_21 : decode cX12_commitOf 21 = .ok (.aload_n 0, 1) := by decide +kernel
theorem dX12_commitOf_22 : decode cX12_commitOf 22 = .ok (.iload_n 1, 1) := by decide +kernel
theorem dX12_commitOf_23 : decode cX12_commitOf 23 = .ok (.iload_n 2, 1) := by decide +kernel
theorem dX12_commitOf_24 : decode cX12_commitOf 24 = .ok (.invokevirtual 244, 3) := by decide +kernel
theorem dX12_commitOf_27 : decode cX12_commitOf 27 = .ok (.goto 4, 3) := by decide +kernel
theorem dX12_commitOf_30 : decode cX12_commitOf 30 = .ok (.iconst 0, 1) := by decide +kernel
theorem dX12_commitOf_31 : decode cX12_commitOf 31 = .ok (.ireturn, 1) := by decide +kernel
theorem dX12_kindOf_0 : decode cX12_kindOf 0 = .ok (.aload_n 0, 1) := by decide +kernel
theorem dX12_kindOf_1 : decode cX12_kindOf 1 = .ok (.aload_n 0, 1) := by decide +kernel
theorem dX12_kindOf_2 : decode cX12_kindOf 2 = .ok (.iload_n 1, 1) := by decide +kernel
theorem dX12_kindOf_3 : decode cX12_kindOf 3 = .ok (.iload_n 2, 1) := by decide +kernel
theorem dX12_kindOf_4 : decode cX12_kindOf 4 = .ok (.invokevirtual 402, 3) := by decide +kernel
theorem dX12_kindOf_7 : decode cX12_kindOf 7 = .ok (.ifCond .eq 7, 3) := by decide +kernel
theorem dX12_kindOf_10 : decode cX12_kindOf 10 = .ok (.iconst 0, 1) := by decide +kernel
theorem dX12_kindOf_11 : decode cX12_kindOf 11 = .ok (.goto 4, 3) := by decide +kernel
theorem dX12_kindOf_14 : decode cX12_kindOf 14 = .ok (.iconst 1, 1) := by decide +kernel
theorem dX12_kindOf_15 : decode cX12_kindOf 15 = .ok (.invokevirtual 399, 3) := by decide +kernel
theorem dX12_kindOf_18 : decode cX12_kindOf 18 = .ok (.ifCond .eq 16, 3) := by decide +kernel
theorem dX12_kindOf_21 : decode cX12_kindOf 21 = .ok (.aload_n 0, 1) := by decide +kernel
theorem dX12_kindOf_22 : decode cX12_kindOf 22 = .ok (.aload_n 0, 1) := by decide +kernel
theorem dX12_kindOf_23 : decode cX12_kindOf 23 = .ok (.iload_n 1, 1) := by decide +kernel
theorem dX12_kindOf_24 : decode cX12_kindOf 24 = .ok (.iload_n 2, 1) := by decide +kernel
theorem dX12_kindOf_25 : decode cX12_kindOf 25 = .ok (.invokevirtual 244, 3) := by decide +kernel
theorem dX12_kindOf_28 : decode cX12_kindOf 28 = .ok (.invokevirtual 280, 3) := by decide +kernel
theorem dX12_kindOf_31 : decode cX12_kindOf 31 = .ok (.goto 4, 3) := by decide +kernel
theorem dX12_kindOf_34 : decode cX12_kindOf 34 = .ok (.iconst 0, 1) := by decide +kernel
theorem dX12_kindOf_35 : decode cX12_kindOf 35 = .ok (.ireturn, 1) := by decide +kernel
theorem dX12_parentOf_0 : decode cX12_parentOf 0 = .ok (.aload_n 0, 1) := by decide +kernel
theorem dX12_parentOf_1 : decode cX12_parentOf 1 = .ok (.iload_n 1, 1) := by decide +kernel
theorem dX12_parentOf_2 : decode cX12_parentOf 2 = .ok (.invokevirtual 439, 3) := by decide +kernel
theorem dX12_parentOf_5 : decode cX12_parentOf 5 = .ok (.ifCond .ne 5, 3) := by decide +kernel
theorem dX12_parentOf_8 : decode cX12_parentOf 8 = .ok (.iconst 0, 1) := by decide +kernel
theorem dX12_parentOf_9 : decode cX12_parentOf 9 = .ok (.ireturn, 1) := by decide +kernel
theorem dX12_parentOf_10 : decode cX12_parentOf 10 = .ok (.aload_n 0, 1) := by decide +kernel
theorem dX12_parentOf_11 : decode cX12_parentOf 11 = .ok (.iload_n 1, 1) := by decide +kernel
theorem dX12_parentOf_12 : decode cX12_parentOf 12 = .ok (.invokevirtual 298, 3) := by decide +kernel
theorem dX12_parentOf_15 : decode cX12_parentOf 15 = .ok (.iconst (-1), 1) := by decide +kernel
theorem dX12_parentOf_16 : decode cX12_parentOf 16 = .ok (.if_icmp .ne 7, 3) := by decide +kernel
theorem dX12_parentOf_19 : decode cX12_parentOf 19 = .ok (.iconst (-1), 1) := by decide +kernel
theorem dX12_parentOf_20 : decode cX12_parentOf 20 = .ok (.goto 25, 3) := by decide +kernel
theorem dX12_parentOf_23 : decode cX12_parentOf 23 = .ok (.bipush 10, 2) := by decide +kernel
theorem dX12_parentOf_25 : decode cX12_parentOf 25 = .ok (.aload_n 0, 1) := by decide +kernel
theorem dX12_parentOf_26 : decode cX12_parentOf 26 = .ok (.iload_n 1, 1) := by decide +kernel
theorem dX12_parentOf_27 : decode cX12_parentOf 27 = .ok (.invokevirtual 298, 3) := by decide +kernel
theorem dX12_parentOf_30 : decode cX12_parentOf 30 = .ok (.imul, 1) := by decide +kernel
theorem dX12_parentOf_31 : decode cX12_parentOf 31 = .ok (.aload_n 0, 1) := by decide +kernel
theorem dX12_parentOf_32 : decode cX12_parentOf 32 = .ok (.iload_n 1, 1) := by decide +kernel
theorem dX12_parentOf_33 : decode cX12_parentOf 33 = .ok (.invokevirtual 369, 3) := by decide +kernel
theorem dX12_parentOf_36 : decode cX12_parentOf 36 = .ok (.ifCond .eq 7, 3) := by decide +kernel
theorem dX12_parentOf_39 : decode cX12_parentOf 39 = .ok (.iconst 1, 1) := by decide +kernel
theorem dX12_parentOf_40 : decode cX12_parentOf 40 = .ok (.goto 4, 3) := by decide +kernel
theorem dX12_parentOf_43 : decode cX12_parentOf 43 = .ok (.iconst 0, 1) := by decide +kernel
theorem dX12_parentOf_44 : decode cX12_parentOf 44 = .ok (.iadd, 1) := by decide +kernel
theorem dX12_parentOf_45 : decode cX12_parentOf 45 = .ok (.ireturn, 1) := by decide +kernel
theorem dX12_asksDifference_0 : decode cX12_asksDifference 0 = .ok (.aload_n 0, 1) := by decide +kernel
theorem dX12_asksDifference_1 : decode cX12_asksDifference 1 = .ok (.aload_n 0, 1) := by decide +kernel
theorem dX12_asksDifference_2 : decode cX12_asksDifference 2 = .ok (.iload_n 1, 1) := by decide +kernel
theorem dX12_asksDifference_3 : decode cX12_asksDifference 3 = .ok (.iload_n 2, 1) := by decide +kernel
theorem dX12_asksDifference_4 : decode cX12_asksDifference 4 = .ok (.invokevirtual 402, 3) := by decide +kernel
theorem dX12_asksDifference_7 : decode cX12_asksDifference 7 = .ok (.ifCond .eq 29, 3) := by decide +kernel
theorem dX12_asksDifference_10 : decode cX12_asksDifference 10 = .ok (.aload_n 0, 1) := by decide +kernel
theorem dX12_asksDifference_11 : decode cX12_asksDifference 11 = .ok (.iload_n 1, 1) := by decide +kernel
theorem dX12_asksDifference_12 : decode cX12_asksDifference 12 = .ok (.iload_n 3, 1) := by decide +kernel
theorem dX12_asksDifference_13 : decode cX12_asksDifference 13 = .ok (.invokevirtual 402, 3) := by decide +kernel
theorem dX12_asksDifference_16 : decode cX12_asksDifference 16 = .ok (.ifCond .eq 20, 3) := by decide +kernel
theorem dX12_asksDifference_19 : decode cX12_asksDifference 19 = .ok (.iload 4, 2) := by decide +kernel
theorem dX12_asksDifference_21 : decode cX12_asksDifference 21 = .ok (.invokestatic 405, 3) := by decide +kernel
theorem dX12_asksDifference_24 : decode cX12_asksDifference 24 = .ok (.ifCond .eq 12, 3) := by decide +kernel
theorem dX12_asksDifference_27 : decode cX12_asksDifference 27 = .ok (.iload 5, 2) := by decide +kernel
theorem dX12_asksDifference_29 : decode cX12_asksDifference 29 = .ok (.ifCond .lt 7, 3) := by decide +kernel
theorem dX12_asksDifference_32 : decode cX12_asksDifference 32 = .ok (.iconst 0, 1) := by decide +kernel
theorem dX12_asksDifference_33 : decode cX12_asksDifference 33 = .ok (.goto 4, 3) := by decide +kernel
theorem dX12_asksDifference_36 : decode cX12_asksDifference 36 = .ok (.iconst 1, 1) := by decide +kernel
theorem dX12_asksDifference_37 : decode cX12_asksDifference 37 = .ok (.invokevirtual 399, 3) := by decide +kernel
theorem dX12_asksDifference_40 : decode cX12_asksDifference 40 = .ok (.ifCond .ne 5, 3) := by decide +kernel
theorem dX12_asksDifference_43 : decode cX12_asksDifference 43 = .ok (.iconst 0, 1) := by decide +kernel
theorem dX12_asksDifference_44 : decode cX12_asksDifference 44 = .ok (.ireturn, 1) := by decide +kernel
theorem dX12_asksDifference_45 : decode cX12_asksDifference 45 = .ok (.aload_n 0, 1) := by decide +kernel
theorem dX12_asksDifference_46 : decode cX12_asksDifference 46 = .ok (.iload 6, 2) := by decide +kernel
theorem dX12_asksDifference_48 : decode cX12_asksDifference 48 = .ok (.putfield 203, 3) := by decide +kernel
theorem dX12_asksDifference_51 : decode cX12_asksDifference 51 = .ok (.aload_n 0, 1) := by decide +kernel
theorem dX12_asksDifference_52 : decode cX12_asksDifference 52 = .ok (.aload_n 0, 1) := by decide +kernel
theorem dX12_asksDifference_53 : decode cX12_asksDifference 53 = .ok (.iload_n 1, 1) := by decide +kernel
theorem dX12_asksDifference_54 : decode cX12_asksDifference 54 = .ok (.iload_n 2, 1) := by decide +kernel
theorem dX12_asksDifference_55 : decode cX12_asksDifference 55 = .ok (.invokevirtual 244, 3) := by decide +kernel
theorem dX12_asksDifference_58 : decode cX12_asksDifference 58 = .ok (.aload_n 0, 1) := by decide +kernel
theorem dX12_asksDifference_59 : decode cX12_asksDifference 59 = .ok (.iload_n 1, 1) := by decide +kernel
theorem dX12_asksDifference_60 : decode cX12_asksDifference 60 = .ok (.iload_n 3, 1) := by decide +kernel
theorem dX12_asksDifference_61 : decode cX12_asksDifference 61 = .ok (.invokevirtual 244, 3) := by decide +kernel
theorem dX12_asksDifference_64 : decode cX12_asksDifference 64 = .ok (.iload 4, 2) := by decide +kernel
theorem dX12_asksDifference_66 : decode cX12_asksDifference 66 = .ok (.invokevirtual 442, 3) := by decide +kernel
theorem dX12_asksDifference_69 : decode cX12_asksDifference 69 = .ok (.aload_n 0, 1) := by decide +kernel
theorem dX12_asksDifference_70 : decode cX12_asksDifference 70 = .ok (.iconst 0, 1) := by decide +kernel
theorem dX12_asksDifference_71 : decode cX12_asksDifference 71 = .ok (.putfield 203, 3) := by decide +kernel
theorem dX12_asksDifference_74 : decode cX12_asksDifference 74 = .ok (.iconst 1, 1) := by decide +kernel
theorem dX12_asksDifference_75 : decode cX12_asksDifference 75 = .ok (.ireturn, 1) := by decide +kernel
theorem dX12_hunks_0 : decode cX12_hunks 0 = .ok (.aload_n 0, 1) := by decide +kernel
theorem dX12_hunks_1 : decode cX12_hunks 1 = .ok (.iload_n 1, 1) := by decide +kernel
theorem dX12_hunks_2 : decode cX12_hunks 2 = .ok (.iload_n 2, 1) := by decide +kernel
theorem dX12_hunks_3 : decode cX12_hunks 3 = .ok (.iload_n 3, 1) := by decide +kernel
theorem dX12_hunks_4 : decode cX12_hunks 4 = .ok (.iload 4, 2) := by decide +kernel
theorem dX12_hunks_6 : decode cX12_hunks 6 = .ok (.iconst 0, 1) := by decide +kernel
theorem dX12_hunks_7 : decode cX12_hunks 7 = .ok (.iload 5, 2) := by decide +kernel
theorem dX12_hunks_9 : decode cX12_hunks 9 = .ok (.invokevirtual 445, 3) := by decide +kernel
theorem dX12_hunks_12 : decode cX12_hunks 12 = .ok (.ifCond .eq 12, 3) := by decide +kernel
theorem dX12_hunks_15 : decode cX12_hunks 15 = .ok (.aload_n 0, 1) := by decide +kernel
theorem dX12_hunks_16 : decode cX12_hunks 16 = .ok (.getfield 180, 3) := by decide +kernel
theorem dX12_hunks_19 : decode cX12_hunks 19 = .ok (.iconst 2, 1) := by decide +kernel
theorem dX12_hunks_20 : decode cX12_hunks 20 = .ok (.iaload, 1) := by decide +kernel
theorem dX12_hunks_21 : decode cX12_hunks 21 = .ok (.goto 4, 3) := by decide +kernel
theorem dX12_hunks_24 : decode cX12_hunks 24 = .ok (.iconst 0, 1) := by decide +kernel
theorem dX12_hunks_25 : decode cX12_hunks 25 = .ok (.ireturn, 1) := by decide +kernel
theorem dX12_hunkAt_0 : decode cX12_hunkAt 0 = .ok (.aload_n 0, 1) := by decide +kernel
theorem dX12_hunkAt_1 : decode cX12_hunkAt 1 = .ok (.iload_n 1, 1) := by decide +kernel
theorem dX12_hunkAt_2 : decode cX12_hunkAt 2 = .ok (.iload_n 2, 1) := by decide +kernel
theorem dX12_hunkAt_3 : decode cX12_hunkAt 3 = .ok (.iload_n 3, 1) := by decide +kernel
theorem dX12_hunkAt_4 : decode cX12_hunkAt 4 = .ok (.iload 4, 2) := by decide +kernel
theorem dX12_hunkAt_6 : decode cX12_hunkAt 6 = .ok (.iload 6, 2) := by decide +kernel
theorem dX12_hunkAt_8 : decode cX12_hunkAt 8 = .ok (.iload 5, 2) := by decide +kernel
theorem dX12_hunkAt_10 : decode cX12_hunkAt 10 = .ok (.invokevirtual 445, 3) := by decide +kernel
theorem dX12_hunkAt_13 : decode cX12_hunkAt 13 = .ok (.ifCond .ne 5, 3) := by decide +kernel
theorem dX12_hunkAt_16 : decode cX12_hunkAt 16 = .ok (.iconst 0, 1) := by decide +kernel
theorem dX12_hunkAt_17 : decode cX12_hunkAt 17 = .ok (.ireturn, 1) := by decide +kernel
theorem dX12_hunkAt_18 : decode cX12_hunkAt 18 = .ok (.iload 6, 2) := by decide +kernel
theorem dX12_hunkAt_20 : decode cX12_hunkAt 20 = .ok (.aload_n 0, 1) := by decide +kernel
theorem dX12_hunkAt_21 : decode cX12_hunkAt 21 = .ok (.getfield 180, 3) := by decide +kernel
theorem dX12_hunkAt_24 : decode cX12_hunkAt 24 = .ok (.iconst 2, 1) := by decide +kernel
theorem dX12_hunkAt_25 : decode cX12_hunkAt 25 = .ok (.iaload, 1) := by decide +kernel
theorem dX12_hunkAt_26 : decode cX12_hunkAt 26 = .ok (.if_icmp .lt 5, 3) := by decide +kernel
theorem dX12_hunkAt_29 : decode cX12_hunkAt 29 = .ok (.iconst (-1), 1) := by decide +kernel
theorem dX12_hunkAt_30 : decode cX12_hunkAt 30 = .ok (.ireturn, 1) := by decide +kernel
theorem dX12_hunkAt_31 : decode cX12_hunkAt 31 = .ok (.bipush 30, 2) := by decide +kernel
theorem dX12_hunkAt_33 : decode cX12_hunkAt 33 = .ok (.iload 6, 2) := by decide +kernel
theorem dX12_hunkAt_35 : decode cX12_hunkAt 35 = .ok (.iadd, 1) := by decide +kernel
theorem dX12_hunkAt_36 : decode cX12_hunkAt 36 = .ok (.istore 7, 2) := by decide +kernel
theorem dX12_hunkAt_38 : decode cX12_hunkAt 38 = .ok (.ldc_w 449, 3) := by decide +kernel
theorem dX12_hunkAt_41 : decode cX12_hunkAt 41 = .ok (.aload_n 0, 1) := by decide +kernel
theorem dX12_hunkAt_42 : decode cX12_hunkAt 42 = .ok (.getfield 162, 3) := by decide +kernel
theorem dX12_hunkAt_45 : decode cX12_hunkAt 45 = .ok (.iload 7, 2) := by decide +kernel
theorem dX12_hunkAt_47 : decode cX12_hunkAt 47 = .ok (.iaload, 1) := by decide +kernel
theorem dX12_hunkAt_48 : decode cX12_hunkAt 48 = .ok (.imul, 1) := by decide +kernel
theorem dX12_hunkAt_49 : decode cX12_hunkAt 49 = .ok (.sipush 10000, 3) := by decide +kernel
theorem dX12_hunkAt_52 : decode cX12_hunkAt 52 = .ok (.aload_n 0, 1) := by decide +kernel
theorem dX12_hunkAt_53 : decode cX12_hunkAt 53 = .ok (.getfield 168, 3) := by decide +kernel
theorem dX12_hunkAt_56 : decode cX12_hunkAt 56 = .ok (.iload 7, 2) := by decide +kernel
theorem dX12_hunkAt_58 : decode cX12_hunkAt 58 = .ok (.iaload, 1) := by decide +kernel
theorem dX12_hunkAt_59 : decode cX12_hunkAt 59 = .ok (.imul, 1) := by decide +kernel
theorem dX12_hunkAt_60 : decode cX12_hunkAt 60 = .ok (.iadd, 1) := by decide +kernel
theorem dX12_hunkAt_61 : decode cX12_hunkAt 61 = .ok (.bipush 100, 2) := by decide +kernel
theorem dX12_hunkAt_63 : decode cX12_hunkAt 63 = .ok (.aload_n 0, 1) := by decide +kernel
theorem dX12_hunkAt_64 : decode cX12_hunkAt 64 = .ok (.getfield 165, 3) := by decide +kernel
theorem dX12_hunkAt_67 : decode cX12_hunkAt 67 = .ok (.iload 7, 2) := by decide +kernel
theorem dX12_hunkAt_69 : decode cX12_hunkAt 69 = .ok (.iaload, 1) := by decide +kernel
theorem dX12_hunkAt_70 : decode cX12_hunkAt 70 = .ok (.imul, 1) := by decide +kernel
theorem dX12_hunkAt_71 : decode cX12_hunkAt 71 = .ok (.iadd, 1) := by decide +kernel
theorem dX12_hunkAt_72 : decode cX12_hunkAt 72 = .ok (.aload_n 0, 1) := by decide +kernel
theorem dX12_hunkAt_73 : decode cX12_hunkAt 73 = .ok (.getfield 171, 3) := by decide +kernel
theorem dX12_hunkAt_76 : decode cX12_hunkAt 76 = .ok (.iload 7, 2) := by decide +kernel
theorem dX12_hunkAt_78 : decode cX12_hunkAt 78 = .ok (.iaload, 1) := by decide +kernel
theorem dX12_hunkAt_79 : decode cX12_hunkAt 79 = .ok (.iadd, 1) := by decide +kernel
theorem dX12_hunkAt_80 : decode cX12_hunkAt 80 = .ok (.ireturn, 1) := by decide +kernel
theorem dX12_drafts_0 : decode cX12_drafts 0 = .ok (.aload_n 0, 1) := by decide +kernel
theorem dX12_drafts_1 : decode cX12_drafts 1 = .ok (.getfield 81, 3) := by decide +kernel
theorem dX12_drafts_4 : decode cX12_drafts 4 = .ok (.aload_n 0, 1) := by decide +kernel
theorem dX12_drafts_5 : decode cX12_drafts 5 = .ok (.getfield 251, 3) := by decide +kernel
theorem dX12_drafts_8 : decode cX12_drafts 8 = .ok (.iload_n 1, 1) := by decide +kernel
theorem dX12_drafts_9 : decode cX12_drafts 9 = .ok (.iastore, 1) := by decide +kernel
theorem dX12_drafts_10 : decode cX12_drafts 10 = .ok (.aload_n 0, 1) := by decide +kernel
theorem dX12_drafts_11 : decode cX12_drafts 11 = .ok (.getfield 99, 3) := by decide +kernel
theorem dX12_drafts_14 : decode cX12_drafts 14 = .ok (.aload_n 0, 1) := by decide +kernel
theorem dX12_drafts_15 : decode cX12_drafts 15 = .ok (.getfield 251, 3) := by decide +kernel
theorem dX12_drafts_18 : decode cX12_drafts 18 = .ok (.iload_n 2, 1) := by decide +kernel
theorem dX12_drafts_19 : decode cX12_drafts 19 = .ok (.iastore, 1) := by decide +kernel
theorem dX12_drafts_20 : decode cX12_drafts 20 = .ok (.aload_n 0, 1) := by decide +kernel
theorem dX12_drafts_21 : decode cX12_drafts 21 = .ok (.getfield 102, 3) := by decide +kernel
theorem dX12_drafts_24 : decode cX12_drafts 24 = .ok (.aload_n 0, 1) := by decide +kernel
theorem dX12_drafts_25 : decode cX12_drafts 25 = .ok (.getfield 251, 3) := by decide +kernel
theorem dX12_drafts_28 : decode cX12_drafts 28 = .ok (.iconst 1, 1) := by decide +kernel
theorem dX12_drafts_29 : decode cX12_drafts 29 = .ok (.bastore, 1) := by decide +kernel
theorem dX12_drafts_30 : decode cX12_drafts 30 = .ok (.aload_n 0, 1) := by decide +kernel
theorem dX12_drafts_31 : decode cX12_drafts 31 = .ok (.getfield 105, 3) := by decide +kernel
theorem dX12_drafts_34 : decode cX12_drafts 34 = .ok (.aload_n 0, 1) := by decide +kernel
theorem dX12_drafts_35 : decode cX12_drafts 35 = .ok (.getfield 251, 3) := by decide +kernel
theorem dX12_drafts_38 : decode cX12_drafts 38 = .ok (.iload_n 3, 1) := by decide +kernel
theorem dX12_drafts_39 : decode cX12_drafts 39 = .ok (.bastore, 1) := by decide +kernel
theorem dX12_drafts_40 : decode cX12_drafts 40 = .ok (.aload_n 0, 1) := by decide +kernel
theorem dX12_drafts_41 : decode cX12_drafts 41 = .ok (.dup, 1) := by decide +kernel
theorem dX12_drafts_42 : decode cX12_drafts 42 = .ok (.getfield 251, 3) := by decide +kernel
theorem dX12_drafts_45 : decode cX12_drafts 45 = .ok (.iconst 1, 1) := by decide +kernel
theorem dX12_drafts_46 : decode cX12_drafts 46 = .ok (.iadd, 1) := by decide +kernel
theorem dX12_drafts_47 : decode cX12_drafts 47 = .ok (.putfield 251, 3) := by decide +kernel
theorem dX12_drafts_50 : decode cX12_drafts 50 = .ok (.aload_n 0, 1) := by decide +kernel
theorem dX12_drafts_51 : decode cX12_drafts 51 = .ok (.getfield 251, 3) := by decide +kernel
theorem dX12_drafts_54 : decode cX12_drafts 54 = .ok (.iconst 1, 1) := by decide +kernel
theorem dX12_drafts_55 : decode cX12_drafts 55 = .ok (.isub, 1) := by decide +kernel
theorem dX12_drafts_56 : decode cX12_drafts 56 = .ok (.ireturn, 1) := by decide +kernel
theorem dX12_lays_0 : decode cX12_lays 0 = .ok (.aload_n 0, 1) := by decide +kernel
theorem dX12_lays_1 : decode cX12_lays 1 = .ok (.getfield 84, 3) := by decide +kernel
theorem dX12_lays_4 : decode cX12_lays 4 = .ok (.aload_n 0, 1) := by decide +kernel
theorem dX12_lays_5 : decode cX12_lays 5 = .ok (.getfield 251, 3) := by decide +kernel
theorem dX12_lays_8 : decode cX12_lays 8 = .ok (.iload_n 1, 1) := by decide +kernel
theorem dX12_lays_9 : decode cX12_lays 9 = .ok (.iastore, 1) := by decide +kernel
theorem dX12_lays_10 : decode cX12_lays 10 = .ok (.aload_n 0, 1) := by decide +kernel
theorem dX12_lays_11 : decode cX12_lays 11 = .ok (.getfield 87, 3) := by decide +kernel
theorem dX12_lays_14 : decode cX12_lays 14 = .ok (.aload_n 0, 1) := by decide +kernel
theorem dX12_lays_15 : decode cX12_lays 15 = .ok (.getfield 251, 3) := by decide +kernel
theorem dX12_lays_18 : decode cX12_lays 18 = .ok (.iload_n 2, 1) := by decide +kernel
theorem dX12_lays_19 : decode cX12_lays 19 = .ok (.iastore, 1) := by decide +kernel
theorem dX12_lays_20 : decode cX12_lays 20 = .ok (.aload_n 0, 1) := by decide +kernel
theorem dX12_lays_21 : decode cX12_lays 21 = .ok (.getfield 90, 3) := by decide +kernel
theorem dX12_lays_24 : decode cX12_lays 24 = .ok (.aload_n 0, 1) := by decide +kernel
theorem dX12_lays_25 : decode cX12_lays 25 = .ok (.getfield 251, 3) := by decide +kernel
theorem dX12_lays_28 : decode cX12_lays 28 = .ok (.iload_n 3, 1) := by decide +kernel
theorem dX12_lays_29 : decode cX12_lays 29 = .ok (.iastore, 1) := by decide +kernel
theorem dX12_lays_30 : decode cX12_lays 30 = .ok (.aload_n 0, 1) := by decide +kernel
theorem dX12_lays_31 : decode cX12_lays 31 = .ok (.getfield 93, 3) := by decide +kernel
theorem dX12_lays_34 : decode cX12_lays 34 = .ok (.aload_n 0, 1) := by decide +kernel
theorem dX12_lays_35 : decode cX12_lays 35 = .ok (.getfield 251, 3) := by decide +kernel
theorem dX12_lays_38 : decode cX12_lays 38 = .ok (.iload 4, 2) := by decide +kernel
theorem dX12_lays_40 : decode cX12_lays 40 = .ok (.iastore, 1) := by decide +kernel
theorem dX12_lays_41 : decode cX12_lays 41 = .ok (.aload_n 0, 1) := by decide +kernel
theorem dX12_lays_42 : decode cX12_lays 42 = .ok (.getfield 96, 3) := by decide +kernel
theorem dX12_lays_45 : decode cX12_lays 45 = .ok (.aload_n 0, 1) := by decide +kernel
theorem dX12_lays_46 : decode cX12_lays 46 = .ok (.getfield 251, 3) := by decide +kernel
theorem dX12_lays_49 : decode cX12_lays 49 = .ok (.iload 5, 2) := by decide +kernel
theorem dX12_lays_51 : decode cX12_lays 51 = .ok (.iastore, 1) := by decide +kernel
theorem dX12_lays_52 : decode cX12_lays 52 = .ok (.return_, 1) := by decide +kernel
theorem dX12_areLines_0 : decode cX12_areLines 0 = .ok (.aload_n 0, 1) := by decide +kernel
theorem dX12_areLines_1 : decode cX12_areLines 1 = .ok (.iload_n 1, 1) := by decide +kernel
theorem dX12_areLines_2 : decode cX12_areLines 2 = .ok (.iload_n 2, 1) := by decide +kernel
theorem dX12_areLines_3 : decode cX12_areLines 3 = .ok (.invokevirtual 207, 3) := by decide +kernel
theorem dX12_areLines_6 : decode cX12_areLines 6 = .ok (.istore 6, 2) := by decide +kernel
theorem dX12_areLines_8 : decode cX12_areLines 8 = .ok (.iload_n 3, 1) := by decide +kernel
theorem dX12_areLines_9 : decode cX12_areLines 9 = .ok (.iconst 0, 1) := by decide +kernel
theorem dX12_areLines_10 : decode cX12_areLines 10 = .ok (.iload 6, 2) := by decide +kernel
theorem dX12_areLines_12 : decode cX12_areLines 12 = .ok (.invokestatic 192, 3) := by decide +kernel
theorem dX12_areLines_15 : decode cX12_areLines 15 = .ok (.ifCond .eq 21, 3) := by decide +kernel
theorem dX12_areLines_18 : decode cX12_areLines 18 = .ok (.iload 5, 2) := by decide +kernel
theorem dX12_areLines_20 : decode cX12_areLines 20 = .ok (.iload 4, 2) := by decide +kernel
theorem dX12_areLines_22 : decode cX12_areLines 22 = .ok (.iload 6, 2) := by decide +kernel
theorem dX12_areLines_24 : decode cX12_areLines 24 = .ok (.iload_n 3, 1) := by decide +kernel
theorem dX12_areLines_25 : decode cX12_areLines 25 = .ok (.isub, 1) := by decide +kernel
theorem dX12_areLines_26 : decode cX12_areLines 26 = .ok (.invokestatic 192, 3) := by decide +kernel
theorem dX12_areLines_29 : decode cX12_areLines 29 = .ok (.ifCond .eq 7, 3) := by decide +kernel
theorem dX12_areLines_32 : decode cX12_areLines 32 = .ok (.iconst 1, 1) := by decide +kernel
theorem dX12_areLines_33 : decode cX12_areLines 33 = .ok (.goto 4, 3) := by decide +kernel
theorem dX12_areLines_36 : decode cX12_areLines 36 = .ok (.iconst 0, 1) := by decide +kernel
theorem dX12_areLines_37 : decode cX12_areLines 37 = .ok (.ireturn, 1) := by decide +kernel
theorem dX12_comment_0 : decode cX12_comment 0 = .ok (.aload_n 0, 1) := by decide +kernel
theorem dX12_comment_1 : decode cX12_comment 1 = .ok (.iload_n 1, 1) := by decide +kernel
theorem dX12_comment_2 : decode cX12_comment 2 = .ok (.invokestatic 415, 3) := by decide +kernel
theorem dX12_comment_5 : decode cX12_comment 5 = .ok (.ifCond .eq 24, 3) := by decide +kernel
theorem dX12_comment_8 : decode cX12_comment 8 = .ok (.aload_n 0, 1) := by decide +kernel
theorem dX12_comment_9 : decode cX12_comment 9 = .ok (.iload_n 2, 1) := by decide +kernel
theorem dX12_comment_10 : decode cX12_comment 10 = .ok (.iload_n 3, 1) := by decide +kernel
theorem dX12_comment_11 : decode cX12_comment 11 = .ok (.invokevirtual 402, 3) := by decide +kernel
theorem dX12_comment_14 : decode cX12_comment 14 = .ok (.ifCond .eq 15, 3) := by decide +kernel
theorem dX12_comment_17 : decode cX12_comment 17 = .ok (.iload 4, 2) := by decide +kernel
theorem dX12_comment_19 : decode cX12_comment 19 = .ok (.invokestatic 405, 3) := by decide +kernel
theorem dX12_comment_22 : decode cX12_comment 22 = .ok (.ifCond .eq 7, 3) := by decide +kernel
theorem dX12_comment_25 : decode cX12_comment 25 = .ok (.iconst 0, 1) := by decide +kernel
theorem dX12_comment_26 : decode cX12_comment 26 = .ok (.goto 4, 3) := by decide +kernel
theorem dX12_comment_29 : decode cX12_comment 29 = .ok (.iconst 1, 1) := by decide +kernel
theorem dX12_comment_30 : decode cX12_comment 30 = .ok (.invokevirtual 399, 3) := by decide +kernel
theorem dX12_comment_33 : decode cX12_comment 33 = .ok (.ifCond .ne 5, 3) := by decide +kernel
theorem dX12_comment_36 : decode cX12_comment 36 = .ok (.iconst 0, 1) := by decide +kernel
theorem dX12_comment_37 : decode cX12_comment 37 = .ok (.ireturn, 1) := by decide +kernel
theorem dX12_comment_38 : decode cX12_comment 38 = .ok (.aload_n 0, 1) := by decide +kernel
theorem dX12_comment_39 : decode cX12_comment 39 = .ok (.aload_n 0, 1) := by decide +kernel
theorem dX12_comment_40 : decode cX12_comment 40 = .ok (.iload_n 2, 1) := by decide +kernel
theorem dX12_comment_41 : decode cX12_comment 41 = .ok (.iload_n 3, 1) := by decide +kernel
theorem dX12_comment_42 : decode cX12_comment 42 = .ok (.invokevirtual 244, 3) := by decide +kernel
theorem dX12_comment_45 : decode cX12_comment 45 = .ok (.iload 4, 2) := by decide +kernel
theorem dX12_comment_47 : decode cX12_comment 47 = .ok (.iload 5, 2) := by decide +kernel
theorem dX12_comment_49 : decode cX12_comment 49 = .ok (.iconst 1, 1) := by decide +kernel
theorem dX12_comment_50 : decode cX12_comment 50 = .ok (.iload 6, 2) := by decide +kernel
theorem dX12_comment_52 : decode cX12_comment 52 = .ok (.invokevirtual 450, 3) := by decide +kernel
theorem dX12_comment_55 : decode cX12_comment 55 = .ok (.istore 8, 2) := by decide +kernel
theorem dX12_comment_57 : decode cX12_comment 57 = .ok (.aload_n 0, 1) := by decide +kernel
theorem dX12_comment_58 : decode cX12_comment 58 = .ok (.iload 8, 2) := by decide +kernel
theorem dX12_comment_60 : decode cX12_comment 60 = .ok (.ifCond .ne 7, 3) := by decide +kernel
theorem dX12_comment_63 : decode cX12_comment 63 = .ok (.iconst 2, 1) := by decide +kernel
theorem dX12_comment_64 : decode cX12_comment 64 = .ok (.goto 26, 3) := by decide +kernel
theorem dX12_comment_67 : decode cX12_comment 67 = .ok (.aload_n 0, 1) := by decide +kernel
theorem dX12_comment_68 : decode cX12_comment 68 = .ok (.iload_n 1, 1) := by decide +kernel
theorem dX12_comment_69 : decode cX12_comment 69 = .ok (.iload_n 2, 1) := by decide +kernel
theorem dX12_comment_70 : decode cX12_comment 70 = .ok (.invokevirtual 421, 3) := by decide +kernel
theorem dX12_comment_73 : decode cX12_comment 73 = .ok (.ifCond .eq 12, 3) := by decide +kernel
theorem dX12_comment_76 : decode cX12_comment 76 = .ok (.aload_n 0, 1) := by decide +kernel
theorem dX12_comment_77 : decode cX12_comment 77 = .ok (.getfield 251, 3) := by decide +kernel
theorem dX12_comment_80 : decode cX12_comment 80 = .ok (.bipush 60, 2) := by decide +kernel
theorem dX12_comment_82 : decode cX12_comment 82 = .ok (.if_icmp .ne 7, 3) := by decide +kernel
theorem dX12_comment_85 : decode cX12_comment 85 = .ok (.iconst 3, 1) := by decide +kernel
theorem dX12_comment_86 : decode cX12_comment 86 = .ok (.goto 4, 3) := by decide +kernel
theorem dX12_comment_89 : decode cX12_comment 89 = .ok (.iconst 0, 1) := by decide +kernel
theorem dX12_comment_90 : decode cX12_comment 90 = .ok (.invokevirtual 399, 3) := by decide +kernel
theorem dX12_comment_93 : decode cX12_comment 93 = .ok (.ifCond .ne 5, 3) := by decide +kernel
theorem dX12_comment_96 : decode cX12_comment 96 = .ok (.iconst 0, 1) := by decide +kernel
theorem dX12_comment_97 : decode cX12_comment 97 = .ok (.ireturn, 1) := by decide +kernel
theorem dX12_comment_98 : decode cX12_comment 98 = .ok (.aload_n 0, 1) := by decide +kernel
theorem dX12_comment_99 : decode cX12_comment 99 = .ok (.iload_n 2, 1) := by decide +kernel
theorem dX12_comment_100 : decode cX12_comment 100 = .ok (.iload_n 3, 1) := by decide +kernel
theorem dX12_comment_101 : decode cX12_comment 101 = .ok (.iload 4, 2) := by decide +kernel
theorem dX12_comment_103 : decode cX12_comment 103 = .ok (.iload 5, 2) := by decide +kernel
theorem dX12_comment_105 : decode cX12_comment 105 = .ok (.iload 6, 2) := by decide +kernel
theorem dX12_comment_107 : decode cX12_comment 107 = .ok (.invokevirtual 454, 3) := by decide +kernel
theorem dX12_comment_110 : decode cX12_comment 110 = .ok (.aload_n 0, 1) := by decide +kernel
theorem dX12_comment_111 : decode cX12_comment 111 = .ok (.iload_n 1, 1) := by decide +kernel
theorem dX12_comment_112 : decode cX12_comment 112 = .ok (.iconst (-1), 1) := by decide +kernel
theorem dX12_comment_113 : decode cX12_comment 113 = .ok (.iload 7, 2) := by decide +kernel
theorem dX12_comment_115 : decode cX12_comment 115 = .ok (.invokevirtual 458, 3) := by decide +kernel
theorem dX12_comment_118 : decode cX12_comment 118 = .ok (.ireturn, 1) := by decide +kernel
theorem dX12_isComment_0 : decode cX12_isComment 0 = .ok (.iload_n 1, 1) := by decide +kernel
theorem dX12_isComment_1 : decode cX12_isComment 1 = .ok (.iconst 0, 1) := by decide +kernel
theorem dX12_isComment_2 : decode cX12_isComment 2 = .ok (.aload_n 0, 1) := by decide +kernel
theorem dX12_isComment_3 : decode cX12_isComment 3 = .ok (.getfield 251, 3) := by decide +kernel
theorem dX12_isComment_6 : decode cX12_isComment 6 = .ok (.iconst 1, 1) := by decide +kernel
theorem dX12_isComment_7 : decode cX12_isComment 7 = .ok (.isub, 1) := by decide +kernel
theorem dX12_isComment_8 : decode cX12_isComment 8 = .ok (.invokestatic 192, 3) := by decide +kernel
theorem dX12_isComment_11 : decode cX12_isComment 11 = .ok (.ireturn, 1) := by decide +kernel
theorem dX12_answer_0 : decode cX12_answer 0 = .ok (.aload_n 0, 1) := by decide +kernel
theorem dX12_answer_1 : decode cX12_answer 1 = .ok (.iload_n 1, 1) := by decide +kernel
theorem dX12_answer_2 : decode cX12_answer 2 = .ok (.invokestatic 415, 3) := by decide +kernel
theorem dX12_answer_5 : decode cX12_answer 5 = .ok (.ifCond .eq 15, 3) := by decide +kernel
theorem dX12_answer_8 : decode cX12_answer 8 = .ok (.aload_n 0, 1) := by decide +kernel
theorem dX12_answer_9 : decode cX12_answer 9 = .ok (.iload_n 2, 1) := by decide +kernel
theorem dX12_answer_10 : decode cX12_answer 10 = .ok (.invokevirtual 462, 3) := by decide +kernel
theorem dX12_answer_13 : decode cX12_answer 13 = .ok (.ifCond .eq 7, 3) := by decide +kernel
theorem dX12_answer_16 : decode cX12_answer 16 = .ok (.iconst 0, 1) := by decide +kernel
theorem dX12_answer_17 : decode cX12_answer 17 = .ok (.goto 4, 3) := by decide +kernel
theorem dX12_answer_20 : decode cX12_answer 20 = .ok (.iconst 1, 1) := by decide +kernel
theorem dX12_answer_21 : decode cX12_answer 21 = .ok (.invokevirtual 399, 3) := by decide +kernel
theorem dX12_answer_24 : decode cX12_answer 24 = .ok (.ifCond .ne 5, 3) := by decide +kernel
theorem dX12_answer_27 : decode cX12_answer 27 = .ok (.iconst 0, 1) := by decide +kernel
theorem dX12_answer_28 : decode cX12_answer 28 = .ok (.ireturn, 1) := by decide +kernel
theorem dX12_answer_29 : decode cX12_answer 29 = .ok (.aload_n 0, 1) := by decide +kernel
theorem dX12_answer_30 : decode cX12_answer 30 = .ok (.getfield 102, 3) := by decide +kernel
theorem dX12_answer_33 : decode cX12_answer 33 = .ok (.iload_n 2, 1) := by decide +kernel
theorem dX12_answer_34 : decode cX12_answer 34 = .ok (.baload, 1) := by decide +kernel
theorem dX12_answer_35 : decode cX12_answer 35 = .ok (.ifCond .ne 27, 3) := by decide +kernel
theorem dX12_answer_38 : decode cX12_answer 38 = .ok (.aload_n 0, 1) := by decide +kernel
theorem dX12_answer_39 : decode cX12_answer 39 = .ok (.getfield 99, 3) := by decide +kernel
theorem dX12_answer_42 : decode cX12_answer 42 = .ok (.iload_n 2, 1) := by decide +kernel
theorem dX12_answer_43 : decode cX12_answer 43 = .ok (.iaload, 1) := by decide +kernel
theorem dX12_answer_44 : decode cX12_answer 44 = .ok (.iconst (-1), 1) := by decide +kernel
theorem dX12_answer_45 : decode cX12_answer 45 = .ok (.if_icmp .ne 17, 3) := by decide +kernel
theorem dX12_answer_48 : decode cX12_answer 48 = .ok (.aload_n 0, 1) := by decide +kernel
theorem dX12_answer_49 : decode cX12_answer 49 = .ok (.iload_n 1, 1) := by decide +kernel
theorem dX12_answer_50 : decode cX12_answer 50 = .ok (.aload_n 0, 1) := by decide +kernel
theorem dX12_answer_51 : decode cX12_answer 51 = .ok (.getfield 84, 3) := by decide +kernel
theorem dX12_answer_54 : decode cX12_answer 54 = .ok (.iload_n 2, 1) := by decide +kernel
theorem dX12_answer_55 : decode cX12_answer 55 = .ok (.iaload, 1) := by decide +kernel
theorem dX12_answer_56 : decode cX12_answer 56 = .ok (.invokevirtual 421, 3) := by decide +kernel
theorem dX12_answer_59 : decode cX12_answer 59 = .ok (.ifCond .ne 7, 3) := by decide +kernel
theorem dX12_answer_62 : decode cX12_answer 62 = .ok (.iconst 1, 1) := by decide +kernel
theorem dX12_answer_63 : decode cX12_answer 63 = .ok (.goto 4, 3) := by decide +kernel
theorem dX12_answer_66 : decode cX12_answer 66 = .ok (.iconst 0, 1) := by decide +kernel
theorem dX12_answer_67 : decode cX12_answer 67 = .ok (.istore 4, 2) := by decide +kernel
theorem dX12_answer_69 : decode cX12_answer 69 = .ok (.aload_n 0, 1) := by decide +kernel
theorem dX12_answer_70 : decode cX12_answer 70 = .ok (.iload 4, 2) := by decide +kernel
theorem dX12_answer_72 : decode cX12_answer 72 = .ok (.ifCond .ne 12, 3) := by decide +kernel
theorem dX12_answer_75 : decode cX12_answer 75 = .ok (.aload_n 0, 1) := by decide +kernel
theorem dX12_answer_76 : decode cX12_answer 76 = .ok (.getfield 251, 3) := by decide +kernel
theorem dX12_answer_79 : decode cX12_answer 79 = .ok (.bipush 60, 2) := by decide +kernel
theorem dX12_answer_81 : decode cX12_answer 81 = .ok (.if_icmp .ne 7, 3) := by decide +kernel
theorem dX12_answer_84 : decode cX12_answer 84 = .ok (.iconst 2, 1) := by decide +kernel
theorem dX12_answer_85 : decode cX12_answer 85 = .ok (.goto 4, 3) := by decide +kernel
theorem dX12_answer_88 : decode cX12_answer 88 = .ok (.iconst 0, 1) := by decide +kernel
theorem dX12_answer_89 : decode cX12_answer 89 = .ok (.invokevirtual 399, 3) := by decide +kernel
theorem dX12_answer_92 : decode cX12_answer 92 = .ok (.ifCond .ne 5, 3) := by decide +kernel
theorem dX12_answer_95 : decode cX12_answer 95 = .ok (.iconst 0, 1) := by decide +kernel
theorem dX12_answer_96 : decode cX12_answer 96 = .ok (.ireturn, 1) := by decide +kernel
theorem dX12_answer_97 : decode cX12_answer 97 = .ok (.aload_n 0, 1) := by decide +kernel
theorem dX12_answer_98 : decode cX12_answer 98 = .ok (.aload_n 0, 1) := by decide +kernel
theorem dX12_answer_99 : decode cX12_answer 99 = .ok (.getfield 84, 3) := by decide +kernel
theorem dX12_answer_102 : decode cX12_answer 102 = .ok (.iload_n 2, 1) := by decide +kernel
theorem dX12_answer_103 : decode cX12_answer 103 = .ok (.iaload, 1) := by decide +kernel
theorem dX12_answer_104 : decode cX12_answer 104 = .ok (.aload_n 0, 1) := by decide +kernel
theorem dX12_answer_105 : decode cX12_answer 105 = .ok (.getfield 87, 3) := by decide +kernel
theorem dX12_answer_108 : decode cX12_answer 108 = .ok (.iload_n 2, 1) := by decide +kernel
theorem dX12_answer_109 : decode cX12_answer 109 = .ok (.iaload, 1) := by decide +kernel
theorem dX12_answer_110 : decode cX12_answer 110 = .ok (.aload_n 0, 1) := by decide +kernel
theorem dX12_answer_111 : decode cX12_answer 111 = .ok (.getfield 90, 3) := by decide +kernel
theorem dX12_answer_114 : decode cX12_answer 114 = .ok (.iload_n 2, 1) := by decide +kernel
theorem dX12_answer_115 : decode cX12_answer 115 = .ok (.iaload, 1) := by decide +kernel
theorem dX12_answer_116 : decode cX12_answer 116 = .ok (.aload_n 0, 1) := by decide +kernel
theorem dX12_answer_117 : decode cX12_answer 117 = .ok (.getfield 93, 3) := by decide +kernel
theorem dX12_answer_120 : decode cX12_answer 120 = .ok (.iload_n 2, 1) := by decide +kernel
theorem dX12_answer_121 : decode cX12_answer 121 = .ok (.iaload, 1) := by decide +kernel
theorem dX12_answer_122 : decode cX12_answer 122 = .ok (.aload_n 0, 1) := by decide +kernel
theorem dX12_answer_123 : decode cX12_answer 123 = .ok (.getfield 96, 3) := by decide +kernel
theorem dX12_answer_126 : decode cX12_answer 126 = .ok (.iload_n 2, 1) := by decide +kernel
theorem dX12_answer_127 : decode cX12_answer 127 = .ok (.iaload, 1) := by decide +kernel
theorem dX12_answer_128 : decode cX12_answer 128 = .ok (.invokevirtual 454, 3) := by decide +kernel
theorem dX12_answer_131 : decode cX12_answer 131 = .ok (.aload_n 0, 1) := by decide +kernel
theorem dX12_answer_132 : decode cX12_answer 132 = .ok (.iload_n 1, 1) := by decide +kernel
theorem dX12_answer_133 : decode cX12_answer 133 = .ok (.iload_n 2, 1) := by decide +kernel
theorem dX12_answer_134 : decode cX12_answer 134 = .ok (.iload_n 3, 1) := by decide +kernel
theorem dX12_answer_135 : decode cX12_answer 135 = .ok (.invokevirtual 458, 3) := by decide +kernel
theorem dX12_answer_138 : decode cX12_answer 138 = .ok (.ireturn, 1) := by decide +kernel
theorem dX12_draftsOf_0 : decode cX12_draftsOf 0 = .ok (.iconst 0, 1) := by decide +kernel
theorem dX12_draftsOf_1 : decode cX12_draftsOf 1 = .ok (.istore_n 3, 1) := by decide +kernel
theorem dX12_draftsOf_2 : decode cX12_draftsOf 2 = .ok (.iconst 0, 1) := by decide +kernel
theorem dX12_draftsOf_3 : decode cX12_draftsOf 3 = .ok (.istore 4, 2) := by decide +kernel
theorem dX12_draftsOf_5 : decode cX12_draftsOf 5 = .ok (.iload 4, 2) := by decide +kernel
theorem dX12_draftsOf_7 : decode cX12_draftsOf 7 = .ok (.aload_n 0, 1) := by decide +kernel
theorem dX12_draftsOf_8 : decode cX12_draftsOf 8 = .ok (.getfield 251, 3) := by decide +kernel
theorem dX12_draftsOf_11 : decode cX12_draftsOf 11 = .ok (.if_icmp .ge 49, 3) := by decide +kernel
theorem dX12_draftsOf_14 : decode cX12_draftsOf 14 = .ok (.iload_n 3, 1) := by decide +kernel
theorem dX12_draftsOf_15 : decode cX12_draftsOf 15 = .ok (.aload_n 0, 1) := by decide +kernel
theorem dX12_draftsOf_16 : decode cX12_draftsOf 16 = .ok (.getfield 84, 3) := by decide +kernel
theorem dX12_draftsOf_19 : decode cX12_draftsOf 19 = .ok (.iload 4, 2) := by decide +kernel
theorem dX12_draftsOf_21 : decode cX12_draftsOf 21 = .ok (.iaload, 1) := by decide +kernel
theorem dX12_draftsOf_22 : decode cX12_draftsOf 22 = .ok (.iload_n 2, 1) := by decide +kernel
theorem dX12_draftsOf_23 : decode cX12_draftsOf 23 = .ok (.if_icmp .ne 28, 3) := by decide +kernel
theorem dX12_draftsOf_26 : decode cX12_draftsOf 26 = .ok (.aload_n 0, 1) := by decide +kernel
theorem dX12_draftsOf_27 : decode cX12_draftsOf 27 = .ok (.getfield 81, 3) := by decide +kernel
theorem dX12_draftsOf_30 : decode cX12_draftsOf 30 = .ok (.iload 4, 2) := by decide +kernel
theorem dX12_draftsOf_32 : decode cX12_draftsOf 32 = .ok (.iaload, 1) := by decide +kernel
theorem dX12_draftsOf_33 : decode cX12_draftsOf 33 = .ok (.iload_n 1, 1) := by decide +kernel
theorem dX12_draftsOf_34 : decode cX12_draftsOf 34 = .ok (.if_icmp .ne 17, 3) := by decide +kernel
theorem dX12_draftsOf_37 : decode cX12_draftsOf 37 = .ok (.aload_n 0, 1) := by decide +kernel
theorem dX12_draftsOf_38 : decode cX12_draftsOf 38 = .ok (.getfield 102, 3) := by decide +kernel
theorem dX12_draftsOf_41 : decode cX12_draftsOf 41 = .ok (.iload 4, 2) := by decide +kernel
theorem dX12_draftsOf_43 : decode cX12_draftsOf 43 = .ok (.baload, 1) := by decide +kernel
theorem dX12_draftsOf_44 : decode cX12_draftsOf 44 = .ok (.ifCond .eq 7, 3) := by decide +kernel
theorem dX12_draftsOf_47 : decode cX12_draftsOf 47 = .ok (.iconst 1, 1) := by decide +kernel
theorem dX12_draftsOf_48 : decode cX12_draftsOf 48 = .ok (.goto 4, 3) := by decide +kernel
theorem dX12_draftsOf_51 : decode cX12_draftsOf 51 = .ok (.iconst 0, 1) := by decide +kernel
theorem dX12_draftsOf_52 : decode cX12_draftsOf 52 = .ok (.iadd, 1) := by decide +kernel
theorem dX12_draftsOf_53 : decode cX12_draftsOf 53 = .ok (.istore_n 3, 1) := by decide +kernel
theorem dX12_draftsOf_54 : decode cX12_draftsOf 54 = .ok (.iinc 4 1, 3) := by decide +kernel
theorem dX12_draftsOf_57 : decode cX12_draftsOf 57 = .ok (.goto (-52), 3) := by decide +kernel
theorem dX12_draftsOf_60 : decode cX12_draftsOf 60 = .ok (.iload_n 3, 1) := by decide +kernel
theorem dX12_draftsOf_61 : decode cX12_draftsOf 61 = .ok (.ireturn, 1) := by decide +kernel
theorem dX12_publish_0 : decode cX12_publish 0 = .ok (.aload_n 0, 1) := by decide +kernel
theorem dX12_publish_1 : decode cX12_publish 1 = .ok (.aload_n 0, 1) := by decide +kernel
theorem dX12_publish_2 : decode cX12_publish 2 = .ok (.iload_n 1, 1) := by decide +kernel
theorem dX12_publish_3 : decode cX12_publish 3 = .ok (.iload_n 2, 1) := by decide +kernel
theorem dX12_publish_4 : decode cX12_publish 4 = .ok (.invokevirtual 424, 3) := by decide +kernel
theorem dX12_publish_7 : decode cX12_publish 7 = .ok (.invokevirtual 399, 3) := by decide +kernel
theorem dX12_publish_10 : decode cX12_publish 10 = .ok (.ifCond .ne 5, 3) := by decide +kernel
theorem dX12_publish_13 : decode cX12_publish 13 = .ok (.iconst 0, 1) := by decide +kernel
theorem dX12_publish_14 : decode cX12_publish 14 = .ok (.ireturn, 1) := by decide +kernel
theorem dX12_publish_15 : decode cX12_publish 15 = .ok (.aload_n 0, 1) := by decide +kernel
theorem dX12_publish_16 : decode cX12_publish 16 = .ok (.iload_n 1, 1) := by decide +kernel
theorem dX12_publish_17 : decode cX12_publish 17 = .ok (.iload_n 2, 1) := by decide +kernel
theorem dX12_publish_18 : decode cX12_publish 18 = .ok (.invokevirtual 465, 3) := by decide +kernel
theorem dX12_publish_21 : decode cX12_publish 21 = .ok (.istore_n 3, 1) := by decide +kernel
theorem dX12_publish_22 : decode cX12_publish 22 = .ok (.aload_n 0, 1) := by decide +kernel
theorem dX12_publish_23 : decode cX12_publish 23 = .ok (.aload_n 0, 1) := by decide +kernel
theorem dX12_publish_24 : decode cX12_publish 24 = .ok (.iload_n 1, 1) := by decide +kernel
theorem dX12_publish_25 : decode cX12_publish 25 = .ok (.iload_n 2, 1) := by decide +kernel
theorem dX12_publish_26 : decode cX12_publish 26 = .ok (.invokevirtual 421, 3) := by decide +kernel
theorem dX12_publish_29 : decode cX12_publish 29 = .ok (.ifCond .eq 7, 3) := by decide +kernel
theorem dX12_publish_32 : decode cX12_publish 32 = .ok (.iload_n 3, 1) := by decide +kernel
theorem dX12_publish_33 : decode cX12_publish 33 = .ok (.ifCond .ne 7, 3) := by decide +kernel
theorem dX12_publish_36 : decode cX12_publish 36 = .ok (.iconst 2, 1) := by decide +kernel
theorem dX12_publish_37 : decode cX12_publish 37 = .ok (.goto 4, 3) := by decide +kernel
theorem dX12_publish_40 : decode cX12_publish 40 = .ok (.iconst 0, 1) := by decide +kernel
theorem dX12_publish_41 : decode cX12_publish 41 = .ok (.invokevirtual 399, 3) := by decide +kernel
theorem dX12_publish_44 : decode cX12_publish 44 = .ok (.ifCond .ne 5, 3) := by decide +kernel
theorem dX12_publish_47 : decode cX12_publish 47 = .ok (.iconst 0, 1) := by decide +kernel
theorem dX12_publish_48 : decode cX12_publish 48 = .ok (.ireturn, 1) := by decide +kernel
theorem dX12_publish_49 : decode cX12_publish 49 = .ok (.iconst 0, 1) := by decide +kernel
theorem dX12_publish_50 : decode cX12_publish 50 = .ok (.istore 4, 2) := by decide +kernel
theorem dX12_publish_52 : decode cX12_publish 52 = .ok (.iload 4, 2) := by decide +kernel
theorem dX12_publish_54 : decode cX12_publish 54 = .ok (.aload_n 0, 1) := by decide +kernel
theorem dX12_publish_55 : decode cX12_publish 55 = .ok (.getfield 251, 3) := by decide +kernel
theorem dX12_publish_58 : decode cX12_publish 58 = .ok (.if_icmp .ge 53, 3) := by decide +kernel
theorem dX12_publish_61 : decode cX12_publish 61 = .ok (.aload_n 0, 1) := by decide +kernel
theorem dX12_publish_62 : decode cX12_publish 62 = .ok (.getfield 102, 3) := by decide +kernel
theorem dX12_publish_65 : decode cX12_publish 65 = .ok (.iload 4, 2) := by decide +kernel
theorem dX12_publish_67 : decode cX12_publish 67 = .ok (.aload_n 0, 1) := by decide +kernel
theorem dX12_publish_68 : decode cX12_publish 68 = .ok (.getfield 102, 3) := by decide +kernel
theorem dX12_publish_71 : decode cX12_publish 71 = .ok (.iload 4, 2) := by decide +kernel
theorem dX12_publish_73 : decode cX12_publish 73 = .ok (.baload, 1) := by decide +kernel
theorem dX12_publish_74 : decode cX12_publish 74 = .ok (.ifCond .eq 29, 3) := by decide +kernel
theorem dX12_publish_77 : decode cX12_publish 77 = .ok (.aload_n 0, 1) := by decide +kernel
theorem dX12_publish_78 : decode cX12_publish 78 = .ok (.getfield 84, 3) := by decide +kernel
theorem dX12_publish_81 : decode cX12_publish 81 = .ok (.iload 4, 2) := by decide +kernel
theorem dX12_publish_83 : decode cX12_publish 83 = .ok (.iaload, 1) := by decide +kernel
theorem dX12_publish_84 : decode cX12_publish 84 = .ok (.iload_n 2, 1) := by decide +kernel
theorem dX12_publish_85 : decode cX12_publish 85 = .ok (.if_icmp .ne 14, 3) := by decide +kernel
theorem dX12_publish_88 : decode cX12_publish 88 = .ok (.aload_n 0, 1) := by decide +kernel
theorem dX12_publish_89 : decode cX12_publish 89 = .ok (.getfield 81, 3) := by decide +kernel
theorem dX12_publish_92 : decode cX12_publish 92 = .ok (.iload 4, 2) := by decide +kernel
theorem dX12_publish_94 : decode cX12_publish 94 = .ok (.iaload, 1) := by decide +kernel
theorem dX12_publish_95 : decode cX12_publish 95 = .ok (.iload_n 1, 1) := by decide +kernel
theorem dX12_publish_96 : decode cX12_publish 96 = .ok (.if_icmp .eq 7, 3) := by decide +kernel
theorem dX12_publish_99 : decode cX12_publish 99 = .ok (.iconst 1, 1) := by decide +kernel
theorem dX12_publish_100 : decode cX12_publish 100 = .ok (.goto 4, 3) := by decide +kernel
theorem dX12_publish_103 : decode cX12_publish 103 = .ok (.iconst 0, 1) := by decide +kernel
theorem dX12_publish_104 : decode cX12_publish 104 = .ok (.bastore, 1) := by decide +kernel
theorem dX12_publish_105 : decode cX12_publish 105 = .ok (.iinc 4 1, 3) := by decide +kernel
theorem dX12_publish_108 : decode cX12_publish 108 = .ok (.goto (-56), 3) := by decide +kernel
theorem dX12_publish_111 : decode cX12_publish 111 = .ok (.aload_n 0, 1) := by decide +kernel
theorem dX12_publish_112 : decode cX12_publish 112 = .ok (.iload_n 2, 1) := by decide +kernel
theorem dX12_publish_113 : decode cX12_publish 113 = .ok (.iload_n 1, 1) := by decide +kernel
theorem dX12_publish_114 : decode cX12_publish 114 = .ok (.invokevirtual 372, 3) := by decide +kernel
theorem dX12_publish_117 : decode cX12_publish 117 = .ok (.aload_n 0, 1) := by decide +kernel
theorem dX12_publish_118 : decode cX12_publish 118 = .ok (.iload_n 2, 1) := by decide +kernel
theorem dX12_publish_119 : decode cX12_publish 119 = .ok (.iload_n 1, 1) := by decide +kernel
theorem dX12_publish_120 : decode cX12_publish 120 = .ok (.iconst 0, 1) := by decide +kernel
theorem dX12_publish_121 : decode cX12_publish 121 = .ok (.invokevirtual 411, 3) := by decide +kernel
theorem dX12_publish_124 : decode cX12_publish 124 = .ok (.iload_n 3, 1) := by decide +kernel
theorem dX12_publish_125 : decode cX12_publish 125 = .ok (.ireturn, 1) := by decide +kernel
theorem dX12_shown_0 : decode cX12_shown 0 = .ok (.aload_n 0, 1) := by decide +kernel
theorem dX12_shown_1 : decode cX12_shown 1 = .ok (.aload_n 0, 1) := by decide +kernel
theorem dX12_shown_2 : decode cX12_shown 2 = .ok (.iload_n 1, 1) := by decide +kernel
theorem dX12_shown_3 : decode cX12_shown 3 = .ok (.invokevirtual 462, 3) := by decide +kernel
theorem dX12_shown_6 : decode cX12_shown 6 = .ok (.ifCond .eq 21, 3) := by decide +kernel
theorem dX12_shown_9 : decode cX12_shown 9 = .ok (.aload_n 0, 1) := by decide +kernel
theorem dX12_shown_10 : decode cX12_shown 10 = .ok (.aload_n 0, 1) := by decide +kernel
theorem dX12_shown_11 : decode cX12_shown 11 = .ok (.getfield 84, 3) := by decide +kernel
theorem dX12_shown_14 : decode cX12_shown 14 = .ok (.iload_n 1, 1) := by decide +kernel
theorem dX12_shown_15 : decode cX12_shown 15 = .ok (.iaload, 1) := by decide +kernel
theorem dX12_shown_16 : decode cX12_shown 16 = .ok (.iload_n 2, 1) := by decide +kernel
theorem dX12_shown_17 : decode cX12_shown 17 = .ok (.invokevirtual 402, 3) := by decide +kernel
theorem dX12_shown_20 : decode cX12_shown 20 = .ok (.ifCond .eq 7, 3) := by decide +kernel
theorem dX12_shown_23 : decode cX12_shown 23 = .ok (.iconst 0, 1) := by decide +kernel
theorem dX12_shown_24 : decode cX12_shown 24 = .ok (.goto 4, 3) := by decide +kernel
theorem dX12_shown_27 : decode cX12_shown 27 = .ok (.iconst 1, 1) := by decide +kernel
theorem dX12_shown_28 : decode cX12_shown 28 = .ok (.invokevirtual 399, 3) := by decide +kernel
theorem dX12_shown_31 : decode cX12_shown 31 = .ok (.ifCond .eq 12, 3) := by decide +kernel
theorem dX12_shown_34 : decode cX12_shown 34 = .ok (.aload_n 0, 1) := by decide +kernel
theorem dX12_shown_35 : decode cX12_shown 35 = .ok (.iload_n 1, 1) := by decide +kernel
theorem dX12_shown_36 : decode cX12_shown 36 = .ok (.iload_n 2, 1) := by decide +kernel
theorem dX12_shown_37 : decode cX12_shown 37 = .ok (.invokevirtual 468, 3) := by decide +kernel
theorem dX12_shown_40 : decode cX12_shown 40 = .ok (.goto 4, 3) := by decide +kernel
theorem dX12_shown_43 : decode cX12_shown 43 = .ok (.iconst 0, 1) := by decide +kernel
theorem dX12_shown_44 : decode cX12_shown 44 = .ok (.ireturn, 1) := by decide +kernel
theorem dX12_unresolved_0 : decode cX12_unresolved 0 = .ok (.aload_n 0, 1) := by decide +kernel
theorem dX12_unresolved_1 : decode cX12_unresolved 1 = .ok (.iload_n 1, 1) := by decide +kernel
theorem dX12_unresolved_2 : decode cX12_unresolved 2 = .ok (.invokevirtual 439, 3) := by decide +kernel
theorem dX12_unresolved_5 : decode cX12_unresolved 5 = .ok (.ifCond .eq 11, 3) := by decide +kernel
theorem dX12_unresolved_8 : decode cX12_unresolved 8 = .ok (.aload_n 0, 1) := by decide +kernel
theorem dX12_unresolved_9 : decode cX12_unresolved 9 = .ok (.iload_n 1, 1) := by decide +kernel
theorem dX12_unresolved_10 : decode cX12_unresolved 10 = .ok (.invokevirtual 307, 3) := by decide +kernel
theorem dX12_unresolved_13 : decode cX12_unresolved 13 = .ok (.goto 4, 3) := by decide +kernel
theorem dX12_unresolved_16 : decode cX12_unresolved 16 = .ok (.iconst 0, 1) := by decide +kernel
theorem dX12_unresolved_17 : decode cX12_unresolved 17 = .ok (.ireturn, 1) := by decide +kernel
theorem dX12_find_0 : decode cX12_find 0 = .ok (.aload_n 0, 1) := by decide +kernel
theorem dX12_find_1 : decode cX12_find 1 = .ok (.aload_n 0, 1) := by decide +kernel
theorem dX12_find_2 : decode cX12_find 2 = .ok (.iload_n 1, 1) := by decide +kernel
theorem dX12_find_3 : decode cX12_find 3 = .ok (.iload_n 2, 1) := by decide +kernel
theorem dX12_find_4 : decode cX12_find 4 = .ok (.invokevirtual 402, 3) := by decide +kernel
theorem dX12_find_7 : decode cX12_find 7 = .ok (.ifCond .eq 14, 3) := by decide +kernel
theorem dX12_find_10 : decode cX12_find 10 = .ok (.iload_n 3, 1) := by decide +kernel
theorem dX12_find_11 : decode cX12_find 11 = .ok (.invokestatic 405, 3) := by decide +kernel
theorem dX12_find_14 : decode cX12_find 14 = .ok (.ifCond .eq 7, 3) := by decide +kernel
theorem dX12_find_17 : decode cX12_find 17 = .ok (.iconst 0, 1) := by decide +kernel
theorem dX12_find_18 : decode cX12_find 18 = .ok (.goto 4, 3) := by decide +kernel
theorem dX12_find_21 : decode cX12_find 21 = .ok (.iconst 1, 1) := by decide +kernel
theorem dX12_find_22 : decode cX12_find 22 = .ok (.invokevirtual 399, 3) := by decide +kernel
theorem dX12_find_25 : decode cX12_find 25 = .ok (.ifCond .ne 5, 3) := by decide +kernel
theorem dX12_find_28 : decode cX12_find 28 = .ok (.iconst 0, 1) := by decide +kernel
theorem dX12_find_29 : decode cX12_find 29 = .ok (.ireturn, 1) := by decide +kernel
theorem dX12_find_30 : decode cX12_find 30 = .ok (.aload_n 0, 1) := by decide +kernel
theorem dX12_find_31 : decode cX12_find 31 = .ok (.aload_n 0, 1) := by decide +kernel
theorem dX12_find_32 : decode cX12_find 32 = .ok (.iload_n 1, 1) := by decide +kernel
theorem dX12_find_33 : decode cX12_find 33 = .ok (.iload_n 2, 1) := by decide +kernel
theorem dX12_find_34 : decode cX12_find 34 = .ok (.invokevirtual 244, 3) := by decide +kernel
theorem dX12_find_37 : decode cX12_find 37 = .ok (.iload_n 3, 1) := by decide +kernel
theorem dX12_find_38 : decode cX12_find 38 = .ok (.iload 4, 2) := by decide +kernel
theorem dX12_find_40 : decode cX12_find 40 = .ok (.iconst 0, 1) := by decide +kernel
theorem dX12_find_41 : decode cX12_find 41 = .ok (.iload 5, 2) := by decide +kernel
theorem dX12_find_43 : decode cX12_find 43 = .ok (.invokevirtual 450, 3) := by decide +kernel
theorem dX12_find_46 : decode cX12_find 46 = .ok (.ifCond .eq 19, 3) := by decide +kernel
theorem dX12_find_49 : decode cX12_find 49 = .ok (.iload 6, 2) := by decide +kernel
theorem dX12_find_51 : decode cX12_find 51 = .ok (.iconst (-1), 1) := by decide +kernel
theorem dX12_find_52 : decode cX12_find 52 = .ok (.sipush 399, 3) := by decide +kernel
theorem dX12_find_55 : decode cX12_find 55 = .ok (.invokestatic 192, 3) := by decide +kernel
theorem dX12_find_58 : decode cX12_find 58 = .ok (.ifCond .eq 7, 3) := by decide +kernel
theorem dX12_find_61 : decode cX12_find 61 = .ok (.iconst 1, 1) := by decide +kernel
theorem dX12_find_62 : decode cX12_find 62 = .ok (.goto 4, 3) := by decide +kernel
theorem dX12_find_65 : decode cX12_find 65 = .ok (.iconst 0, 1) := by decide +kernel
theorem dX12_find_66 : decode cX12_find 66 = .ok (.istore 7, 2) := by decide +kernel
theorem dX12_find_68 : decode cX12_find 68 = .ok (.aload_n 0, 1) := by decide +kernel
theorem dX12_find_69 : decode cX12_find 69 = .ok (.iload 7, 2) := by decide +kernel
theorem dX12_find_71 : decode cX12_find 71 = .ok (.ifCond .ne 7, 3) := by decide +kernel
theorem dX12_find_74 : decode cX12_find 74 = .ok (.iconst 2, 1) := by decide +kernel
theorem dX12_find_75 : decode cX12_find 75 = .ok (.goto 17, 3) := by decide +kernel
theorem dX12_find_78 : decode cX12_find 78 = .ok (.aload_n 0, 1) := by decide +kernel
theorem dX12_find_79 : decode cX12_find 79 = .ok (.getfield 335, 3) := by decide +kernel
theorem dX12_find_82 : decode cX12_find 82 = .ok (.bipush 40, 2) := by decide +kernel
theorem dX12_find_84 : decode cX12_find 84 = .ok (.if_icmp .ne 7, 3) := by decide +kernel
theorem dX12_find_87 : decode cX12_find 87 = .ok (.iconst 3, 1) := by decide +kernel
theorem dX12_find_88 : decode cX12_find 88 = .ok (.goto 4, 3) := by decide +kernel
theorem dX12_find_91 : decode cX12_find 91 = .ok (.iconst 0, 1) := by decide +kernel
theorem dX12_find_92 : decode cX12_find 92 = .ok (.invokevirtual 399, 3) := by decide +kernel
theorem dX12_find_95 : decode cX12_find 95 = .ok (.ifCond .ne 5, 3) := by decide +kernel
theorem dX12_find_98 : decode cX12_find 98 = .ok (.iconst 0, 1) := by decide +kernel
theorem dX12_find_99 : decode cX12_find 99 = .ok (.ireturn, 1) := by decide +kernel
theorem dX12_find_100 : decode cX12_find 100 = .ok (.aload_n 0, 1) := by decide +kernel
theorem dX12_find_101 : decode cX12_find 101 = .ok (.getfield 108, 3) := by decide +kernel
theorem dX12_find_104 : decode cX12_find 104 = .ok (.aload_n 0, 1) := by decide +kernel
theorem dX12_find_105 : decode cX12_find 105 = .ok (.getfield 335, 3) := by decide +kernel
theorem dX12_find_108 : decode cX12_find 108 = .ok (.iload_n 1, 1) := by decide +kernel
theorem dX12_find_109 : decode cX12_find 109 = .ok (.iastore, 1) := by decide +kernel
theorem dX12_find_110 : decode cX12_find 110 = .ok (.aload_n 0, 1) := by decide +kernel
theorem dX12_find_111 : decode cX12_find 111 = .ok (.getfield 111, 3) := by decide +kernel
theorem dX12_find_114 : decode cX12_find 114 = .ok (.aload_n 0, 1) := by decide +kernel
theorem dX12_find_115 : decode cX12_find 115 = .ok (.getfield 335, 3) := by decide +kernel
theorem dX12_find_118 : decode cX12_find 118 = .ok (.iload_n 2, 1) := by decide +kernel
theorem dX12_find_119 : decode cX12_find 119 = .ok (.iastore, 1) := by decide +kernel
theorem dX12_find_120 : decode cX12_find 120 = .ok (.aload_n 0, 1) := by decide +kernel
theorem dX12_find_121 : decode cX12_find 121 = .ok (.getfield 114, 3) := by decide +kernel
theorem dX12_find_124 : decode cX12_find 124 = .ok (.aload_n 0, 1) := by decide +kernel
theorem dX12_find_125 : decode cX12_find 125 = .ok (.getfield 335, 3) := by decide +kernel
theorem dX12_find_128 : decode cX12_find 128 = .ok (.iload_n 3, 1) := by decide +kernel
theorem dX12_find_129 : decode cX12_find 129 = .ok (.iastore, 1) := by decide +kernel
theorem dX12_find_130 : decode cX12_find 130 = .ok (.aload_n 0, 1) := by decide +kernel
theorem dX12_find_131 : decode cX12_find 131 = .ok (.getfield 117, 3) := by decide +kernel
theorem dX12_find_134 : decode cX12_find 134 = .ok (.aload_n 0, 1) := by decide +kernel
theorem dX12_find_135 : decode cX12_find 135 = .ok (.getfield 335, 3) := by decide +kernel
theorem dX12_find_138 : decode cX12_find 138 = .ok (.iload 4, 2) := by decide +kernel
theorem dX12_find_140 : decode cX12_find 140 = .ok (.iastore, 1) := by decide +kernel
theorem dX12_find_141 : decode cX12_find 141 = .ok (.aload_n 0, 1) := by decide +kernel
theorem dX12_find_142 : decode cX12_find 142 = .ok (.getfield 120, 3) := by decide +kernel
theorem dX12_find_145 : decode cX12_find 145 = .ok (.aload_n 0, 1) := by decide +kernel
theorem dX12_find_146 : decode cX12_find 146 = .ok (.getfield 335, 3) := by decide +kernel
theorem dX12_find_149 : decode cX12_find 149 = .ok (.iload 5, 2) := by decide +kernel
theorem dX12_find_151 : decode cX12_find 151 = .ok (.iastore, 1) := by decide +kernel
theorem dX12_find_152 : decode cX12_find 152 = .ok (.aload_n 0, 1) := by decide +kernel
theorem dX12_find_153 : decode cX12_find 153 = .ok (.getfield 123, 3) := by decide +kernel
theorem dX12_find_156 : decode cX12_find 156 = .ok (.aload_n 0, 1) := by decide +kernel
theorem dX12_find_157 : decode cX12_find 157 = .ok (.getfield 335, 3) := by decide +kernel
theorem dX12_find_160 : decode cX12_find 160 = .ok (.iload 6, 2) := by decide +kernel
theorem dX12_find_162 : decode cX12_find 162 = .ok (.iastore, 1) := by decide +kernel
theorem dX12_find_163 : decode cX12_find 163 = .ok (.aload_n 0, 1) := by decide +kernel
theorem dX12_find_164 : decode cX12_find 164 = .ok (.dup, 1) := by decide +kernel
theorem dX12_find_165 : decode cX12_find 165 = .ok (.getfield 335, 3) := by decide +kernel
theorem dX12_find_168 : decode cX12_find 168 = .ok (.iconst 1, 1) := by decide +kernel
theorem dX12_find_169 : decode cX12_find 169 = .ok (.iadd, 1) := by decide +kernel
theorem dX12_find_170 : decode cX12_find 170 = .ok (.putfield 335, 3) := by decide +kernel
theorem dX12_find_173 : decode cX12_find 173 = .ok (.aload_n 0, 1) := by decide +kernel
theorem dX12_find_174 : decode cX12_find 174 = .ok (.getfield 335, 3) := by decide +kernel
theorem dX12_find_177 : decode cX12_find 177 = .ok (.iconst 1, 1) := by decide +kernel
theorem dX12_find_178 : decode cX12_find 178 = .ok (.isub, 1) := by decide +kernel
theorem dX12_find_179 : decode cX12_find 179 = .ok (.ireturn, 1) := by decide +kernel
theorem dX12_areFindings_0 : decode cX12_areFindings 0 = .ok (.iload_n 2, 1) := by decide +kernel
theorem dX12_areFindings_1 : decode cX12_areFindings 1 = .ok (.ifCond .lt 7, 3) := by decide +kernel
theorem dX12_areFindings_4 : decode cX12_areFindings 4 = .ok (.iconst 1, 1) := by decide +kernel
theorem dX12_areFindings_5 : decode cX12_areFindings 5 = .ok (.goto 4, 3) := by decide +kernel
theorem dX12_areFindings_8 : decode cX12_areFindings 8 = .ok (.iconst 0, 1) := by decide +kernel
theorem dX12_areFindings_9 : decode cX12_areFindings 9 = .ok (.istore_n 3, 1) := by decide +kernel
theorem dX12_areFindings_10 : decode cX12_areFindings 10 = .ok (.iconst 0, 1) := by decide +kernel
theorem dX12_areFindings_11 : decode cX12_areFindings 11 = .ok (.istore 4, 2) := by decide +kernel
theorem dX12_areFindings_13 : decode cX12_areFindings 13 = .ok (.iload 4, 2) := by decide +kernel
theorem dX12_areFindings_15 : decode cX12_areFindings 15 = .ok (.bipush 31, 2) := by decide +kernel
theorem dX12_areFindings_17 : decode cX12_areFindings 17 = .ok (.if_icmp .ge 40, 3) := by decide +kernel
theorem dX12_areFindings_20 : decode cX12_areFindings 20 = .ok (.iload_n 3, 1) := by decide +kernel
theorem dX12_areFindings_21 : decode cX12_areFindings 21 = .ok (.ifCond .eq 36, 3) := by decide +kernel
theorem dX12_areFindings_24 : decode cX12_areFindings 24 = .ok (.aload_n 0, 1) := by decide +kernel
theorem dX12_areFindings_25 : decode cX12_areFindings 25 = .ok (.iload_n 2, 1) := by decide +kernel
theorem dX12_areFindings_26 : decode cX12_areFindings 26 = .ok (.iload 4, 2) := by decide +kernel
theorem dX12_areFindings_28 : decode cX12_areFindings 28 = .ok (.invokevirtual 338, 3) := by decide +kernel
theorem dX12_areFindings_31 : decode cX12_areFindings 31 = .ok (.ifCond .eq 14, 3) := by decide +kernel
theorem dX12_areFindings_34 : decode cX12_areFindings 34 = .ok (.aload_n 0, 1) := by decide +kernel
theorem dX12_areFindings_35 : decode cX12_areFindings 35 = .ok (.iload_n 1, 1) := by decide +kernel
theorem dX12_areFindings_36 : decode cX12_areFindings 36 = .ok (.iload 4, 2) := by decide +kernel
theorem dX12_areFindings_38 : decode cX12_areFindings 38 = .ok (.invokevirtual 341, 3) := by decide +kernel
theorem dX12_areFindings_41 : decode cX12_areFindings 41 = .ok (.iconst (-1), 1) := by decide +kernel
theorem dX12_areFindings_42 : decode cX12_areFindings 42 = .ok (.if_icmp .eq 7, 3) := by decide +kernel
theorem dX12_areFindings_45 : decode cX12_areFindings 45 = .ok (.iconst 1, 1) := by decide +kernel
theorem dX12_areFindings_46 : decode cX12_areFindings 46 = .ok (.goto 4, 3) := by decide +kernel
theorem dX12_areFindings_49 : decode cX12_areFindings 49 = .ok (.iconst 0, 1) := by decide +kernel
theorem dX12_areFindings_50 : decode cX12_areFindings 50 = .ok (.istore_n 3, 1) := by decide +kernel
theorem dX12_areFindings_51 : decode cX12_areFindings 51 = .ok (.iinc 4 1, 3) := by decide +kernel
theorem dX12_areFindings_54 : decode cX12_areFindings 54 = .ok (.goto (-41), 3) := by decide +kernel
theorem dX12_areFindings_57 : decode cX12_areFindings 57 = .ok (.iload_n 3, 1) := by decide +kernel
theorem dX12_areFindings_58 : decode cX12_areFindings 58 = .ok (.ireturn, 1) := by decide +kernel
theorem dX12_areShort_0 : decode cX12_areShort 0 = .ok (.aload_n 0, 1) := by decide +kernel
theorem dX12_areShort_1 : decode cX12_areShort 1 = .ok (.iload_n 1, 1) := by decide +kernel
theorem dX12_areShort_2 : decode cX12_areShort 2 = .ok (.iload_n 2, 1) := by decide +kernel
theorem dX12_areShort_3 : decode cX12_areShort 3 = .ok (.iconst 0, 1) := by decide +kernel
theorem dX12_areShort_4 : decode cX12_areShort 4 = .ok (.invokevirtual 471, 3) := by decide +kernel
theorem dX12_areShort_7 : decode cX12_areShort 7 = .ok (.bipush 10, 2) := by decide +kernel
theorem dX12_areShort_9 : decode cX12_areShort 9 = .ok (.if_icmp .gt 43, 3) := by decide +kernel
theorem dX12_areShort_12 : decode cX12_areShort 12 = .ok (.aload_n 0, 1) := by decide +kernel
theorem dX12_areShort_13 : decode cX12_areShort 13 = .ok (.iload_n 1, 1) := by decide +kernel
theorem dX12_areShort_14 : decode cX12_areShort 14 = .ok (.iload_n 2, 1) := by decide +kernel
theorem dX12_areShort_15 : decode cX12_areShort 15 = .ok (.iconst 1, 1) := by decide +kernel
theorem dX12_areShort_16 : decode cX12_areShort 16 = .ok (.invokevirtual 471, 3) := by decide +kernel
theorem dX12_areShort_19 : decode cX12_areShort 19 = .ok (.bipush 10, 2) := by decide +kernel
theorem dX12_areShort_21 : decode cX12_areShort 21 = .ok (.if_icmp .gt 31, 3) := by decide +kernel
theorem dX12_areShort_24 : decode cX12_areShort 24 = .ok (.aload_n 0, 1) := by decide +kernel
theorem dX12_areShort_25 : decode cX12_areShort 25 = .ok (.iload_n 1, 1) := by decide +kernel
theorem dX12_areShort_26 : decode cX12_areShort 26 = .ok (.iload_n 2, 1) := by decide +kernel
theorem dX12_areShort_27 : decode cX12_areShort 27 = .ok (.iconst 2, 1) := by decide +kernel
theorem dX12_areShort_28 : decode cX12_areShort 28 = .ok (.invokevirtual 471, 3) := by decide +kernel
theorem dX12_areShort_31 : decode cX12_areShort 31 = .ok (.bipush 10, 2) := by decide +kernel
theorem dX12_areShort_33 : decode cX12_areShort 33 = .ok (.if_icmp .gt 19, 3) := by decide +kernel
theorem dX12_areShort_36 : decode cX12_areShort 36 = .ok (.aload_n 0, 1) := by decide +kernel
theorem dX12_areShort_37 : decode cX12_areShort 37 = .ok (.iload_n 1, 1) := by decide +kernel
theorem dX12_areShort_38 : decode cX12_areShort 38 = .ok (.iload_n 2, 1) := by decide +kernel
theorem dX12_areShort_39 : decode cX12_areShort 39 = .ok (.iconst 3, 1) := by decide +kernel
theorem dX12_areShort_40 : decode cX12_areShort 40 = .ok (.invokevirtual 471, 3) := by decide +kernel
theorem dX12_areShort_43 : decode cX12_areShort 43 = .ok (.bipush 10, 2) := by decide +kernel
theorem dX12_areShort_45 : decode cX12_areShort 45 = .ok (.if_icmp .gt 7, 3) := by decide +kernel
theorem dX12_areShort_48 : decode cX12_areShort 48 = .ok (.iconst 1, 1) := by decide +kernel
theorem dX12_areShort_49 : decode cX12_areShort 49 = .ok (.goto 4, 3) := by decide +kernel
theorem dX12_areShort_52 : decode cX12_areShort 52 = .ok (.iconst 0, 1) := by decide +kernel
theorem dX12_areShort_53 : decode cX12_areShort 53 = .ok (.ireturn, 1) := by decide +kernel
theorem dX12_takeFixes_0 : decode cX12_takeFixes 0 = .ok (.aload_n 0, 1) := by decide +kernel
theorem dX12_takeFixes_1 : decode cX12_takeFixes 1 = .ok (.iload_n 1, 1) := by decide +kernel
theorem dX12_takeFixes_2 : decode cX12_takeFixes 2 = .ok (.invokevirtual 439, 3) := by decide +kernel
theorem dX12_takeFixes_5 : decode cX12_takeFixes 5 = .ok (.ifCond .eq 24, 3) := by decide +kernel
theorem dX12_takeFixes_8 : decode cX12_takeFixes 8 = .ok (.aload_n 0, 1) := by decide +kernel
theorem dX12_takeFixes_9 : decode cX12_takeFixes 9 = .ok (.aload_n 0, 1) := by decide +kernel
theorem dX12_takeFixes_10 : decode cX12_takeFixes 10 = .ok (.iload_n 1, 1) := by decide +kernel
theorem dX12_takeFixes_11 : decode cX12_takeFixes 11 = .ok (.iload_n 2, 1) := by decide +kernel
theorem dX12_takeFixes_12 : decode cX12_takeFixes 12 = .ok (.invokevirtual 474, 3) := by decide +kernel
theorem dX12_takeFixes_15 : decode cX12_takeFixes 15 = .ok (.ifCond .eq 7, 3) := by decide +kernel
theorem dX12_takeFixes_18 : decode cX12_takeFixes 18 = .ok (.iconst 0, 1) := by decide +kernel
theorem dX12_takeFixes_19 : decode cX12_takeFixes 19 = .ok (.goto 4, 3) := by decide +kernel
theorem dX12_takeFixes_22 : decode cX12_takeFixes 22 = .ok (.iconst 2, 1) := by decide +kernel
theorem dX12_takeFixes_23 : decode cX12_takeFixes 23 = .ok (.invokevirtual 399, 3) := by decide +kernel
theorem dX12_takeFixes_26 : decode cX12_takeFixes 26 = .ok (.ifCond .ne 5, 3) := by decide +kernel
theorem dX12_takeFixes_29 : decode cX12_takeFixes 29 = .ok (.iconst 0, 1) := by decide +kernel
theorem dX12_takeFixes_30 : decode cX12_takeFixes 30 = .ok (.ireturn, 1) := by decide +kernel
theorem dX12_takeFixes_31 : decode cX12_takeFixes 31 = .ok (.aload_n 0, 1) := by decide +kernel
theorem dX12_takeFixes_32 : decode cX12_takeFixes 32 = .ok (.aload_n 0, 1) := by decide +kernel
theorem dX12_takeFixes_33 : decode cX12_takeFixes 33 = .ok (.iload_n 1, 1) := by decide +kernel
theorem dX12_takeFixes_34 : decode cX12_takeFixes 34 = .ok (.iload_n 2, 1) := by decide +kernel
theorem dX12_takeFixes_35 : decode cX12_takeFixes 35 = .ok (.invokevirtual 477, 3) := by decide +kernel
theorem dX12_takeFixes_38 : decode cX12_takeFixes 38 = .ok (.ifCond .eq 16, 3) := by decide +kernel
theorem dX12_takeFixes_41 : decode cX12_takeFixes 41 = .ok (.aload_n 0, 1) := by decide +kernel
theorem dX12_takeFixes_42 : decode cX12_takeFixes 42 = .ok (.iload_n 1, 1) := by decide +kernel
theorem dX12_takeFixes_43 : decode cX12_takeFixes 43 = .ok (.iload_n 2, 1) := by decide +kernel
theorem dX12_takeFixes_44 : decode cX12_takeFixes 44 = .ok (.invokevirtual 480, 3) := by decide +kernel
theorem dX12_takeFixes_47 : decode cX12_takeFixes 47 = .ok (.ifCond .eq 7, 3) := by decide +kernel
theorem dX12_takeFixes_50 : decode cX12_takeFixes 50 = .ok (.iconst 0, 1) := by decide +kernel
theorem dX12_takeFixes_51 : decode cX12_takeFixes 51 = .ok (.goto 4, 3) := by decide +kernel
theorem dX12_takeFixes_54 : decode cX12_takeFixes 54 = .ok (.iconst 3, 1) := by decide +kernel
theorem dX12_takeFixes_55 : decode cX12_takeFixes 55 = .ok (.invokevirtual 399, 3) := by decide +kernel
theorem dX12_takeFixes_58 : decode cX12_takeFixes 58 = .ok (.ifCond .ne 5, 3) := by decide +kernel
theorem dX12_takeFixes_61 : decode cX12_takeFixes 61 = .ok (.iconst 0, 1) := by decide +kernel
theorem dX12_takeFixes_62 : decode cX12_takeFixes 62 = .ok (.ireturn, 1) := by decide +kernel
theorem dX12_takeFixes_63 : decode cX12_takeFixes 63 = .ok (.iconst 0, 1) := by decide +kernel
theorem dX12_takeFixes_64 : decode cX12_takeFixes 64 = .ok (.istore_n 3, 1) := by decide +kernel
theorem dX12_takeFixes_65 : decode cX12_takeFixes 65 = .ok (.iload_n 3, 1) := by decide +kernel
theorem dX12_takeFixes_66 : decode cX12_takeFixes 66 = .ok (.iconst 4, 1) := by decide +kernel
theorem dX12_takeFixes_67 : decode cX12_takeFixes 67 = .ok (.if_icmp .ge 67, 3) := by decide +kernel
theorem dX12_takeFixes_70 : decode cX12_takeFixes 70 = .ok (.aload_n 0, 1) := by decide +kernel
theorem dX12_takeFixes_71 : decode cX12_takeFixes 71 = .ok (.getfield 20, 3) := by decide +kernel
theorem dX12_takeFixes_74 : decode cX12_takeFixes 74 = .ok (.sipush 320, 3) := by decide +kernel
theorem dX12_takeFixes_77 : decode cX12_takeFixes 77 = .ok (.iload_n 3, 1) := by decide +kernel
theorem dX12_takeFixes_78 : decode cX12_takeFixes 78 = .ok (.iadd, 1) := by decide +kernel
theorem dX12_takeFixes_79 : decode cX12_takeFixes 79 = .ok (.aload_n 0, 1) := by decide +kernel
theorem dX12_takeFixes_80 : decode cX12_takeFixes 80 = .ok (.iload_n 1, 1) := by decide +kernel
theorem dX12_takeFixes_81 : decode cX12_takeFixes 81 = .ok (.iload_n 2, 1) := by decide +kernel
theorem dX12_takeFixes_82 : decode cX12_takeFixes 82 = .ok (.iload_n 3, 1) := by decide +kernel
theorem dX12_takeFixes_83 : decode cX12_takeFixes 83 = .ok (.invokevirtual 471, 3) := by decide +kernel
theorem dX12_takeFixes_86 : decode cX12_takeFixes 86 = .ok (.iastore, 1) := by decide +kernel
theorem dX12_takeFixes_87 : decode cX12_takeFixes 87 = .ok (.iconst 0, 1) := by decide +kernel
theorem dX12_takeFixes_88 : decode cX12_takeFixes 88 = .ok (.istore 4, 2) := by decide +kernel
theorem dX12_takeFixes_90 : decode cX12_takeFixes 90 = .ok (.iload 4, 2) := by decide +kernel
theorem dX12_takeFixes_92 : decode cX12_takeFixes 92 = .ok (.aload_n 0, 1) := by decide +kernel
theorem dX12_takeFixes_93 : decode cX12_takeFixes 93 = .ok (.getfield 224, 3) := by decide +kernel
theorem dX12_takeFixes_96 : decode cX12_takeFixes 96 = .ok (.if_icmp .ge 32, 3) := by decide +kernel
theorem dX12_takeFixes_99 : decode cX12_takeFixes 99 = .ok (.aload_n 0, 1) := by decide +kernel
theorem dX12_takeFixes_100 : decode cX12_takeFixes 100 = .ok (.getfield 23, 3) := by decide +kernel
theorem dX12_takeFixes_103 : decode cX12_takeFixes 103 = .ok (.bipush 10, 2) := by decide +kernel
theorem dX12_takeFixes_105 : decode cX12_takeFixes 105 = .ok (.sipush 320, 3) := by decide +kernel
theorem dX12_takeFixes_108 : decode cX12_takeFixes 108 = .ok (.iload_n 3, 1) := by decide +kernel
theorem dX12_takeFixes_109 : decode cX12_takeFixes 109 = .ok (.iadd, 1) := by decide +kernel
theorem dX12_takeFixes_110 : decode cX12_takeFixes 110 = .ok (.imul, 1) := by decide +kernel
theorem dX12_takeFixes_111 : decode cX12_takeFixes 111 = .ok (.iload 4, 2) := by decide +kernel
theorem dX12_takeFixes_113 : decode cX12_takeFixes 113 = .ok (.iadd, 1) := by decide +kernel
theorem dX12_takeFixes_114 : decode cX12_takeFixes 114 = .ok (.aload_n 0, 1) := by decide +kernel
theorem dX12_takeFixes_115 : decode cX12_takeFixes 115 = .ok (.getfield 183, 3) := by decide +kernel
theorem dX12_takeFixes_118 : decode cX12_takeFixes 118 = .ok (.iload 4, 2) := by decide +kernel
theorem dX12_takeFixes_120 : decode cX12_takeFixes 120 = .ok (.iaload, 1) := by decide +kernel
theorem dX12_takeFixes_121 : decode cX12_takeFixes 121 = .ok (.iastore, 1) := by decide +kernel
theorem dX12_takeFixes_122 : decode cX12_takeFixes 122 = .ok (.iinc 4 1, 3) := by decide +kernel
theorem dX12_takeFixes_125 : decode cX12_takeFixes 125 = .ok (.goto (-35), 3) := by decide +kernel
theorem dX12_takeFixes_128 : decode cX12_takeFixes 128 = .ok (.iinc 3 1, 3) := by decide +kernel
theorem dX12_takeFixes_131 : decode cX12_takeFixes 131 = .ok (.goto (-66), 3) := by decide +kernel
theorem dX12_takeFixes_134 : decode cX12_takeFixes 134 = .ok (.aload_n 0, 1) := by decide +kernel
theorem dX12_takeFixes_135 : decode cX12_takeFixes 135 = .ok (.getfield 17, 3) := by decide +kernel
theorem dX12_takeFixes_138 : decode cX12_takeFixes 138 = .ok (.bipush 80, 2) := by decide +kernel
theorem dX12_takeFixes_140 : decode cX12_takeFixes 140 = .ok (.aload_n 0, 1) := by decide +kernel
theorem dX12_takeFixes_141 : decode cX12_takeFixes 141 = .ok (.getfield 17, 3) := by decide +kernel
theorem dX12_takeFixes_144 : decode cX12_takeFixes 144 = .ok (.aload_n 0, 1) := by decide +kernel
theorem dX12_takeFixes_145 : decode cX12_takeFixes 145 = .ok (.iload_n 1, 1) := by decide +kernel
theorem dX12_takeFixes_146 : decode cX12_takeFixes 146 = .ok (.invokevirtual 247, 3) := by decide +kernel
theorem dX12_takeFixes_149 : decode cX12_takeFixes 149 = .ok (.iaload, 1) := by decide +kernel
theorem dX12_takeFixes_150 : decode cX12_takeFixes 150 = .ok (.iastore, 1) := by decide +kernel
theorem dX12_takeFixes_151 : decode cX12_takeFixes 151 = .ok (.iconst 0, 1) := by decide +kernel
theorem dX12_takeFixes_152 : decode cX12_takeFixes 152 = .ok (.istore_n 3, 1) := by decide +kernel
theorem dX12_takeFixes_153 : decode cX12_takeFixes 153 = .ok (.iconst 0, 1) := by decide +kernel
theorem dX12_takeFixes_154 : decode cX12_takeFixes 154 = .ok (.istore 4, 2) := by decide +kernel
theorem dX12_takeFixes_156 : decode cX12_takeFixes 156 = .ok (.iload 4, 2) := by decide +kernel
theorem dX12_takeFixes_158 : decode cX12_takeFixes 158 = .ok (.bipush 31, 2) := by decide +kernel
theorem dX12_takeFixes_160 : decode cX12_takeFixes 160 = .ok (.if_icmp .ge 27, 3) := by decide +kernel
theorem dX12_takeFixes_163 : decode cX12_takeFixes 163 = .ok (.iload_n 3, 1) := by decide +kernel
theorem dX12_takeFixes_164 : decode cX12_takeFixes 164 = .ok (.aload_n 0, 1) := by decide +kernel
theorem dX12_takeFixes_165 : decode cX12_takeFixes 165 = .ok (.iload_n 2, 1) := by decide +kernel
theorem dX12_takeFixes_166 : decode cX12_takeFixes 166 = .ok (.iload 4, 2) := by decide +kernel
theorem dX12_takeFixes_168 : decode cX12_takeFixes 168 = .ok (.invokevirtual 338, 3) := by decide +kernel
theorem dX12_takeFixes_171 : decode cX12_takeFixes 171 = .ok (.ifCond .eq 7, 3) := by decide +kernel
theorem dX12_takeFixes_174 : decode cX12_takeFixes 174 = .ok (.iconst 1, 1) := by decide +kernel
theorem dX12_takeFixes_175 : decode cX12_takeFixes 175 = .ok (.goto 4, 3) := by decide +kernel
theorem dX12_takeFixes_178 : decode cX12_takeFixes 178 = .ok (.iconst 0, 1) := by decide +kernel
theorem dX12_takeFixes_179 : decode cX12_takeFixes 179 = .ok (.iadd, 1) := by decide +kernel
theorem dX12_takeFixes_180 : decode cX12_takeFixes 180 = .ok (.istore_n 3, 1) := by decide +kernel
theorem dX12_takeFixes_181 : decode cX12_takeFixes 181 = .ok (.iinc 4 1, 3) := by decide +kernel
theorem dX12_takeFixes_184 : decode cX12_takeFixes 184 = .ok (.goto (-28), 3) := by decide +kernel
theorem dX12_takeFixes_187 : decode cX12_takeFixes 187 = .ok (.iload_n 3, 1) := by decide +kernel
theorem dX12_takeFixes_188 : decode cX12_takeFixes 188 = .ok (.ireturn, 1) := by decide +kernel
theorem dX12_setOwners_0 : decode cX12_setOwners 0 = .ok (.aload_n 0, 1) := by decide +kernel
theorem dX12_setOwners_1 : decode cX12_setOwners 1 = .ok (.iload_n 1, 1) := by decide +kernel
theorem dX12_setOwners_2 : decode cX12_setOwners 2 = .ok (.invokestatic 408, 3) := by decide +kernel
theorem dX12_setOwners_5 : decode cX12_setOwners 5 = .ok (.ifCond .eq 13, 3) := by decide +kernel
theorem dX12_setOwners_8 : decode cX12_setOwners 8 = .ok (.iload_n 2, 1) := by decide +kernel
theorem dX12_setOwners_9 : decode cX12_setOwners 9 = .ok (.iconst 0, 1) := by decide +kernel
theorem dX12_setOwners_10 : decode cX12_setOwners 10 = .ok (.bipush 6, 2) := by decide +kernel
theorem dX12_setOwners_12 : decode cX12_setOwners 12 = .ok (.invokestatic 192, 3) := by decide +kernel
theorem dX12_setOwners_15 : decode cX12_setOwners 15 = .ok (.ifCond .ne 7, 3) := by decide +kernel
theorem dX12_setOwners_18 : decode cX12_setOwners 18 = .ok (.iconst 1, 1) := by decide +kernel
theorem dX12_setOwners_19 : decode cX12_setOwners 19 = .ok (.goto 18, 3) := by decide +kernel
theorem dX12_setOwners_22 : decode cX12_setOwners 22 = .ok (.iload_n 3, 1) := by decide +kernel
theorem dX12_setOwners_23 : decode cX12_setOwners 23 = .ok (.iconst 0, 1) := by decide +kernel
theorem dX12_setOwners_24 : decode cX12_setOwners 24 = .ok (.bipush 63, 2) := by decide +kernel
theorem dX12_setOwners_26 : decode cX12_setOwners 26 = .ok (.invokestatic 192, 3) := by decide +kernel
theorem dX12_setOwners_29 : decode cX12_setOwners 29 = .ok (.ifCond .eq 7, 3) := by decide +kernel
theorem dX12_setOwners_32 : decode cX12_setOwners 32 = .ok (.iconst 0, 1) := by decide +kernel
theorem dX12_setOwners_33 : decode cX12_setOwners 33 = .ok (.goto 4, 3) := by decide +kernel
theorem dX12_setOwners_36 : decode cX12_setOwners 36 = .ok (.iconst 2, 1) := by decide +kernel
theorem dX12_setOwners_37 : decode cX12_setOwners 37 = .ok (.invokevirtual 399, 3) := by decide +kernel
theorem dX12_setOwners_40 : decode cX12_setOwners 40 = .ok (.ifCond .ne 5, 3) := by decide +kernel
theorem dX12_setOwners_43 : decode cX12_setOwners 43 = .ok (.iconst 0, 1) := by decide +kernel
theorem dX12_setOwners_44 : decode cX12_setOwners 44 = .ok (.ireturn, 1) := by decide +kernel
theorem dX12_setOwners_45 : decode cX12_setOwners 45 = .ok (.aload_n 0, 1) := by decide +kernel
theorem dX12_setOwners_46 : decode cX12_setOwners 46 = .ok (.getfield 126, 3) := by decide +kernel
theorem dX12_setOwners_49 : decode cX12_setOwners 49 = .ok (.bipush 7, 2) := by decide +kernel
theorem dX12_setOwners_51 : decode cX12_setOwners 51 = .ok (.iload_n 1, 1) := by decide +kernel
theorem dX12_setOwners_52 : decode cX12_setOwners 52 = .ok (.imul, 1) := by decide +kernel
theorem dX12_setOwners_53 : decode cX12_setOwners 53 = .ok (.iload_n 2, 1) := by decide +kernel
theorem dX12_setOwners_54 : decode cX12_setOwners 54 = .ok (.iadd, 1) := by decide +kernel
theorem dX12_setOwners_55 : decode cX12_setOwners 55 = .ok (.iaload, 1) := by decide +kernel
theorem dX12_setOwners_56 : decode cX12_setOwners 56 = .ok (.istore 5, 2) := by decide +kernel
theorem dX12_setOwners_58 : decode cX12_setOwners 58 = .ok (.aload_n 0, 1) := by decide +kernel
theorem dX12_setOwners_59 : decode cX12_setOwners 59 = .ok (.getfield 126, 3) := by decide +kernel
theorem dX12_setOwners_62 : decode cX12_setOwners 62 = .ok (.bipush 7, 2) := by decide +kernel
theorem dX12_setOwners_64 : decode cX12_setOwners 64 = .ok (.iload_n 1, 1) := by decide +kernel
theorem dX12_setOwners_65 : decode cX12_setOwners 65 = .ok (.imul, 1) := by decide +kernel
theorem dX12_setOwners_66 : decode cX12_setOwners 66 = .ok (.iload_n 2, 1) := by decide +kernel
theorem dX12_setOwners_67 : decode cX12_setOwners 67 = .ok (.iadd, 1) := by decide +kernel
theorem dX12_setOwners_68 : decode cX12_setOwners 68 = .ok (.iload_n 3, 1) := by decide +kernel
theorem dX12_setOwners_69 : decode cX12_setOwners 69 = .ok (.iastore, 1) := by decide +kernel
theorem dX12_setOwners_70 : decode cX12_setOwners 70 = .ok (.aload_n 0, 1) := by decide +kernel
theorem dX12_setOwners_71 : decode cX12_setOwners 71 = .ok (.getfield 129, 3) := by decide +kernel
theorem dX12_setOwners_74 : decode cX12_setOwners 74 = .ok (.bipush 7, 2) := by decide +kernel
theorem dX12_setOwners_76 : decode cX12_setOwners 76 = .ok (.iload_n 1, 1) := by decide +kernel
theorem dX12_setOwners_77 : decode cX12_setOwners 77 = .ok (.imul, 1) := by decide +kernel
theorem dX12_setOwners_78 : decode cX12_setOwners 78 = .ok (.iload_n 2, 1) := by decide +kernel
theorem dX12_setOwners_79 : decode cX12_setOwners 79 = .ok (.iadd, 1) := by decide +kernel
theorem dX12_setOwners_80 : decode cX12_setOwners 80 = .ok (.iload 4, 2) := by decide +kernel
theorem dX12_setOwners_82 : decode cX12_setOwners 82 = .ok (.bastore, 1) := by decide +kernel
theorem dX12_setOwners_83 : decode cX12_setOwners 83 = .ok (.iload 5, 2) := by decide +kernel
theorem dX12_setOwners_85 : decode cX12_setOwners 85 = .ok (.ireturn, 1) := by decide +kernel
theorem dX12_setInclude_0 : decode cX12_setInclude 0 = .ok (.aload_n 0, 1) := by decide +kernel
theorem dX12_setInclude_1 : decode cX12_setInclude 1 = .ok (.iload_n 1, 1) := by decide +kernel
theorem dX12_setInclude_2 : decode cX12_setInclude 2 = .ok (.invokestatic 408, 3) := by decide +kernel
theorem dX12_setInclude_5 : decode cX12_setInclude 5 = .ok (.ifCond .eq 16, 3) := by decide +kernel
theorem dX12_setInclude_8 : decode cX12_setInclude 8 = .ok (.iload_n 2, 1) := by decide +kernel
theorem dX12_setInclude_9 : decode cX12_setInclude 9 = .ok (.iconst 0, 1) := by decide +kernel
theorem dX12_setInclude_10 : decode cX12_setInclude 10 = .ok (.iconst 1, 1) := by decide +kernel
theorem dX12_setInclude_11 : decode cX12_setInclude 11 = .ok (.invokestatic 192, 3) := by decide +kernel
theorem dX12_setInclude_14 : decode cX12_setInclude 14 = .ok (.ifCond .eq 7, 3) := by decide +kernel
theorem dX12_setInclude_17 : decode cX12_setInclude 17 = .ok (.iconst 0, 1) := by decide +kernel
theorem dX12_setInclude_18 : decode cX12_setInclude 18 = .ok (.goto 4, 3) := by decide +kernel
theorem dX12_setInclude_21 : decode cX12_setInclude 21 = .ok (.iconst 1, 1) := by decide +kernel
theorem dX12_setInclude_22 : decode cX12_setInclude 22 = .ok (.invokevirtual 399, 3) := by decide +kernel
theorem dX12_setInclude_25 : decode cX12_setInclude 25 = .ok (.ifCond .ne 5, 3) := by decide +kernel
theorem dX12_setInclude_28 : decode cX12_setInclude 28 = .ok (.iconst 0, 1) := by decide +kernel
theorem dX12_setInclude_29 : decode cX12_setInclude 29 = .ok (.ireturn, 1) := by decide +kernel
theorem dX12_setInclude_30 : decode cX12_setInclude 30 = .ok (.aload_n 0, 1) := by decide +kernel
theorem dX12_setInclude_31 : decode cX12_setInclude 31 = .ok (.getfield 132, 3) := by decide +kernel
theorem dX12_setInclude_34 : decode cX12_setInclude 34 = .ok (.iconst 2, 1) := by decide +kernel
theorem dX12_setInclude_35 : decode cX12_setInclude 35 = .ok (.iload_n 1, 1) := by decide +kernel
theorem dX12_setInclude_36 : decode cX12_setInclude 36 = .ok (.imul, 1) := by decide +kernel
theorem dX12_setInclude_37 : decode cX12_setInclude 37 = .ok (.iload_n 2, 1) := by decide +kernel
theorem dX12_setInclude_38 : decode cX12_setInclude 38 = .ok (.iadd, 1) := by decide +kernel
theorem dX12_setInclude_39 : decode cX12_setInclude 39 = .ok (.baload, 1) := by decide +kernel
theorem dX12_setInclude_40 : decode cX12_setInclude 40 = .ok (.istore 4, 2) := by decide +kernel
theorem dX12_setInclude_42 : decode cX12_setInclude 42 = .ok (.aload_n 0, 1) := by decide +kernel
theorem dX12_setInclude_43 : decode cX12_setInclude 43 = .ok (.getfield 132, 3) := by decide +kernel
theorem dX12_setInclude_46 : decode cX12_setInclude 46 = .ok (.iconst 2, 1) := by decide +kernel
theorem dX12_setInclude_47 : decode cX12_setInclude 47 = .ok (.iload_n 1, 1) := by decide +kernel
theorem dX12_setInclude_48 : decode cX12_setInclude 48 = .ok (.imul, 1) := by decide +kernel
theorem dX12_setInclude_49 : decode cX12_setInclude 49 = .ok (.iload_n 2, 1) := by decide +kernel
theorem dX12_setInclude_50 : decode cX12_setInclude 50 = .ok (.iadd, 1) := by decide +kernel
theorem dX12_setInclude_51 : decode cX12_setInclude 51 = .ok (.iload_n 3, 1) := by decide +kernel
theorem dX12_setInclude_52 : decode cX12_setInclude 52 = .ok (.bastore, 1) := by decide +kernel
theorem dX12_setInclude_53 : decode cX12_setInclude 53 = .ok (.iload 4, 2) := by decide +kernel
theorem dX12_setInclude_55 : decode cX12_setInclude 55 = .ok (.ireturn, 1) := by decide +kernel
theorem dX12_setLastResort_0 : decode cX12_setLastResort 0 = .ok (.aload_n 0, 1) := by decide +kernel
theorem dX12_setLastResort_1 : decode cX12_setLastResort 1 = .ok (.iload_n 1, 1) := by decide +kernel
theorem dX12_setLastResort_2 : decode cX12_setLastResort 2 = .ok (.invokestatic 415, 3) := by decide +kernel
theorem dX12_setLastResort_5 : decode cX12_setLastResort 5 = .ok (.ifCond .eq 7, 3) := by decide +kernel
theorem dX12_setLastResort_8 : decode cX12_setLastResort 8 = .ok (.iconst 0, 1) := by decide +kernel
theorem dX12_setLastResort_9 : decode cX12_setLastResort 9 = .ok (.goto 4, 3) := by decide +kernel
theorem dX12_setLastResort_12 : decode cX12_setLastResort 12 = .ok (.iconst 1, 1) := by decide +kernel
theorem dX12_setLastResort_13 : decode cX12_setLastResort 13 = .ok (.invokevirtual 399, 3) := by decide +kernel
theorem dX12_setLastResort_16 : decode cX12_setLastResort 16 = .ok (.ifCond .ne 5, 3) := by decide +kernel
theorem dX12_setLastResort_19 : decode cX12_setLastResort 19 = .ok (.iconst 0, 1) := by decide +kernel
theorem dX12_setLastResort_20 : decode cX12_setLastResort 20 = .ok (.ireturn, 1) := by decide +kernel
theorem dX12_setLastResort_21 : decode cX12_setLastResort 21 = .ok (.aload_n 0, 1) := by decide +kernel
theorem dX12_setLastResort_22 : decode cX12_setLastResort 22 = .ok (.getfield 283, 3) := by decide +kernel
theorem dX12_setLastResort_25 : decode cX12_setLastResort 25 = .ok (.istore_n 2, 1) := by decide +kernel
theorem dX12_setLastResort_26 : decode cX12_setLastResort 26 = .ok (.aload_n 0, 1) := by decide +kernel
theorem dX12_setLastResort_27 : decode cX12_setLastResort 27 = .ok (.iload_n 1, 1) := by decide +kernel
theorem dX12_setLastResort_28 : decode cX12_setLastResort 28 = .ok (.putfield 283, 3) := by decide +kernel
theorem dX12_setLastResort_31 : decode cX12_setLastResort 31 = .ok (.iload_n 2, 1) := by decide +kernel
theorem dX12_setLastResort_32 : decode cX12_setLastResort 32 = .ok (.ireturn, 1) := by decide +kernel
theorem dX12_owners_0 : decode cX12_owners 0 = .ok (.aload_n 0, 1) := by decide +kernel
theorem dX12_owners_1 : decode cX12_owners 1 = .ok (.iload_n 1, 1) := by decide +kernel
theorem dX12_owners_2 : decode cX12_owners 2 = .ok (.invokestatic 408, 3) := by decide +kernel
theorem dX12_owners_5 : decode cX12_owners 5 = .ok (.ifCond .eq 14, 3) := by decide +kernel
theorem dX12_owners_8 : decode cX12_owners 8 = .ok (.iload_n 2, 1) := by decide +kernel
theorem dX12_owners_9 : decode cX12_owners 9 = .ok (.invokestatic 405, 3) := by decide +kernel
theorem dX12_owners_12 : decode cX12_owners 12 = .ok (.ifCond .eq 7, 3) := by decide +kernel
theorem dX12_owners_15 : decode cX12_owners 15 = .ok (.iconst 0, 1) := by decide +kernel
theorem dX12_owners_16 : decode cX12_owners 16 = .ok (.goto 4, 3) := by decide +kernel
theorem dX12_owners_19 : decode cX12_owners 19 = .ok (.iconst 1, 1) := by decide +kernel
theorem dX12_owners_20 : decode cX12_owners 20 = .ok (.invokevirtual 399, 3) := by decide +kernel
theorem dX12_owners_23 : decode cX12_owners 23 = .ok (.ifCond .eq 12, 3) := by decide +kernel
theorem dX12_owners_26 : decode cX12_owners 26 = .ok (.aload_n 0, 1) := by decide +kernel
theorem dX12_owners_27 : decode cX12_owners 27 = .ok (.iload_n 1, 1) := by decide +kernel
theorem dX12_owners_28 : decode cX12_owners 28 = .ok (.iload_n 2, 1) := by decide +kernel
theorem dX12_owners_29 : decode cX12_owners 29 = .ok (.invokevirtual 289, 3) := by decide +kernel
theorem dX12_owners_32 : decode cX12_owners 32 = .ok (.goto 4, 3) := by decide +kernel
theorem dX12_owners_35 : decode cX12_owners 35 = .ok (.iconst 0, 1) := by decide +kernel
theorem dX12_owners_36 : decode cX12_owners 36 = .ok (.ireturn, 1) := by decide +kernel
theorem dX12_fewest_0 : decode cX12_fewest 0 = .ok (.aload_n 0, 1) := by decide +kernel
theorem dX12_fewest_1 : decode cX12_fewest 1 = .ok (.iload_n 1, 1) := by decide +kernel
theorem dX12_fewest_2 : decode cX12_fewest 2 = .ok (.invokevirtual 439, 3) := by decide +kernel
theorem dX12_fewest_5 : decode cX12_fewest 5 = .ok (.ifCond .eq 11, 3) := by decide +kernel
theorem dX12_fewest_8 : decode cX12_fewest 8 = .ok (.aload_n 0, 1) := by decide +kernel
theorem dX12_fewest_9 : decode cX12_fewest 9 = .ok (.iload_n 1, 1) := by decide +kernel
theorem dX12_fewest_10 : decode cX12_fewest 10 = .ok (.invokevirtual 483, 3) := by decide +kernel
theorem dX12_fewest_13 : decode cX12_fewest 13 = .ok (.goto 4, 3) := by decide +kernel
theorem dX12_fewest_16 : decode cX12_fewest 16 = .ok (.iconst 0, 1) := by decide +kernel
theorem dX12_fewest_17 : decode cX12_fewest 17 = .ok (.ireturn, 1) := by decide +kernel
theorem dX12_isLabel_0 : decode cX12_isLabel 0 = .ok (.iload_n 0, 1) := by decide +kernel
theorem dX12_isLabel_1 : decode cX12_isLabel 1 = .ok (.iconst 0, 1) := by decide +kernel
theorem dX12_isLabel_2 : decode cX12_isLabel 2 = .ok (.iconst 1, 1) := by decide +kernel
theorem dX12_isLabel_3 : decode cX12_isLabel 3 = .ok (.invokestatic 192, 3) := by decide +kernel
theorem dX12_isLabel_6 : decode cX12_isLabel 6 = .ok (.ireturn, 1) := by decide +kernel
theorem dX12_vote_0 : decode cX12_vote 0 = .ok (.aload_n 0, 1) := by decide +kernel
theorem dX12_vote_1 : decode cX12_vote 1 = .ok (.iload_n 1, 1) := by decide +kernel
theorem dX12_vote_2 : decode cX12_vote 2 = .ok (.invokestatic 415, 3) := by decide +kernel
theorem dX12_vote_5 : decode cX12_vote 5 = .ok (.ifCond .eq 16, 3) := by decide +kernel
theorem dX12_vote_8 : decode cX12_vote 8 = .ok (.aload_n 0, 1) := by decide +kernel
theorem dX12_vote_9 : decode cX12_vote 9 = .ok (.iload_n 2, 1) := by decide +kernel
theorem dX12_vote_10 : decode cX12_vote 10 = .ok (.iload_n 3, 1) := by decide +kernel
theorem dX12_vote_11 : decode cX12_vote 11 = .ok (.invokevirtual 402, 3) := by decide +kernel
theorem dX12_vote_14 : decode cX12_vote 14 = .ok (.ifCond .eq 7, 3) := by decide +kernel
theorem dX12_vote_17 : decode cX12_vote 17 = .ok (.iconst 0, 1) := by decide +kernel
theorem dX12_vote_18 : decode cX12_vote 18 = .ok (.goto 4, 3) := by decide +kernel
theorem dX12_vote_21 : decode cX12_vote 21 = .ok (.iconst 1, 1) := by decide +kernel
theorem dX12_vote_22 : decode cX12_vote 22 = .ok (.invokevirtual 399, 3) := by decide +kernel
theorem dX12_vote_25 : decode cX12_vote 25 = .ok (.ifCond .ne 5, 3) := by decide +kernel
theorem dX12_vote_28 : decode cX12_vote 28 = .ok (.iconst 0, 1) := by decide +kernel
theorem dX12_vote_29 : decode cX12_vote 29 = .ok (.ireturn, 1) := by decide +kernel
theorem dX12_vote_30 : decode cX12_vote 30 = .ok (.iload 4, 2) := by decide +kernel
theorem dX12_vote_32 : decode cX12_vote 32 = .ok (.invokestatic 486, 3) := by decide +kernel
theorem dX12_vote_35 : decode cX12_vote 35 = .ok (.ifCond .eq 36, 3) := by decide +kernel
theorem dX12_vote_38 : decode cX12_vote 38 = .ok (.iload 5, 2) := by decide +kernel
theorem dX12_vote_40 : decode cX12_vote 40 = .ok (.iload 4, 2) := by decide +kernel
theorem dX12_vote_42 : decode cX12_vote 42 = .ok (.ifCond .ne 8, 3) := by decide +kernel
theorem dX12_vote_45 : decode cX12_vote 45 = .ok (.bipush (-2), 2) := by decide +kernel
theorem dX12_vote_47 : decode cX12_vote 47 = .ok (.goto 4, 3) := by decide +kernel
theorem dX12_vote_50 : decode cX12_vote 50 = .ok (.iconst (-1), 1) := by decide +kernel
theorem dX12_vote_51 : decode cX12_vote 51 = .ok (.iload 4, 2) := by decide +kernel
theorem dX12_vote_53 : decode cX12_vote 53 = .ok (.ifCond .ne 7, 3) := by decide +kernel
theorem dX12_vote_56 : decode cX12_vote 56 = .ok (.iconst 2, 1) := by decide +kernel
theorem dX12_vote_57 : decode cX12_vote 57 = .ok (.goto 4, 3) := by decide +kernel
theorem dX12_vote_60 : decode cX12_vote 60 = .ok (.iconst 1, 1) := by decide +kernel
theorem dX12_vote_61 : decode cX12_vote 61 = .ok (.invokestatic 192, 3) := by decide +kernel
theorem dX12_vote_64 : decode cX12_vote 64 = .ok (.ifCond .eq 7, 3) := by decide +kernel
theorem dX12_vote_67 : decode cX12_vote 67 = .ok (.iconst 1, 1) := by decide +kernel
theorem dX12_vote_68 : decode cX12_vote 68 = .ok (.goto 4, 3) := by decide +kernel
theorem dX12_vote_71 : decode cX12_vote 71 = .ok (.iconst 0, 1) := by decide +kernel
theorem dX12_vote_72 : decode cX12_vote 72 = .ok (.istore 6, 2) := by decide +kernel
theorem dX12_vote_74 : decode cX12_vote 74 = .ok (.aload_n 0, 1) := by decide +kernel
theorem dX12_vote_75 : decode cX12_vote 75 = .ok (.iload 6, 2) := by decide +kernel
theorem dX12_vote_77 : decode cX12_vote 77 = .ok (.ifCond .ne 7, 3) := by decide +kernel
theorem dX12_vote_80 : decode cX12_vote 80 = .ok (.iconst 2, 1) := by decide +kernel
theorem dX12_vote_81 : decode cX12_vote 81 = .ok (.goto 17, 3) := by decide +kernel
theorem dX12_vote_84 : decode cX12_vote 84 = .ok (.aload_n 0, 1) := by decide +kernel
theorem dX12_vote_85 : decode cX12_vote 85 = .ok (.iload_n 1, 1) := by decide +kernel
theorem dX12_vote_86 : decode cX12_vote 86 = .ok (.iload_n 2, 1) := by decide +kernel
theorem dX12_vote_87 : decode cX12_vote 87 = .ok (.invokevirtual 430, 3) := by decide +kernel
theorem dX12_vote_90 : decode cX12_vote 90 = .ok (.ifCond .eq 7, 3) := by decide +kernel
theorem dX12_vote_93 : decode cX12_vote 93 = .ok (.iconst 3, 1) := by decide +kernel
theorem dX12_vote_94 : decode cX12_vote 94 = .ok (.goto 4, 3) := by decide +kernel
theorem dX12_vote_97 : decode cX12_vote 97 = .ok (.iconst 0, 1) := by decide +kernel
theorem dX12_vote_98 : decode cX12_vote 98 = .ok (.invokevirtual 399, 3) := by decide +kernel
theorem dX12_vote_101 : decode cX12_vote 101 = .ok (.ifCond .ne 5, 3) := by decide +kernel
theorem dX12_vote_104 : decode cX12_vote 104 = .ok (.iconst 0, 1) := by decide +kernel
theorem dX12_vote_105 : decode cX12_vote 105 = .ok (.ireturn, 1) := by decide +kernel
theorem dX12_vote_106 : decode cX12_vote 106 = .ok (.aload_n 0, 1) := by decide +kernel
theorem dX12_vote_107 : decode cX12_vote 107 = .ok (.getfield 75, 3) := by decide +kernel
theorem dX12_vote_110 : decode cX12_vote 110 = .ok (.bipush 12, 2) := by decide +kernel
theorem dX12_vote_112 : decode cX12_vote 112 = .ok (.aload_n 0, 1) := by decide +kernel
theorem dX12_vote_113 : decode cX12_vote 113 = .ok (.iload_n 2, 1) := by decide +kernel
theorem dX12_vote_114 : decode cX12_vote 114 = .ok (.iload_n 3, 1) := by decide +kernel
theorem dX12_vote_115 : decode cX12_vote 115 = .ok (.invokevirtual 244, 3) := by decide +kernel
theorem dX12_vote_118 : decode cX12_vote 118 = .ok (.imul, 1) := by decide +kernel
theorem dX12_vote_119 : decode cX12_vote 119 = .ok (.iconst 2, 1) := by decide +kernel
theorem dX12_vote_120 : decode cX12_vote 120 = .ok (.iload_n 1, 1) := by decide +kernel
theorem dX12_vote_121 : decode cX12_vote 121 = .ok (.imul, 1) := by decide +kernel
theorem dX12_vote_122 : decode cX12_vote 122 = .ok (.iadd, 1) := by decide +kernel
theorem dX12_vote_123 : decode cX12_vote 123 = .ok (.iload 4, 2) := by decide +kernel
theorem dX12_vote_125 : decode cX12_vote 125 = .ok (.iadd, 1) := by decide +kernel
theorem dX12_vote_126 : decode cX12_vote 126 = .ok (.iconst 3, 1) := by decide +kernel
theorem dX12_vote_127 : decode cX12_vote 127 = .ok (.iload 5, 2) := by decide +kernel
theorem dX12_vote_129 : decode cX12_vote 129 = .ok (.iadd, 1) := by decide +kernel
theorem dX12_vote_130 : decode cX12_vote 130 = .ok (.iastore, 1) := by decide +kernel
theorem dX12_vote_131 : decode cX12_vote 131 = .ok (.aload_n 0, 1) := by decide +kernel
theorem dX12_vote_132 : decode cX12_vote 132 = .ok (.iload_n 2, 1) := by decide +kernel
theorem dX12_vote_133 : decode cX12_vote 133 = .ok (.iload_n 1, 1) := by decide +kernel
theorem dX12_vote_134 : decode cX12_vote 134 = .ok (.invokevirtual 372, 3) := by decide +kernel
theorem dX12_vote_137 : decode cX12_vote 137 = .ok (.aload_n 0, 1) := by decide +kernel
theorem dX12_vote_138 : decode cX12_vote 138 = .ok (.iload_n 2, 1) := by decide +kernel
theorem dX12_vote_139 : decode cX12_vote 139 = .ok (.iload_n 1, 1) := by decide +kernel
theorem dX12_vote_140 : decode cX12_vote 140 = .ok (.iconst 1, 1) := by decide +kernel
theorem dX12_vote_141 : decode cX12_vote 141 = .ok (.invokevirtual 411, 3) := by decide +kernel
theorem dX12_vote_144 : decode cX12_vote 144 = .ok (.aload_n 0, 1) := by decide +kernel
theorem dX12_vote_145 : decode cX12_vote 145 = .ok (.iload_n 1, 1) := by decide +kernel
theorem dX12_vote_146 : decode cX12_vote 146 = .ok (.aload_n 0, 1) := by decide +kernel
theorem dX12_vote_147 : decode cX12_vote 147 = .ok (.iload_n 2, 1) := by decide +kernel
theorem dX12_vote_148 : decode cX12_vote 148 = .ok (.invokevirtual 247, 3) := by decide +kernel
theorem dX12_vote_151 : decode cX12_vote 151 = .ok (.iload 4, 2) := by decide +kernel
theorem dX12_vote_153 : decode cX12_vote 153 = .ok (.invokevirtual 263, 3) := by decide +kernel
theorem dX12_vote_156 : decode cX12_vote 156 = .ok (.ireturn, 1) := by decide +kernel
theorem dX12_worth_0 : decode cX12_worth 0 = .ok (.aload_n 0, 1) := by decide +kernel
theorem dX12_worth_1 : decode cX12_worth 1 = .ok (.iload_n 1, 1) := by decide +kernel
theorem dX12_worth_2 : decode cX12_worth 2 = .ok (.invokestatic 415, 3) := by decide +kernel
theorem dX12_worth_5 : decode cX12_worth 5 = .ok (.ifCond .eq 12, 3) := by decide +kernel
theorem dX12_worth_8 : decode cX12_worth 8 = .ok (.aload_n 0, 1) := by decide +kernel
theorem dX12_worth_9 : decode cX12_worth 9 = .ok (.iload_n 2, 1) := by decide +kernel
theorem dX12_worth_10 : decode cX12_worth 10 = .ok (.iload_n 3, 1) := by decide +kernel
theorem dX12_worth_11 : decode cX12_worth 11 = .ok (.invokevirtual 402, 3) := by decide +kernel
theorem dX12_worth_14 : decode cX12_worth 14 = .ok (.ifCond .ne 7, 3) := by decide +kernel
theorem dX12_worth_17 : decode cX12_worth 17 = .ok (.iconst 1, 1) := by decide +kernel
theorem dX12_worth_18 : decode cX12_worth 18 = .ok (.goto 16, 3) := by decide +kernel
theorem dX12_worth_21 : decode cX12_worth 21 = .ok (.iload 4, 2) := by decide +kernel
theorem dX12_worth_23 : decode cX12_worth 23 = .ok (.invokestatic 486, 3) := by decide +kernel
theorem dX12_worth_26 : decode cX12_worth 26 = .ok (.ifCond .eq 7, 3) := by decide +kernel
theorem dX12_worth_29 : decode cX12_worth 29 = .ok (.iconst 0, 1) := by decide +kernel
theorem dX12_worth_30 : decode cX12_worth 30 = .ok (.goto 4, 3) := by decide +kernel
theorem dX12_worth_33 : decode cX12_worth 33 = .ok (.iconst 2, 1) := by decide +kernel
theorem dX12_worth_34 : decode cX12_worth 34 = .ok (.invokevirtual 399, 3) := by decide +kernel
theorem dX12_worth_37 : decode cX12_worth 37 = .ok (.ifCond .ne 5, 3) := by decide +kernel
theorem dX12_worth_40 : decode cX12_worth 40 = .ok (.iconst 0, 1) := by decide +kernel
theorem dX12_worth_41 : decode cX12_worth 41 = .ok (.ireturn, 1) := by decide +kernel
theorem dX12_worth_42 : decode cX12_worth 42 = .ok (.aload_n 0, 1) := by decide +kernel
theorem dX12_worth_43 : decode cX12_worth 43 = .ok (.iload_n 1, 1) := by decide +kernel
theorem dX12_worth_44 : decode cX12_worth 44 = .ok (.aload_n 0, 1) := by decide +kernel
theorem dX12_worth_45 : decode cX12_worth 45 = .ok (.iload_n 2, 1) := by decide +kernel
theorem dX12_worth_46 : decode cX12_worth 46 = .ok (.iload_n 3, 1) := by decide +kernel
theorem dX12_worth_47 : decode cX12_worth 47 = .ok (.invokevirtual 244, 3) := by decide +kernel
theorem dX12_worth_50 : decode cX12_worth 50 = .ok (.iload 4, 2) := by decide +kernel
theorem dX12_worth_52 : decode cX12_worth 52 = .ok (.invokevirtual 263, 3) := by decide +kernel
theorem dX12_worth_55 : decode cX12_worth 55 = .ok (.ireturn, 1) := by decide +kernel
theorem dX12_setCopied_0 : decode cX12_setCopied 0 = .ok (.aload_n 0, 1) := by decide +kernel
theorem dX12_setCopied_1 : decode cX12_setCopied 1 = .ok (.iload_n 1, 1) := by decide +kernel
theorem dX12_setCopied_2 : decode cX12_setCopied 2 = .ok (.invokestatic 486, 3) := by decide +kernel
theorem dX12_setCopied_5 : decode cX12_setCopied 5 = .ok (.ifCond .eq 26, 3) := by decide +kernel
theorem dX12_setCopied_8 : decode cX12_setCopied 8 = .ok (.iload_n 2, 1) := by decide +kernel
theorem dX12_setCopied_9 : decode cX12_setCopied 9 = .ok (.iconst 0, 1) := by decide +kernel
theorem dX12_setCopied_10 : decode cX12_setCopied 10 = .ok (.iconst 2, 1) := by decide +kernel
theorem dX12_setCopied_11 : decode cX12_setCopied 11 = .ok (.invokestatic 192, 3) := by decide +kernel
theorem dX12_setCopied_14 : decode cX12_setCopied 14 = .ok (.ifCond .eq 17, 3) := by decide +kernel
theorem dX12_setCopied_17 : decode cX12_setCopied 17 = .ok (.iload_n 3, 1) := by decide +kernel
theorem dX12_setCopied_18 : decode cX12_setCopied 18 = .ok (.iconst 0, 1) := by decide +kernel
theorem dX12_setCopied_19 : decode cX12_setCopied 19 = .ok (.bipush 31, 2) := by decide +kernel
theorem dX12_setCopied_21 : decode cX12_setCopied 21 = .ok (.invokestatic 192, 3) := by decide +kernel
theorem dX12_setCopied_24 : decode cX12_setCopied 24 = .ok (.ifCond .eq 7, 3) := by decide +kernel
theorem dX12_setCopied_27 : decode cX12_setCopied 27 = .ok (.iconst 0, 1) := by decide +kernel
theorem dX12_setCopied_28 : decode cX12_setCopied 28 = .ok (.goto 4, 3) := by decide +kernel
theorem dX12_setCopied_31 : decode cX12_setCopied 31 = .ok (.iconst 1, 1) := by decide +kernel
theorem dX12_setCopied_32 : decode cX12_setCopied 32 = .ok (.invokevirtual 399, 3) := by decide +kernel
theorem dX12_setCopied_35 : decode cX12_setCopied 35 = .ok (.ifCond .ne 5, 3) := by decide +kernel
theorem dX12_setCopied_38 : decode cX12_setCopied 38 = .ok (.iconst 0, 1) := by decide +kernel
theorem dX12_setCopied_39 : decode cX12_setCopied 39 = .ok (.ireturn, 1) := by decide +kernel
theorem dX12_setCopied_40 : decode cX12_setCopied 40 = .ok (.aload_n 0, 1) := by decide +kernel
theorem dX12_setCopied_41 : decode cX12_setCopied 41 = .ok (.getfield 78, 3) := by decide +kernel
theorem dX12_setCopied_44 : decode cX12_setCopied 44 = .ok (.iconst 3, 1) := by decide +kernel
theorem dX12_setCopied_45 : decode cX12_setCopied 45 = .ok (.iload_n 1, 1) := by decide +kernel
theorem dX12_setCopied_46 : decode cX12_setCopied 46 = .ok (.imul, 1) := by decide +kernel
theorem dX12_setCopied_47 : decode cX12_setCopied 47 = .ok (.iload_n 2, 1) := by decide +kernel
theorem dX12_setCopied_48 : decode cX12_setCopied 48 = .ok (.iadd, 1) := by decide +kernel
theorem dX12_setCopied_49 : decode cX12_setCopied 49 = .ok (.iaload, 1) := by decide +kernel
theorem dX12_setCopied_50 : decode cX12_setCopied 50 = .ok (.istore 4, 2) := by decide +kernel
theorem dX12_setCopied_52 : decode cX12_setCopied 52 = .ok (.aload_n 0, 1) := by decide +kernel
theorem dX12_setCopied_53 : decode cX12_setCopied 53 = .ok (.getfield 78, 3) := by decide +kernel
theorem dX12_setCopied_56 : decode cX12_setCopied 56 = .ok (.iconst 3, 1) := by decide +kernel
theorem dX12_setCopied_57 : decode cX12_setCopied 57 = .ok (.iload_n 1, 1) := by decide +kernel
theorem dX12_setCopied_58 : decode cX12_setCopied 58 = .ok (.imul, 1) := by decide +kernel
theorem dX12_setCopied_59 : decode cX12_setCopied 59 = .ok (.iload_n 2, 1) := by decide +kernel
theorem dX12_setCopied_60 : decode cX12_setCopied 60 = .ok (.iadd, 1) := by decide +kernel
theorem dX12_setCopied_61 : decode cX12_setCopied 61 = .ok (.iload_n 3, 1) := by decide +kernel
theorem dX12_setCopied_62 : decode cX12_setCopied 62 = .ok (.iastore, 1) := by decide +kernel
theorem dX12_setCopied_63 : decode cX12_setCopied 63 = .ok (.iload 4, 2) := by decide +kernel
theorem dX12_setCopied_65 : decode cX12_setCopied 65 = .ok (.ireturn, 1) := by decide +kernel
theorem dX12_addRule_0 : decode cX12_addRule 0 = .ok (.aload_n 0, 1) := by decide +kernel
theorem dX12_addRule_1 : decode cX12_addRule 1 = .ok (.iload_n 1, 1) := by decide +kernel
theorem dX12_addRule_2 : decode cX12_addRule 2 = .ok (.bipush 8, 2) := by decide +kernel
theorem dX12_addRule_4 : decode cX12_addRule 4 = .ok (.bipush 15, 2) := by decide +kernel
theorem dX12_addRule_6 : decode cX12_addRule 6 = .ok (.invokestatic 192, 3) := by decide +kernel
theorem dX12_addRule_9 : decode cX12_addRule 9 = .ok (.ifCond .eq 29, 3) := by decide +kernel
theorem dX12_addRule_12 : decode cX12_addRule 12 = .ok (.iload_n 2, 1) := by decide +kernel
theorem dX12_addRule_13 : decode cX12_addRule 13 = .ok (.iconst 0, 1) := by decide +kernel
theorem dX12_addRule_14 : decode cX12_addRule 14 = .ok (.ldc_w 489, 3) := by decide +kernel
theorem dX12_addRule_17 : decode cX12_addRule 17 = .ok (.invokestatic 192, 3) := by decide +kernel
theorem dX12_addRule_20 : decode cX12_addRule 20 = .ok (.ifCond .eq 18, 3) := by decide +kernel
theorem dX12_addRule_23 : decode cX12_addRule 23 = .ok (.iload_n 3, 1) := by decide +kernel
theorem dX12_addRule_24 : decode cX12_addRule 24 = .ok (.iconst 0, 1) := by decide +kernel
theorem dX12_addRule_25 : decode cX12_addRule 25 = .ok (.ldc_w 489, 3) := by decide +kernel
theorem dX12_addRule_28 : decode cX12_addRule 28 = .ok (.invokestatic 192, 3) := by decide +kernel
theorem dX12_addRule_31 : decode cX12_addRule 31 = .ok (.ifCond .eq 7, 3) := by decide +kernel
theorem dX12_addRule_34 : decode cX12_addRule 34 = .ok (.iconst 0, 1) := by decide +kernel
theorem dX12_addRule_35 : decode cX12_addRule 35 = .ok (.goto 4, 3) := by decide +kernel
theorem dX12_addRule_38 : decode cX12_addRule 38 = .ok (.iconst 1, 1) := by decide +kernel
theorem dX12_addRule_39 : decode cX12_addRule 39 = .ok (.invokevirtual 399, 3) := by decide +kernel
theorem dX12_addRule_42 : decode cX12_addRule 42 = .ok (.ifCond .eq 24, 3) := by decide +kernel
theorem dX12_addRule_45 : decode cX12_addRule 45 = .ok (.aload_n 0, 1) := by decide +kernel
theorem dX12_addRule_46 : decode cX12_addRule 46 = .ok (.aload_n 0, 1) := by decide +kernel
theorem dX12_addRule_47 : decode cX12_addRule 47 = .ok (.getfield 135, 3) := by decide +kernel
theorem dX12_addRule_50 : decode cX12_addRule 50 = .ok (.bipush 20, 2) := by decide +kernel
theorem dX12_addRule_52 : decode cX12_addRule 52 = .ok (.if_icmp .ne 7, 3) := by decide +kernel
theorem dX12_addRule_55 : decode cX12_addRule 55 = .ok (.iconst 2, 1) := by decide +kernel
theorem dX12_addRule_56 : decode cX12_addRule 56 = .ok (.goto 4, 3) := by decide +kernel
theorem dX12_addRule_59 : decode cX12_addRule 59 = .ok (.iconst 0, 1) := by decide +kernel
theorem dX12_addRule_60 : decode cX12_addRule 60 = .ok (.invokevirtual 399, 3) := by decide +kernel
theorem dX12_addRule_63 : decode cX12_addRule 63 = .ok (.ifCond .ne 5, 3) := by decide +kernel
theorem dX12_addRule_66 : decode cX12_addRule 66 = .ok (.iconst 0, 1) := by decide +kernel
theorem dX12_addRule_67 : decode cX12_addRule 67 = .ok (.ireturn, 1) := by decide +kernel
theorem dX12_addRule_68 : decode cX12_addRule 68 = .ok (.aload_n 0, 1) := by decide +kernel
theorem dX12_addRule_69 : decode cX12_addRule 69 = .ok (.getfield 138, 3) := by decide +kernel
theorem dX12_addRule_72 : decode cX12_addRule 72 = .ok (.aload_n 0, 1) := by decide +kernel
theorem dX12_addRule_73 : decode cX12_addRule 73 = .ok (.getfield 135, 3) := by decide +kernel
theorem dX12_addRule_76 : decode cX12_addRule 76 = .ok (.iload_n 1, 1) := by decide +kernel
theorem dX12_addRule_77 : decode cX12_addRule 77 = .ok (.iastore, 1) := by decide +kernel
theorem dX12_addRule_78 : decode cX12_addRule 78 = .ok (.aload_n 0, 1) := by decide +kernel
theorem dX12_addRule_79 : decode cX12_addRule 79 = .ok (.getfield 141, 3) := by decide +kernel
theorem dX12_addRule_82 : decode cX12_addRule 82 = .ok (.aload_n 0, 1) := by decide +kernel
theorem dX12_addRule_83 : decode cX12_addRule 83 = .ok (.getfield 135, 3) := by decide +kernel
theorem dX12_addRule_86 : decode cX12_addRule 86 = .ok (.iload_n 2, 1) := by decide +kernel
theorem dX12_addRule_87 : decode cX12_addRule 87 = .ok (.iastore, 1) := by decide +kernel
theorem dX12_addRule_88 : decode cX12_addRule 88 = .ok (.aload_n 0, 1) := by decide +kernel
theorem dX12_addRule_89 : decode cX12_addRule 89 = .ok (.getfield 144, 3) := by decide +kernel
theorem dX12_addRule_92 : decode cX12_addRule 92 = .ok (.aload_n 0, 1) := by decide +kernel
theorem dX12_addRule_93 : decode cX12_addRule 93 = .ok (.getfield 135, 3) := by decide +kernel
theorem dX12_addRule_96 : decode cX12_addRule 96 = .ok (.iload_n 3, 1) := by decide +kernel
theorem dX12_addRule_97 : decode cX12_addRule 97 = .ok (.iastore, 1) := by decide +kernel
theorem dX12_addRule_98 : decode cX12_addRule 98 = .ok (.aload_n 0, 1) := by decide +kernel
theorem dX12_addRule_99 : decode cX12_addRule 99 = .ok (.getfield 147, 3) := by decide +kernel
theorem dX12_addRule_102 : decode cX12_addRule 102 = .ok (.aload_n 0, 1) := by decide +kernel
theorem dX12_addRule_103 : decode cX12_addRule 103 = .ok (.getfield 135, 3) := by decide +kernel
theorem dX12_addRule_106 : decode cX12_addRule 106 = .ok (.iconst 0, 1) := by decide +kernel
theorem dX12_addRule_107 : decode cX12_addRule 107 = .ok (.bastore, 1) := by decide +kernel
theorem dX12_addRule_108 : decode cX12_addRule 108 = .ok (.aload_n 0, 1) := by decide +kernel
theorem dX12_addRule_109 : decode cX12_addRule 109 = .ok (.dup, 1) := by decide +kernel
theorem dX12_addRule_110 : decode cX12_addRule 110 = .ok (.getfield 135, 3) := by decide +kernel
theorem dX12_addRule_113 : decode cX12_addRule 113 = .ok (.iconst 1, 1) := by decide +kernel
theorem dX12_addRule_114 : decode cX12_addRule 114 = .ok (.iadd, 1) := by decide +kernel
theorem dX12_addRule_115 : decode cX12_addRule 115 = .ok (.putfield 135, 3) := by decide +kernel
theorem dX12_addRule_118 : decode cX12_addRule 118 = .ok (.aload_n 0, 1) := by decide +kernel
theorem dX12_addRule_119 : decode cX12_addRule 119 = .ok (.invokevirtual 316, 3) := by decide +kernel
theorem dX12_addRule_122 : decode cX12_addRule 122 = .ok (.istore 4, 2) := by decide +kernel
theorem dX12_addRule_124 : decode cX12_addRule 124 = .ok (.aload_n 0, 1) := by decide +kernel
theorem dX12_addRule_125 : decode cX12_addRule 125 = .ok (.dup, 1) := by decide +kernel
theorem dX12_addRule_126 : decode cX12_addRule 126 = .ok (.getfield 135, 3) := by decide +kernel
theorem dX12_addRule_129 : decode cX12_addRule 129 = .ok (.iload 4, 2) := by decide +kernel
theorem dX12_addRule_131 : decode cX12_addRule 131 = .ok (.ifCond .eq 7, 3) := by decide +kernel
theorem dX12_addRule_134 : decode cX12_addRule 134 = .ok (.iconst 0, 1) := by decide +kernel
theorem dX12_addRule_135 : decode cX12_addRule 135 = .ok (.goto 4, 3) := by decide +kernel
theorem dX12_addRule_138 : decode cX12_addRule 138 = .ok (.iconst 1, 1) := by decide +kernel
theorem dX12_addRule_139 : decode cX12_addRule 139 = .ok (.isub, 1) := by decide +kernel
theorem dX12_addRule_140 : decode cX12_addRule 140 = .ok (.putfield 135, 3) := by decide +kernel
theorem dX12_addRule_143 : decode cX12_addRule 143 = .ok (.aload_n 0, 1) := by decide +kernel
theorem dX12_addRule_144 : decode cX12_addRule 144 = .ok (.iload 4, 2) := by decide +kernel
theorem dX12_addRule_146 : decode cX12_addRule 146 = .ok (.ifCond .eq 7, 3) := by decide +kernel
theorem dX12_addRule_149 : decode cX12_addRule 149 = .ok (.iconst 0, 1) := by decide +kernel
theorem dX12_addRule_150 : decode cX12_addRule 150 = .ok (.goto 4, 3) := by decide +kernel
theorem dX12_addRule_153 : decode cX12_addRule 153 = .ok (.iconst 2, 1) := by decide +kernel
theorem dX12_addRule_154 : decode cX12_addRule 154 = .ok (.invokevirtual 399, 3) := by decide +kernel
theorem dX12_addRule_157 : decode cX12_addRule 157 = .ok (.ifCond .eq 12, 3) := by decide +kernel
theorem dX12_addRule_160 : decode cX12_addRule 160 = .ok (.aload_n 0, 1) := by decide +kernel
theorem dX12_addRule_161 : decode cX12_addRule 161 = .ok (.getfield 135, 3) := by decide +kernel
theorem dX12_addRule_164 : decode cX12_addRule 164 = .ok (.iconst 1, 1) := by decide +kernel
theorem dX12_addRule_165 : decode cX12_addRule 165 = .ok (.isub, 1) := by decide +kernel
theorem dX12_addRule_166 : decode cX12_addRule 166 = .ok (.goto 4, 3) := by decide +kernel
theorem dX12_addRule_169 : decode cX12_addRule 169 = .ok (.iconst 0, 1) := by decide +kernel
theorem dX12_addRule_170 : decode cX12_addRule 170 = .ok (.ireturn, 1) := by decide +kernel
theorem dX12_dropRule_0 : decode cX12_dropRule 0 = .ok (.aload_n 0, 1) := by decide +kernel
theorem dX12_dropRule_1 : decode cX12_dropRule 1 = .ok (.iload_n 1, 1) := by decide +kernel
theorem dX12_dropRule_2 : decode cX12_dropRule 2 = .ok (.iconst 0, 1) := by decide +kernel
theorem dX12_dropRule_3 : decode cX12_dropRule 3 = .ok (.aload_n 0, 1) := by decide +kernel
theorem dX12_dropRule_4 : decode cX12_dropRule 4 = .ok (.getfield 135, 3) := by decide +kernel
theorem dX12_dropRule_7 : decode cX12_dropRule 7 = .ok (.iconst 1, 1) := by decide +kernel
theorem dX12_dropRule_8 : decode cX12_dropRule 8 = .ok (.isub, 1) := by decide +kernel
theorem dX12_dropRule_9 : decode cX12_dropRule 9 = .ok (.invokestatic 192, 3) := by decide +kernel
theorem dX12_dropRule_12 : decode cX12_dropRule 12 = .ok (.ifCond .eq 7, 3) := by decide +kernel
theorem dX12_dropRule_15 : decode cX12_dropRule 15 = .ok (.iconst 0, 1) := by decide +kernel
theorem dX12_dropRule_16 : decode cX12_dropRule 16 = .ok (.goto 4, 3) := by decide +kernel
theorem dX12_dropRule_19 : decode cX12_dropRule 19 = .ok (.iconst 1, 1) := by decide +kernel
theorem dX12_dropRule_20 : decode cX12_dropRule 20 = .ok (.invokevirtual 399, 3) := by decide +kernel
theorem dX12_dropRule_23 : decode cX12_dropRule 23 = .ok (.ifCond .eq 24, 3) := by decide +kernel
theorem dX12_dropRule_26 : decode cX12_dropRule 26 = .ok (.aload_n 0, 1) := by decide +kernel
theorem dX12_dropRule_27 : decode cX12_dropRule 27 = .ok (.aload_n 0, 1) := by decide +kernel
theorem dX12_dropRule_28 : decode cX12_dropRule 28 = .ok (.getfield 147, 3) := by decide +kernel
theorem dX12_dropRule_31 : decode cX12_dropRule 31 = .ok (.iload_n 1, 1) := by decide +kernel
theorem dX12_dropRule_32 : decode cX12_dropRule 32 = .ok (.baload, 1) := by decide +kernel
theorem dX12_dropRule_33 : decode cX12_dropRule 33 = .ok (.ifCond .eq 7, 3) := by decide +kernel
theorem dX12_dropRule_36 : decode cX12_dropRule 36 = .ok (.iconst 1, 1) := by decide +kernel
theorem dX12_dropRule_37 : decode cX12_dropRule 37 = .ok (.goto 4, 3) := by decide +kernel
theorem dX12_dropRule_40 : decode cX12_dropRule 40 = .ok (.iconst 0, 1) := by decide +kernel
theorem dX12_dropRule_41 : decode cX12_dropRule 41 = .ok (.invokevirtual 399, 3) := by decide +kernel
theorem dX12_dropRule_44 : decode cX12_dropRule 44 = .ok (.ifCond .ne 5, 3) := by decide +kernel
theorem dX12_dropRule_47 : decode cX12_dropRule 47 = .ok (.iconst 0, 1) := by decide +kernel
theorem dX12_dropRule_48 : decode cX12_dropRule 48 = .ok (.ireturn, 1) := by decide +kernel
theorem dX12_dropRule_49 : decode cX12_dropRule 49 = .ok (.aload_n 0, 1) := by decide +kernel
theorem dX12_dropRule_50 : decode cX12_dropRule 50 = .ok (.getfield 147, 3) := by decide +kernel
theorem dX12_dropRule_53 : decode cX12_dropRule 53 = .ok (.iload_n 1, 1) := by decide +kernel
theorem dX12_dropRule_54 : decode cX12_dropRule 54 = .ok (.iconst 1, 1) := by decide +kernel
theorem dX12_dropRule_55 : decode cX12_dropRule 55 = .ok (.bastore, 1) := by decide +kernel
theorem dX12_dropRule_56 : decode cX12_dropRule 56 = .ok (.aload_n 0, 1) := by decide +kernel
theorem dX12_dropRule_57 : decode cX12_dropRule 57 = .ok (.getfield 138, 3) := by decide +kernel
theorem dX12_dropRule_60 : decode cX12_dropRule 60 = .ok (.iload_n 1, 1) := by decide +kernel
theorem dX12_dropRule_61 : decode cX12_dropRule 61 = .ok (.iaload, 1) := by decide +kernel
theorem dX12_dropRule_62 : decode cX12_dropRule 62 = .ok (.ireturn, 1) := by decide +kernel
theorem dX12_statements_0 : decode cX12_statements 0 = .ok (.aload_n 0, 1) := by decide +kernel
theorem dX12_statements_1 : decode cX12_statements 1 = .ok (.iload_n 1, 1) := by decide +kernel
theorem dX12_statements_2 : decode cX12_statements 2 = .ok (.invokevirtual 439, 3) := by decide +kernel
theorem dX12_statements_5 : decode cX12_statements 5 = .ok (.ifCond .eq 16, 3) := by decide +kernel
theorem dX12_statements_8 : decode cX12_statements 8 = .ok (.aload_n 0, 1) := by decide +kernel
theorem dX12_statements_9 : decode cX12_statements 9 = .ok (.aload_n 0, 1) := by decide +kernel
theorem dX12_statements_10 : decode cX12_statements 10 = .ok (.iload_n 1, 1) := by decide +kernel
theorem dX12_statements_11 : decode cX12_statements 11 = .ok (.iconst 0, 1) := by decide +kernel
theorem dX12_statements_12 : decode cX12_statements 12 = .ok (.invokevirtual 320, 3) := by decide +kernel
theorem dX12_statements_15 : decode cX12_statements 15 = .ok (.invokevirtual 323, 3) := by decide +kernel
theorem dX12_statements_18 : decode cX12_statements 18 = .ok (.goto 4, 3) := by decide +kernel
theorem dX12_statements_21 : decode cX12_statements 21 = .ok (.iconst 0, 1) := by decide +kernel
theorem dX12_statements_22 : decode cX12_statements 22 = .ok (.ireturn, 1) := by decide +kernel
theorem dX12_lacks_0 : decode cX12_lacks 0 = .ok (.aload_n 0, 1) := by decide +kernel
theorem dX12_lacks_1 : decode cX12_lacks 1 = .ok (.iload_n 1, 1) := by decide +kernel
theorem dX12_lacks_2 : decode cX12_lacks 2 = .ok (.invokevirtual 439, 3) := by decide +kernel
theorem dX12_lacks_5 : decode cX12_lacks 5 = .ok (.ifCond .eq 11, 3) := by decide +kernel
theorem dX12_lacks_8 : decode cX12_lacks 8 = .ok (.aload_n 0, 1) := by decide +kernel
theorem dX12_lacks_9 : decode cX12_lacks 9 = .ok (.iload_n 1, 1) := by decide +kernel
theorem dX12_lacks_10 : decode cX12_lacks 10 = .ok (.invokevirtual 490, 3) := by decide +kernel
theorem dX12_lacks_13 : decode cX12_lacks 13 = .ok (.goto 4, 3) := by decide +kernel
theorem dX12_lacks_16 : decode cX12_lacks 16 = .ok (.iconst 0, 1) := by decide +kernel
theorem dX12_lacks_17 : decode cX12_lacks 17 = .ok (.ireturn, 1) := by decide +kernel
theorem dX12_setWay_0 : decode cX12_setWay 0 = .ok (.aload_n 0, 1) := by decide +kernel
theorem dX12_setWay_1 : decode cX12_setWay 1 = .ok (.iload_n 1, 1) := by decide +kernel
theorem dX12_setWay_2 : decode cX12_setWay 2 = .ok (.invokestatic 408, 3) := by decide +kernel
theorem dX12_setWay_5 : decode cX12_setWay 5 = .ok (.ifCond .ne 7, 3) := by decide +kernel
theorem dX12_setWay_8 : decode cX12_setWay 8 = .ok (.iconst 1, 1) := by decide +kernel
theorem dX12_setWay_9 : decode cX12_setWay 9 = .ok (.goto 17, 3) := by decide +kernel
theorem dX12_setWay_12 : decode cX12_setWay 12 = .ok (.iload_n 2, 1) := by decide +kernel
theorem dX12_setWay_13 : decode cX12_setWay 13 = .ok (.iconst 0, 1) := by decide +kernel
theorem dX12_setWay_14 : decode cX12_setWay 14 = .ok (.iconst 2, 1) := by decide +kernel
theorem dX12_setWay_15 : decode cX12_setWay 15 = .ok (.invokestatic 192, 3) := by decide +kernel
theorem dX12_setWay_18 : decode cX12_setWay 18 = .ok (.ifCond .eq 7, 3) := by decide +kernel
theorem dX12_setWay_21 : decode cX12_setWay 21 = .ok (.iconst 0, 1) := by decide +kernel
theorem dX12_setWay_22 : decode cX12_setWay 22 = .ok (.goto 4, 3) := by decide +kernel
theorem dX12_setWay_25 : decode cX12_setWay 25 = .ok (.iconst 2, 1) := by decide +kernel
theorem dX12_setWay_26 : decode cX12_setWay 26 = .ok (.invokevirtual 399, 3) := by decide +kernel
theorem dX12_setWay_29 : decode cX12_setWay 29 = .ok (.ifCond .ne 5, 3) := by decide +kernel
theorem dX12_setWay_32 : decode cX12_setWay 32 = .ok (.iconst 0, 1) := by decide +kernel
theorem dX12_setWay_33 : decode cX12_setWay 33 = .ok (.ireturn, 1) := by decide +kernel
theorem dX12_setWay_34 : decode cX12_setWay 34 = .ok (.aload_n 0, 1) := by decide +kernel
theorem dX12_setWay_35 : decode cX12_setWay 35 = .ok (.getfield 41, 3) := by decide +kernel
theorem dX12_setWay_38 : decode cX12_setWay 38 = .ok (.iload_n 1, 1) := by decide +kernel
theorem dX12_setWay_39 : decode cX12_setWay 39 = .ok (.iaload, 1) := by decide +kernel
theorem dX12_setWay_40 : decode cX12_setWay 40 = .ok (.istore_n 3, 1) := by decide +kernel
theorem dX12_setWay_41 : decode cX12_setWay 41 = .ok (.aload_n 0, 1) := by decide +kernel
theorem dX12_setWay_42 : decode cX12_setWay 42 = .ok (.getfield 41, 3) := by decide +kernel
theorem dX12_setWay_45 : decode cX12_setWay 45 = .ok (.iload_n 1, 1) := by decide +kernel
theorem dX12_setWay_46 : decode cX12_setWay 46 = .ok (.iload_n 2, 1) := by decide +kernel
theorem dX12_setWay_47 : decode cX12_setWay 47 = .ok (.iastore, 1) := by decide +kernel
theorem dX12_setWay_48 : decode cX12_setWay 48 = .ok (.iload_n 3, 1) := by decide +kernel
theorem dX12_setWay_49 : decode cX12_setWay 49 = .ok (.ireturn, 1) := by decide +kernel
theorem dX12_group_0 : decode cX12_group 0 = .ok (.aload_n 0, 1) := by decide +kernel
theorem dX12_group_1 : decode cX12_group 1 = .ok (.aload_n 0, 1) := by decide +kernel
theorem dX12_group_2 : decode cX12_group 2 = .ok (.iload_n 1, 1) := by decide +kernel
theorem dX12_group_3 : decode cX12_group 3 = .ok (.invokevirtual 199, 3) := by decide +kernel
theorem dX12_group_6 : decode cX12_group 6 = .ok (.ifCond .ne 7, 3) := by decide +kernel
theorem dX12_group_9 : decode cX12_group 9 = .ok (.iconst 1, 1) := by decide +kernel
theorem dX12_group_10 : decode cX12_group 10 = .ok (.goto 17, 3) := by decide +kernel
theorem dX12_group_13 : decode cX12_group 13 = .ok (.aload_n 0, 1) := by decide +kernel
theorem dX12_group_14 : decode cX12_group 14 = .ok (.getfield 47, 3) := by decide +kernel
theorem dX12_group_17 : decode cX12_group 17 = .ok (.iload_n 1, 1) := by decide +kernel
theorem dX12_group_18 : decode cX12_group 18 = .ok (.iaload, 1) := by decide +kernel
theorem dX12_group_19 : decode cX12_group 19 = .ok (.ifCond .ne 7, 3) := by decide +kernel
theorem dX12_group_22 : decode cX12_group 22 = .ok (.iconst 0, 1) := by decide +kernel
theorem dX12_group_23 : decode cX12_group 23 = .ok (.goto 4, 3) := by decide +kernel
theorem dX12_group_26 : decode cX12_group 26 = .ok (.iconst 2, 1) := by decide +kernel
theorem dX12_group_27 : decode cX12_group 27 = .ok (.invokevirtual 399, 3) := by decide +kernel
theorem dX12_group_30 : decode cX12_group 30 = .ok (.ifCond .eq 11, 3) := by decide +kernel
theorem dX12_group_33 : decode cX12_group 33 = .ok (.aload_n 0, 1) := by decide +kernel
theorem dX12_group_34 : decode cX12_group 34 = .ok (.iload_n 1, 1) := by decide +kernel
theorem dX12_group_35 : decode cX12_group 35 = .ok (.invokevirtual 375, 3) := by decide +kernel
theorem dX12_group_38 : decode cX12_group 38 = .ok (.goto 4, 3) := by decide +kernel
theorem dX12_group_41 : decode cX12_group 41 = .ok (.iconst 0, 1) := by decide +kernel
theorem dX12_group_42 : decode cX12_group 42 = .ok (.ireturn, 1) := by decide +kernel
theorem dX12_land_0 : decode cX12_land 0 = .ok (.aload_n 0, 1) := by decide +kernel
theorem dX12_land_1 : decode cX12_land 1 = .ok (.aload_n 0, 1) := by decide +kernel
theorem dX12_land_2 : decode cX12_land 2 = .ok (.iload_n 1, 1) := by decide +kernel
theorem dX12_land_3 : decode cX12_land 3 = .ok (.iload_n 2, 1) := by decide +kernel
theorem dX12_land_4 : decode cX12_land 4 = .ok (.invokevirtual 424, 3) := by decide +kernel
theorem dX12_land_7 : decode cX12_land 7 = .ok (.invokevirtual 399, 3) := by decide +kernel
theorem dX12_land_10 : decode cX12_land 10 = .ok (.ifCond .eq 24, 3) := by decide +kernel
theorem dX12_land_13 : decode cX12_land 13 = .ok (.aload_n 0, 1) := by decide +kernel
theorem dX12_land_14 : decode cX12_land 14 = .ok (.aload_n 0, 1) := by decide +kernel
theorem dX12_land_15 : decode cX12_land 15 = .ok (.iload_n 1, 1) := by decide +kernel
theorem dX12_land_16 : decode cX12_land 16 = .ok (.iload_n 2, 1) := by decide +kernel
theorem dX12_land_17 : decode cX12_land 17 = .ok (.invokevirtual 430, 3) := by decide +kernel
theorem dX12_land_20 : decode cX12_land 20 = .ok (.ifCond .eq 7, 3) := by decide +kernel
theorem dX12_land_23 : decode cX12_land 23 = .ok (.iconst 2, 1) := by decide +kernel
theorem dX12_land_24 : decode cX12_land 24 = .ok (.goto 4, 3) := by decide +kernel
theorem dX12_land_27 : decode cX12_land 27 = .ok (.iconst 0, 1) := by decide +kernel
theorem dX12_land_28 : decode cX12_land 28 = .ok (.invokevirtual 399, 3) := by decide +kernel
theorem dX12_land_31 : decode cX12_land 31 = .ok (.ifCond .ne 5, 3) := by decide +kernel
theorem dX12_land_34 : decode cX12_land 34 = .ok (.iconst 0, 1) := by decide +kernel
theorem dX12_land_35 : decode cX12_land 35 = .ok (.ireturn, 1) := by decide +kernel
theorem dX12_land_36 : decode cX12_land 36 = .ok (.aload_n 0, 1) := by decide +kernel
theorem dX12_land_37 : decode cX12_land 37 = .ok (.iload_n 2, 1) := by decide +kernel
theorem dX12_land_38 : decode cX12_land 38 = .ok (.iload_n 1, 1) := by decide +kernel
theorem dX12_land_39 : decode cX12_land 39 = .ok (.invokevirtual 493, 3) := by decide +kernel
theorem dX12_land_42 : decode cX12_land 42 = .ok (.ireturn, 1) := by decide +kernel
theorem dX12_addReviewer_0 : decode cX12_addReviewer 0 = .ok (.aload_n 0, 1) := by decide +kernel
theorem dX12_addReviewer_1 : decode cX12_addReviewer 1 = .ok (.aload_n 0, 1) := by decide +kernel
theorem dX12_addReviewer_2 : decode cX12_addReviewer 2 = .ok (.iload_n 1, 1) := by decide +kernel
theorem dX12_addReviewer_3 : decode cX12_addReviewer 3 = .ok (.iload_n 2, 1) := by decide +kernel
theorem dX12_addReviewer_4 : decode cX12_addReviewer 4 = .ok (.invokevirtual 424, 3) := by decide +kernel
theorem dX12_addReviewer_7 : decode cX12_addReviewer 7 = .ok (.invokevirtual 399, 3) := by decide +kernel
theorem dX12_addReviewer_10 : decode cX12_addReviewer 10 = .ok (.ifCond .eq 34, 3) := by decide +kernel
theorem dX12_addReviewer_13 : decode cX12_addReviewer 13 = .ok (.aload_n 0, 1) := by decide +kernel
theorem dX12_addReviewer_14 : decode cX12_addReviewer 14 = .ok (.aload_n 0, 1) := by decide +kernel
theorem dX12_addReviewer_15 : decode cX12_addReviewer 15 = .ok (.getfield 47, 3) := by decide +kernel
theorem dX12_addReviewer_18 : decode cX12_addReviewer 18 = .ok (.iload_n 2, 1) := by decide +kernel
theorem dX12_addReviewer_19 : decode cX12_addReviewer 19 = .ok (.iaload, 1) := by decide +kernel
theorem dX12_addReviewer_20 : decode cX12_addReviewer 20 = .ok (.ifCond .ne 13, 3) := by decide +kernel
theorem dX12_addReviewer_23 : decode cX12_addReviewer 23 = .ok (.aload_n 0, 1) := by decide +kernel
theorem dX12_addReviewer_24 : decode cX12_addReviewer 24 = .ok (.getfield 44, 3) := by decide +kernel
theorem dX12_addReviewer_27 : decode cX12_addReviewer 27 = .ok (.iload_n 2, 1) := by decide +kernel
theorem dX12_addReviewer_28 : decode cX12_addReviewer 28 = .ok (.iaload, 1) := by decide +kernel
theorem dX12_addReviewer_29 : decode cX12_addReviewer 29 = .ok (.iload_n 1, 1) := by decide +kernel
theorem dX12_addReviewer_30 : decode cX12_addReviewer 30 = .ok (.if_icmp .ne 7, 3) := by decide +kernel
theorem dX12_addReviewer_33 : decode cX12_addReviewer 33 = .ok (.iconst 2, 1) := by decide +kernel
theorem dX12_addReviewer_34 : decode cX12_addReviewer 34 = .ok (.goto 4, 3) := by decide +kernel
theorem dX12_addReviewer_37 : decode cX12_addReviewer 37 = .ok (.iconst 0, 1) := by decide +kernel
theorem dX12_addReviewer_38 : decode cX12_addReviewer 38 = .ok (.invokevirtual 399, 3) := by decide +kernel
theorem dX12_addReviewer_41 : decode cX12_addReviewer 41 = .ok (.ifCond .ne 5, 3) := by decide +kernel
theorem dX12_addReviewer_44 : decode cX12_addReviewer 44 = .ok (.iconst 0, 1) := by decide +kernel
theorem dX12_addReviewer_45 : decode cX12_addReviewer 45 = .ok (.ireturn, 1) := by decide +kernel
theorem dX12_addReviewer_46 : decode cX12_addReviewer 46 = .ok (.aload_n 0, 1) := by decide +kernel
theorem dX12_addReviewer_47 : decode cX12_addReviewer 47 = .ok (.iload_n 2, 1) := by decide +kernel
theorem dX12_addReviewer_48 : decode cX12_addReviewer 48 = .ok (.invokevirtual 254, 3) := by decide +kernel
theorem dX12_addReviewer_51 : decode cX12_addReviewer 51 = .ok (.iload_n 1, 1) := by decide +kernel
theorem dX12_addReviewer_52 : decode cX12_addReviewer 52 = .ok (.invokestatic 329, 3) := by decide +kernel
theorem dX12_addReviewer_55 : decode cX12_addReviewer 55 = .ok (.istore_n 3, 1) := by decide +kernel
theorem dX12_addReviewer_56 : decode cX12_addReviewer 56 = .ok (.aload_n 0, 1) := by decide +kernel
theorem dX12_addReviewer_57 : decode cX12_addReviewer 57 = .ok (.getfield 66, 3) := by decide +kernel
theorem dX12_addReviewer_60 : decode cX12_addReviewer 60 = .ok (.iload_n 2, 1) := by decide +kernel
theorem dX12_addReviewer_61 : decode cX12_addReviewer 61 = .ok (.dup2, 1) := by decide +kernel
theorem dX12_addReviewer_62 : decode cX12_addReviewer 62 = .ok (.iaload, 1) := by decide +kernel
theorem dX12_addReviewer_63 : decode cX12_addReviewer 63 = .ok (.iconst 1, 1) := by decide +kernel
theorem dX12_addReviewer_64 : decode cX12_addReviewer 64 = .ok (.iload_n 1, 1) := by decide +kernel
theorem dX12_addReviewer_65 : decode cX12_addReviewer 65 = .ok (.ishl, 1) := by decide +kernel
theorem dX12_addReviewer_66 : decode cX12_addReviewer 66 = .ok (.ior, 1) := by decide +kernel
theorem dX12_addReviewer_67 : decode cX12_addReviewer 67 = .ok (.iastore, 1) := by decide +kernel
theorem dX12_addReviewer_68 : decode cX12_addReviewer 68 = .ok (.aload_n 0, 1) := by decide +kernel
theorem dX12_addReviewer_69 : decode cX12_addReviewer 69 = .ok (.iload_n 2, 1) := by decide +kernel
theorem dX12_addReviewer_70 : decode cX12_addReviewer 70 = .ok (.iconst 1, 1) := by decide +kernel
theorem dX12_addReviewer_71 : decode cX12_addReviewer 71 = .ok (.iload_n 1, 1) := by decide +kernel
theorem dX12_addReviewer_72 : decode cX12_addReviewer 72 = .ok (.ishl, 1) := by decide +kernel
theorem dX12_addReviewer_73 : decode cX12_addReviewer 73 = .ok (.invokevirtual 266, 3) := by decide +kernel
theorem dX12_addReviewer_76 : decode cX12_addReviewer 76 = .ok (.iload_n 3, 1) := by decide +kernel
theorem dX12_addReviewer_77 : decode cX12_addReviewer 77 = .ok (.ifCond .ne 7, 3) := by decide +kernel
theorem dX12_addReviewer_80 : decode cX12_addReviewer 80 = .ok (.iconst 1, 1) := by decide +kernel
theorem dX12_addReviewer_81 : decode cX12_addReviewer 81 = .ok (.goto 4, 3) := by decide +kernel
theorem dX12_addReviewer_84 : decode cX12_addReviewer 84 = .ok (.iconst 0, 1) := by decide +kernel
theorem dX12_addReviewer_85 : decode cX12_addReviewer 85 = .ok (.ireturn, 1) := by decide +kernel
theorem dX12_reviewers_0 : decode cX12_reviewers 0 = .ok (.aload_n 0, 1) := by decide +kernel
theorem dX12_reviewers_1 : decode cX12_reviewers 1 = .ok (.iload_n 1, 1) := by decide +kernel
theorem dX12_reviewers_2 : decode cX12_reviewers 2 = .ok (.invokevirtual 439, 3) := by decide +kernel
theorem dX12_reviewers_5 : decode cX12_reviewers 5 = .ok (.ifCond .eq 11, 3) := by decide +kernel
theorem dX12_reviewers_8 : decode cX12_reviewers 8 = .ok (.aload_n 0, 1) := by decide +kernel
theorem dX12_reviewers_9 : decode cX12_reviewers 9 = .ok (.iload_n 1, 1) := by decide +kernel
theorem dX12_reviewers_10 : decode cX12_reviewers 10 = .ok (.invokevirtual 254, 3) := by decide +kernel
theorem dX12_reviewers_13 : decode cX12_reviewers 13 = .ok (.goto 4, 3) := by decide +kernel
theorem dX12_reviewers_16 : decode cX12_reviewers 16 = .ok (.iconst 0, 1) := by decide +kernel
theorem dX12_reviewers_17 : decode cX12_reviewers 17 = .ok (.ireturn, 1) := by decide +kernel
theorem dX12_whoseTurn_0 : decode cX12_whoseTurn 0 = .ok (.aload_n 0, 1) := by decide +kernel
theorem dX12_whoseTurn_1 : decode cX12_whoseTurn 1 = .ok (.iload_n 1, 1) := by decide +kernel
theorem dX12_whoseTurn_2 : decode cX12_whoseTurn 2 = .ok (.invokevirtual 439, 3) := by decide +kernel
theorem dX12_whoseTurn_5 : decode cX12_whoseTurn 5 = .ok (.ifCond .eq 12, 3) := by decide +kernel
theorem dX12_whoseTurn_8 : decode cX12_whoseTurn 8 = .ok (.aload_n 0, 1) := by decide +kernel
theorem dX12_whoseTurn_9 : decode cX12_whoseTurn 9 = .ok (.getfield 69, 3) := by decide +kernel
theorem dX12_whoseTurn_12 : decode cX12_whoseTurn 12 = .ok (.iload_n 1, 1) := by decide +kernel
theorem dX12_whoseTurn_13 : decode cX12_whoseTurn 13 = .ok (.iaload, 1) := by decide +kernel
theorem dX12_whoseTurn_14 : decode cX12_whoseTurn 14 = .ok (.goto 4, 3) := by decide +kernel
theorem dX12_whoseTurn_17 : decode cX12_whoseTurn 17 = .ok (.iconst 0, 1) := by decide +kernel
theorem dX12_whoseTurn_18 : decode cX12_whoseTurn 18 = .ok (.ireturn, 1) := by decide +kernel
theorem dX12_watch_0 : decode cX12_watch 0 = .ok (.aload_n 0, 1) := by decide +kernel
theorem dX12_watch_1 : decode cX12_watch 1 = .ok (.iload_n 1, 1) := by decide +kernel
theorem dX12_watch_2 : decode cX12_watch 2 = .ok (.invokestatic 415, 3) := by decide +kernel
theorem dX12_watch_5 : decode cX12_watch 5 = .ok (.ifCond .eq 14, 3) := by decide +kernel
theorem dX12_watch_8 : decode cX12_watch 8 = .ok (.iload_n 2, 1) := by decide +kernel
theorem dX12_watch_9 : decode cX12_watch 9 = .ok (.invokestatic 408, 3) := by decide +kernel
theorem dX12_watch_12 : decode cX12_watch 12 = .ok (.ifCond .eq 7, 3) := by decide +kernel
theorem dX12_watch_15 : decode cX12_watch 15 = .ok (.iconst 0, 1) := by decide +kernel
theorem dX12_watch_16 : decode cX12_watch 16 = .ok (.goto 4, 3) := by decide +kernel
theorem dX12_watch_19 : decode cX12_watch 19 = .ok (.iconst 1, 1) := by decide +kernel
theorem dX12_watch_20 : decode cX12_watch 20 = .ok (.invokevirtual 399, 3) := by decide +kernel
theorem dX12_watch_23 : decode cX12_watch 23 = .ok (.ifCond .ne 5, 3) := by decide +kernel
theorem dX12_watch_26 : decode cX12_watch 26 = .ok (.iconst 0, 1) := by decide +kernel
theorem dX12_watch_27 : decode cX12_watch 27 = .ok (.ireturn, 1) := by decide +kernel
theorem dX12_watch_28 : decode cX12_watch 28 = .ok (.aload_n 0, 1) := by decide +kernel
theorem dX12_watch_29 : decode cX12_watch 29 = .ok (.getfield 150, 3) := by decide +kernel
theorem dX12_watch_32 : decode cX12_watch 32 = .ok (.iload_n 2, 1) := by decide +kernel
theorem dX12_watch_33 : decode cX12_watch 33 = .ok (.iaload, 1) := by decide +kernel
theorem dX12_watch_34 : decode cX12_watch 34 = .ok (.iload_n 1, 1) := by decide +kernel
theorem dX12_watch_35 : decode cX12_watch 35 = .ok (.invokestatic 329, 3) := by decide +kernel
theorem dX12_watch_38 : decode cX12_watch 38 = .ok (.istore 4, 2) := by decide +kernel
theorem dX12_watch_40 : decode cX12_watch 40 = .ok (.aload_n 0, 1) := by decide +kernel
theorem dX12_watch_41 : decode cX12_watch 41 = .ok (.getfield 150, 3) := by decide +kernel
theorem dX12_watch_44 : decode cX12_watch 44 = .ok (.iload_n 2, 1) := by decide +kernel
theorem dX12_watch_45 : decode cX12_watch 45 = .ok (.iload_n 3, 1) := by decide +kernel
theorem dX12_watch_46 : decode cX12_watch 46 = .ok (.ifCond .eq 16, 3) := by decide +kernel
theorem dX12_watch_49 : decode cX12_watch 49 = .ok (.aload_n 0, 1) := by decide +kernel
theorem dX12_watch_50 : decode cX12_watch 50 = .ok (.getfield 150, 3) := by decide +kernel
theorem dX12_watch_53 : decode cX12_watch 53 = .ok (.iload_n 2, 1) := by decide +kernel
theorem dX12_watch_54 : decode cX12_watch 54 = .ok (.iaload, 1) := by decide +kernel
theorem dX12_watch_55 : decode cX12_watch 55 = .ok (.iconst 1, 1) := by decide +kernel
theorem dX12_watch_56 : decode cX12_watch 56 = .ok (.iload_n 1, 1) := by decide +kernel
theorem dX12_watch_57 : decode cX12_watch 57 = .ok (.ishl, 1) := by decide +kernel
theorem dX12_watch_58 : decode cX12_watch 58 = .ok (.ior, 1) := by decide +kernel
theorem dX12_watch_59 : decode cX12_watch 59 = .ok (.goto 15, 3) := by decide +kernel
theorem dX12_watch_62 : decode cX12_watch 62 = .ok (.aload_n 0, 1) := by decide +kernel
theorem dX12_watch_63 : decode cX12_watch 63 = .ok (.getfield 150, 3) := by decide +kernel
theorem dX12_watch_66 : decode cX12_watch 66 = .ok (.iload_n 2, 1) := by decide +kernel
theorem dX12_watch_67 : decode cX12_watch 67 = .ok (.iaload, 1) := by decide +kernel
theorem dX12_watch_68 : decode cX12_watch 68 = .ok (.iconst 1, 1) := by decide +kernel
theorem dX12_watch_69 : decode cX12_watch 69 = .ok (.iload_n 1, 1) := by decide +kernel
theorem dX12_watch_70 : decode cX12_watch 70 = .ok (.ishl, 1) := by decide +kernel
theorem dX12_watch_71 : decode cX12_watch 71 = .ok (.iconst (-1), 1) := by decide +kernel
theorem dX12_watch_72 : decode cX12_watch 72 = .ok (.ixor, 1) := by decide +kernel
theorem dX12_watch_73 : decode cX12_watch 73 = .ok (.iand, 1) := by decide +kernel
theorem dX12_watch_74 : decode cX12_watch 74 = .ok (.iastore, 1) := by decide +kernel
theorem dX12_watch_75 : decode cX12_watch 75 = .ok (.iload 4, 2) := by decide +kernel
theorem dX12_watch_77 : decode cX12_watch 77 = .ok (.ireturn, 1) := by decide +kernel
theorem dX12_mails_0 : decode cX12_mails 0 = .ok (.aload_n 0, 1) := by decide +kernel
theorem dX12_mails_1 : decode cX12_mails 1 = .ok (.iload_n 1, 1) := by decide +kernel
theorem dX12_mails_2 : decode cX12_mails 2 = .ok (.invokestatic 415, 3) := by decide +kernel
theorem dX12_mails_5 : decode cX12_mails 5 = .ok (.ifCond .eq 7, 3) := by decide +kernel
theorem dX12_mails_8 : decode cX12_mails 8 = .ok (.iconst 0, 1) := by decide +kernel
theorem dX12_mails_9 : decode cX12_mails 9 = .ok (.goto 4, 3) := by decide +kernel
theorem dX12_mails_12 : decode cX12_mails 12 = .ok (.iconst 1, 1) := by decide +kernel
theorem dX12_mails_13 : decode cX12_mails 13 = .ok (.invokevirtual 399, 3) := by decide +kernel
theorem dX12_mails_16 : decode cX12_mails 16 = .ok (.ifCond .eq 12, 3) := by decide +kernel
theorem dX12_mails_19 : decode cX12_mails 19 = .ok (.aload_n 0, 1) := by decide +kernel
theorem dX12_mails_20 : decode cX12_mails 20 = .ok (.getfield 153, 3) := by decide +kernel
theorem dX12_mails_23 : decode cX12_mails 23 = .ok (.iload_n 1, 1) := by decide +kernel
theorem dX12_mails_24 : decode cX12_mails 24 = .ok (.iaload, 1) := by decide +kernel
theorem dX12_mails_25 : decode cX12_mails 25 = .ok (.goto 4, 3) := by decide +kernel
theorem dX12_mails_28 : decode cX12_mails 28 = .ok (.iconst 0, 1) := by decide +kernel
theorem dX12_mails_29 : decode cX12_mails 29 = .ok (.ireturn, 1) := by decide +kernel
theorem dX12_advance_0 : decode cX12_advance 0 = .ok (.aload_n 0, 1) := by decide +kernel
theorem dX12_advance_1 : decode cX12_advance 1 = .ok (.iload_n 1, 1) := by decide +kernel
theorem dX12_advance_2 : decode cX12_advance 2 = .ok (.iconst 1, 1) := by decide +kernel
theorem dX12_advance_3 : decode cX12_advance 3 = .ok (.bipush 100, 2) := by decide +kernel
theorem dX12_advance_5 : decode cX12_advance 5 = .ok (.invokestatic 192, 3) := by decide +kernel
theorem dX12_advance_8 : decode cX12_advance 8 = .ok (.ifCond .ne 7, 3) := by decide +kernel
theorem dX12_advance_11 : decode cX12_advance 11 = .ok (.iconst 1, 1) := by decide +kernel
theorem dX12_advance_12 : decode cX12_advance 12 = .ok (.goto 20, 3) := by decide +kernel
theorem dX12_advance_15 : decode cX12_advance 15 = .ok (.aload_n 0, 1) := by decide +kernel
theorem dX12_advance_16 : decode cX12_advance 16 = .ok (.getfield 260, 3) := by decide +kernel
theorem dX12_advance_19 : decode cX12_advance 19 = .ok (.iload_n 1, 1) := by decide +kernel
theorem dX12_advance_20 : decode cX12_advance 20 = .ok (.iadd, 1) := by decide +kernel
theorem dX12_advance_21 : decode cX12_advance 21 = .ok (.sipush 10000, 3) := by decide +kernel
theorem dX12_advance_24 : decode cX12_advance 24 = .ok (.if_icmp .le 7, 3) := by decide +kernel
theorem dX12_advance_27 : decode cX12_advance 27 = .ok (.iconst 2, 1) := by decide +kernel
theorem dX12_advance_28 : decode cX12_advance 28 = .ok (.goto 4, 3) := by decide +kernel
theorem dX12_advance_31 : decode cX12_advance 31 = .ok (.iconst 0, 1) := by decide +kernel
theorem dX12_advance_32 : decode cX12_advance 32 = .ok (.invokevirtual 399, 3) := by decide +kernel
theorem dX12_advance_35 : decode cX12_advance 35 = .ok (.ifCond .ne 5, 3) := by decide +kernel
theorem dX12_advance_38 : decode cX12_advance 38 = .ok (.iconst 0, 1) := by decide +kernel
theorem dX12_advance_39 : decode cX12_advance 39 = .ok (.ireturn, 1) := by decide +kernel
theorem dX12_advance_40 : decode cX12_advance 40 = .ok (.iconst 0, 1) := by decide +kernel
theorem dX12_advance_41 : decode cX12_advance 41 = .ok (.istore_n 2, 1) := by decide +kernel
theorem dX12_advance_42 : decode cX12_advance 42 = .ok (.iconst 0, 1) := by decide +kernel
theorem dX12_advance_43 : decode cX12_advance 43 = .ok (.istore_n 3, 1) := by decide +kernel
theorem dX12_advance_44 : decode cX12_advance 44 = .ok (.iload_n 3, 1) := by decide +kernel
theorem dX12_advance_45 : decode cX12_advance 45 = .ok (.iload_n 1, 1) := by decide +kernel
theorem dX12_advance_46 : decode cX12_advance 46 = .ok (.if_icmp .ge 74, 3) := by decide +kernel
theorem dX12_advance_49 : decode cX12_advance 49 = .ok (.aload_n 0, 1) := by decide +kernel
theorem dX12_advance_50 : decode cX12_advance 50 = .ok (.dup, 1) := by decide +kernel
theorem dX12_advance_51 : decode cX12_advance 51 = .ok (.getfield 260, 3) := by decide +kernel
theorem dX12_advance_54 : decode cX12_advance 54 = .ok (.iconst 1, 1) := by decide +kernel
theorem dX12_advance_55 : decode cX12_advance 55 = .ok (.iadd, 1) := by decide +kernel
theorem dX12_advance_56 : decode cX12_advance 56 = .ok (.putfield 260, 3) := by decide +kernel
theorem dX12_advance_59 : decode cX12_advance 59 = .ok (.iconst 0, 1) := by decide +kernel
theorem dX12_advance_60 : decode cX12_advance 60 = .ok (.istore 4, 2) := by decide +kernel
theorem dX12_advance_62 : decode cX12_advance 62 = .ok (.iload 4, 2) := by decide +kernel
theorem dX12_advance_64 : decode cX12_advance 64 = .ok (.aload_n 0, 1) := by decide +kernel
theorem dX12_advance_65 : decode cX12_advance 65 = .ok (.getfield 196, 3) := by decide +kernel
theorem dX12_advance_68 : decode cX12_advance 68 = .ok (.if_icmp .ge 46, 3) := by decide +kernel
theorem dX12_advance_71 : decode cX12_advance 71 = .ok (.aload_n 0, 1) := by decide +kernel
theorem dX12_advance_72 : decode cX12_advance 72 = .ok (.getfield 47, 3) := by decide +kernel
theorem dX12_advance_75 : decode cX12_advance 75 = .ok (.iload 4, 2) := by decide +kernel
theorem dX12_advance_77 : decode cX12_advance 77 = .ok (.iaload, 1) := by decide +kernel
theorem dX12_advance_78 : decode cX12_advance 78 = .ok (.ifCond .ne 30, 3) := by decide +kernel
theorem dX12_advance_81 : decode cX12_advance 81 = .ok (.aload_n 0, 1) := by decide +kernel
theorem dX12_advance_82 : decode cX12_advance 82 = .ok (.getfield 260, 3) := by decide +kernel
theorem dX12_advance_85 : decode cX12_advance 85 = .ok (.aload_n 0, 1) := by decide +kernel
theorem dX12_advance_86 : decode cX12_advance 86 = .ok (.getfield 72, 3) := by decide +kernel
theorem dX12_advance_89 : decode cX12_advance 89 = .ok (.iload 4, 2) := by decide +kernel
theorem dX12_advance_91 : decode cX12_advance 91 = .ok (.iaload, 1) := by decide +kernel
theorem dX12_advance_92 : decode cX12_advance 92 = .ok (.isub, 1) := by decide +kernel
theorem dX12_advance_93 : decode cX12_advance 93 = .ok (.bipush 30, 2) := by decide +kernel
theorem dX12_advance_95 : decode cX12_advance 95 = .ok (.if_icmp .lt 13, 3) := by decide +kernel
theorem dX12_advance_98 : decode cX12_advance 98 = .ok (.aload_n 0, 1) := by decide +kernel
theorem dX12_advance_99 : decode cX12_advance 99 = .ok (.iload 4, 2) := by decide +kernel
theorem dX12_advance_101 : decode cX12_advance 101 = .ok (.iconst (-1), 1) := by decide +kernel
theorem dX12_advance_102 : decode cX12_advance 102 = .ok (.invokevirtual 436, 3) := by decide +kernel
theorem dX12_advance_105 : decode cX12_advance 105 = .ok (.iinc 2 1, 3) := by decide +kernel
theorem dX12_advance_108 : decode cX12_advance 108 = .ok (.iinc 4 1, 3) := by decide +kernel
theorem dX12_advance_111 : decode cX12_advance 111 = .ok (.goto (-49), 3) := by decide +kernel
theorem dX12_advance_114 : decode cX12_advance 114 = .ok (.iinc 3 1, 3) := by decide +kernel
theorem dX12_advance_117 : decode cX12_advance 117 = .ok (.goto (-73), 3) := by decide +kernel
theorem dX12_advance_120 : decode cX12_advance 120 = .ok (.iload_n 2, 1) := by decide +kernel
theorem dX12_advance_121 : decode cX12_advance 121 = .ok (.ireturn, 1) := by decide +kernel
theorem dX12_day_0 : decode cX12_day 0 = .ok (.aload_n 0, 1) := by decide +kernel
theorem dX12_day_1 : decode cX12_day 1 = .ok (.iconst 0, 1) := by decide +kernel
theorem dX12_day_2 : decode cX12_day 2 = .ok (.putfield 189, 3) := by decide +kernel
theorem dX12_day_5 : decode cX12_day 5 = .ok (.aload_n 0, 1) := by decide +kernel
theorem dX12_day_6 : decode cX12_day 6 = .ok (.getfield 260, 3) := by decide +kernel
theorem dX12_day_9 : decode cX12_day 9 = .ok (.ireturn, 1) := by decide +kernel
