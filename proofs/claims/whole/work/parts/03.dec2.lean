theorem dX12_init_0 : decode cX12_init 0 = .ok (.aload_n 0, 1) := by decide +kernel
theorem dX12_init_1 : decode cX12_init 1 = .ok (.invokespecial 1, 3) := by decide +kernel
theorem dX12_init_4 : decode cX12_init 4 = .ok (.aload_n 0, 1) := by decide +kernel
theorem dX12_init_5 : decode cX12_init 5 = .ok (.bipush 10, 2) := by decide +kernel
theorem dX12_init_7 : decode cX12_init 7 = .ok (.newarray .int, 2) := by decide +kernel
theorem dX12_init_9 : decode cX12_init 9 = .ok (.putfield 7, 3) := by decide +kernel
theorem dX12_init_12 : decode cX12_init 12 = .ok (.aload_n 0, 1) := by decide +kernel
theorem dX12_init_13 : decode cX12_init 13 = .ok (.bipush 10, 2) := by decide +kernel
theorem dX12_init_15 : decode cX12_init 15 = .ok (.newarray .int, 2) := by decide +kernel
theorem dX12_init_17 : decode cX12_init 17 = .ok (.putfield 13, 3) := by decide +kernel
theorem dX12_init_20 : decode cX12_init 20 = .ok (.aload_n 0, 1) := by decide +kernel
theorem dX12_init_21 : decode cX12_init 21 = .ok (.sipush 600, 3) := by decide +kernel
theorem dX12_init_24 : decode cX12_init 24 = .ok (.newarray .int, 2) := by decide +kernel
theorem dX12_init_26 : decode cX12_init 26 = .ok (.putfield 16, 3) := by decide +kernel
theorem dX12_init_29 : decode cX12_init 29 = .ok (.aload_n 0, 1) := by decide +kernel
theorem dX12_init_30 : decode cX12_init 30 = .ok (.bipush 6, 2) := by decide +kernel
theorem dX12_init_32 : decode cX12_init 32 = .ok (.newarray .int, 2) := by decide +kernel
theorem dX12_init_34 : decode cX12_init 34 = .ok (.putfield 19, 3) := by decide +kernel
theorem dX12_init_37 : decode cX12_init 37 = .ok (.aload_n 0, 1) := by decide +kernel
theorem dX12_init_38 : decode cX12_init 38 = .ok (.sipush 360, 3) := by decide +kernel
theorem dX12_init_41 : decode cX12_init 41 = .ok (.newarray .int, 2) := by decide +kernel
theorem dX12_init_43 : decode cX12_init 43 = .ok (.putfield 22, 3) := by decide +kernel
theorem dX12_init_46 : decode cX12_init 46 = .ok (.aload_n 0, 1) := by decide +kernel
theorem dX12_init_47 : decode cX12_init 47 = .ok (.bipush 6, 2) := by decide +kernel
theorem dX12_init_49 : decode cX12_init 49 = .ok (.newarray .int, 2) := by decide +kernel
theorem dX12_init_51 : decode cX12_init 51 = .ok (.putfield 25, 3) := by decide +kernel
theorem dX12_init_54 : decode cX12_init 54 = .ok (.aload_n 0, 1) := by decide +kernel
theorem dX12_init_55 : decode cX12_init 55 = .ok (.bipush 6, 2) := by decide +kernel
theorem dX12_init_57 : decode cX12_init 57 = .ok (.newarray .int, 2) := by decide +kernel
theorem dX12_init_59 : decode cX12_init 59 = .ok (.putfield 28, 3) := by decide +kernel
theorem dX12_init_62 : decode cX12_init 62 = .ok (.aload_n 0, 1) := by decide +kernel
theorem dX12_init_63 : decode cX12_init 63 = .ok (.bipush 16, 2) := by decide +kernel
theorem dX12_init_65 : decode cX12_init 65 = .ok (.newarray .int, 2) := by decide +kernel
theorem dX12_init_67 : decode cX12_init 67 = .ok (.putfield 31, 3) := by decide +kernel
theorem dX12_init_70 : decode cX12_init 70 = .ok (.aload_n 0, 1) := by decide +kernel
theorem dX12_init_71 : decode cX12_init 71 = .ok (.bipush 16, 2) := by decide +kernel
theorem dX12_init_73 : decode cX12_init 73 = .ok (.newarray .int, 2) := by decide +kernel
theorem dX12_init_75 : decode cX12_init 75 = .ok (.putfield 34, 3) := by decide +kernel
theorem dX12_init_78 : decode cX12_init 78 = .ok (.aload_n 0, 1) := by decide +kernel
theorem dX12_init_79 : decode cX12_init 79 = .ok (.bipush 16, 2) := by decide +kernel
theorem dX12_init_81 : decode cX12_init 81 = .ok (.newarray .int, 2) := by decide +kernel
theorem dX12_init_83 : decode cX12_init 83 = .ok (.putfield 37, 3) := by decide +kernel
theorem dX12_init_86 : decode cX12_init 86 = .ok (.aload_n 0, 1) := by decide +kernel
theorem dX12_init_87 : decode cX12_init 87 = .ok (.bipush 16, 2) := by decide +kernel
theorem dX12_init_89 : decode cX12_init 89 = .ok (.newarray .int, 2) := by decide +kernel
theorem dX12_init_91 : decode cX12_init 91 = .ok (.putfield 40, 3) := by decide +kernel
theorem dX12_init_94 : decode cX12_init 94 = .ok (.aload_n 0, 1) := by decide +kernel
theorem dX12_init_95 : decode cX12_init 95 = .ok (.bipush 16, 2) := by decide +kernel
theorem dX12_init_97 : decode cX12_init 97 = .ok (.newarray .int, 2) := by decide +kernel
theorem dX12_init_99 : decode cX12_init 99 = .ok (.putfield 43, 3) := by decide +kernel
theorem dX12_init_102 : decode cX12_init 102 = .ok (.aload_n 0, 1) := by decide +kernel
theorem dX12_init_103 : decode cX12_init 103 = .ok (.bipush 16, 2) := by decide +kernel
theorem dX12_init_105 : decode cX12_init 105 = .ok (.newarray .int, 2) := by decide +kernel
theorem dX12_init_107 : decode cX12_init 107 = .ok (.putfield 46, 3) := by decide +kernel
theorem dX12_init_110 : decode cX12_init 110 = .ok (.aload_n 0, 1) := by decide +kernel
theorem dX12_init_111 : decode cX12_init 111 = .ok (.bipush 16, 2) := by decide +kernel
theorem dX12_init_113 : decode cX12_init 113 = .ok (.newarray .int, 2) := by decide +kernel
theorem dX12_init_115 : decode cX12_init 115 = .ok (.putfield 49, 3) := by decide +kernel
theorem dX12_init_118 : decode cX12_init 118 = .ok (.aload_n 0, 1) := by decide +kernel
theorem dX12_init_119 : decode cX12_init 119 = .ok (.bipush 6, 2) := by decide +kernel
theorem dX12_init_121 : decode cX12_init 121 = .ok (.newarray .int, 2) := by decide +kernel
theorem dX12_init_123 : decode cX12_init 123 = .ok (.putfield 52, 3) := by decide +kernel
theorem dX12_init_126 : decode cX12_init 126 = .ok (.aload_n 0, 1) := by decide +kernel
theorem dX12_init_127 : decode cX12_init 127 = .ok (.bipush 8, 2) := by decide +kernel
theorem dX12_init_129 : decode cX12_init 129 = .ok (.newarray .int, 2) := by decide +kernel
theorem dX12_init_131 : decode cX12_init 131 = .ok (.putfield 55, 3) := by decide +kernel
theorem dX12_init_134 : decode cX12_init 134 = .ok (.aload_n 0, 1) := by decide +kernel
theorem dX12_init_135 : decode cX12_init 135 = .ok (.bipush 8, 2) := by decide +kernel
theorem dX12_init_137 : decode cX12_init 137 = .ok (.newarray .int, 2) := by decide +kernel
theorem dX12_init_139 : decode cX12_init 139 = .ok (.putfield 58, 3) := by decide +kernel
theorem dX12_init_142 : decode cX12_init 142 = .ok (.aload_n 0, 1) := by decide +kernel
theorem dX12_init_143 : decode cX12_init 143 = .ok (.sipush 480, 3) := by decide +kernel
theorem dX12_init_146 : decode cX12_init 146 = .ok (.newarray .long, 2) := by decide +kernel
theorem dX12_init_148 : decode cX12_init 148 = .ok (.putfield 61, 3) := by decide +kernel
theorem dX12_init_151 : decode cX12_init 151 = .ok (.aload_n 0, 1) := by decide +kernel
theorem dX12_init_152 : decode cX12_init 152 = .ok (.iconst (-1), 1) := by decide +kernel
theorem dX12_init_153 : decode cX12_init 153 = .ok (.putfield 65, 3) := by decide +kernel
theorem dX12_init_156 : decode cX12_init 156 = .ok (.aload_n 0, 1) := by decide +kernel
theorem dX12_init_157 : decode cX12_init 157 = .ok (.bipush 10, 2) := by decide +kernel
theorem dX12_init_159 : decode cX12_init 159 = .ok (.newarray .int, 2) := by decide +kernel
theorem dX12_init_161 : decode cX12_init 161 = .ok (.putfield 69, 3) := by decide +kernel
theorem dX12_init_164 : decode cX12_init 164 = .ok (.aload_n 0, 1) := by decide +kernel
theorem dX12_init_165 : decode cX12_init 165 = .ok (.sipush 1024, 3) := by decide +kernel
theorem dX12_init_168 : decode cX12_init 168 = .ok (.newarray .int, 2) := by decide +kernel
theorem dX12_init_170 : decode cX12_init 170 = .ok (.putfield 72, 3) := by decide +kernel
theorem dX12_init_173 : decode cX12_init 173 = .ok (.aload_n 0, 1) := by decide +kernel
theorem dX12_init_174 : decode cX12_init 174 = .ok (.sipush 1024, 3) := by decide +kernel
theorem dX12_init_177 : decode cX12_init 177 = .ok (.newarray .int, 2) := by decide +kernel
theorem dX12_init_179 : decode cX12_init 179 = .ok (.putfield 75, 3) := by decide +kernel
theorem dX12_init_182 : decode cX12_init 182 = .ok (.aload_n 0, 1) := by decide +kernel
theorem dX12_init_183 : decode cX12_init 183 = .ok (.sipush 7168, 3) := by decide +kernel
theorem dX12_init_186 : decode cX12_init 186 = .ok (.newarray .int, 2) := by decide +kernel
theorem dX12_init_188 : decode cX12_init 188 = .ok (.putfield 78, 3) := by decide +kernel
theorem dX12_init_191 : decode cX12_init 191 = .ok (.aload_n 0, 1) := by decide +kernel
theorem dX12_init_192 : decode cX12_init 192 = .ok (.bipush 12, 2) := by decide +kernel
theorem dX12_init_194 : decode cX12_init 194 = .ok (.newarray .int, 2) := by decide +kernel
theorem dX12_init_196 : decode cX12_init 196 = .ok (.putfield 81, 3) := by decide +kernel
theorem dX12_init_199 : decode cX12_init 199 = .ok (.aload_n 0, 1) := by decide +kernel
theorem dX12_init_200 : decode cX12_init 200 = .ok (.bipush 12, 2) := by decide +kernel
theorem dX12_init_202 : decode cX12_init 202 = .ok (.newarray .int, 2) := by decide +kernel
theorem dX12_init_204 : decode cX12_init 204 = .ok (.putfield 84, 3) := by decide +kernel
theorem dX12_init_207 : decode cX12_init 207 = .ok (.aload_n 0, 1) := by decide +kernel
theorem dX12_init_208 : decode cX12_init 208 = .ok (.bipush 12, 2) := by decide +kernel
theorem dX12_init_210 : decode cX12_init 210 = .ok (.newarray .int, 2) := by decide +kernel
theorem dX12_init_212 : decode cX12_init 212 = .ok (.putfield 87, 3) := by decide +kernel
theorem dX12_init_215 : decode cX12_init 215 = .ok (.aload_n 0, 1) := by decide +kernel
theorem dX12_init_216 : decode cX12_init 216 = .ok (.bipush 12, 2) := by decide +kernel
theorem dX12_init_218 : decode cX12_init 218 = .ok (.newarray .int, 2) := by decide +kernel
theorem dX12_init_220 : decode cX12_init 220 = .ok (.putfield 90, 3) := by decide +kernel
theorem dX12_init_223 : decode cX12_init 223 = .ok (.aload_n 0, 1) := by decide +kernel
theorem dX12_init_224 : decode cX12_init 224 = .ok (.bipush 12, 2) := by decide +kernel
theorem dX12_init_226 : decode cX12_init 226 = .ok (.newarray .int, 2) := by decide +kernel
theorem dX12_init_228 : decode cX12_init 228 = .ok (.putfield 93, 3) := by decide +kernel
theorem dX12_init_231 : decode cX12_init 231 = .ok (.aload_n 0, 1) := by decide +kernel
theorem dX12_init_232 : decode cX12_init 232 = .ok (.iconst 2, 1) := by decide +kernel
theorem dX12_init_233 : decode cX12_init 233 = .ok (.newarray .int, 2) := by decide +kernel
theorem dX12_init_235 : decode cX12_init 235 = .ok (.putfield 96, 3) := by decide +kernel
theorem dX12_init_238 : decode cX12_init 238 = .ok (.aload_n 0, 1) := by decide +kernel
theorem dX12_init_239 : decode cX12_init 239 = .ok (.sipush 13312, 3) := by decide +kernel
theorem dX12_init_242 : decode cX12_init 242 = .ok (.newarray .int, 2) := by decide +kernel
theorem dX12_init_244 : decode cX12_init 244 = .ok (.putfield 99, 3) := by decide +kernel
theorem dX12_init_247 : decode cX12_init 247 = .ok (.aload_n 0, 1) := by decide +kernel
theorem dX12_init_248 : decode cX12_init 248 = .ok (.sipush 13312, 3) := by decide +kernel
theorem dX12_init_251 : decode cX12_init 251 = .ok (.newarray .int, 2) := by decide +kernel
theorem dX12_init_253 : decode cX12_init 253 = .ok (.putfield 102, 3) := by decide +kernel
theorem dX12_init_256 : decode cX12_init 256 = .ok (.aload_n 0, 1) := by decide +kernel
theorem dX12_init_257 : decode cX12_init 257 = .ok (.bipush 28, 2) := by decide +kernel
theorem dX12_init_259 : decode cX12_init 259 = .ok (.newarray .int, 2) := by decide +kernel
theorem dX12_init_261 : decode cX12_init 261 = .ok (.putfield 105, 3) := by decide +kernel
theorem dX12_init_264 : decode cX12_init 264 = .ok (.aload_n 0, 1) := by decide +kernel
theorem dX12_init_265 : decode cX12_init 265 = .ok (.bipush 28, 2) := by decide +kernel
theorem dX12_init_267 : decode cX12_init 267 = .ok (.newarray .int, 2) := by decide +kernel
theorem dX12_init_269 : decode cX12_init 269 = .ok (.putfield 108, 3) := by decide +kernel
theorem dX12_init_272 : decode cX12_init 272 = .ok (.aload_n 0, 1) := by decide +kernel
theorem dX12_init_273 : decode cX12_init 273 = .ok (.bipush 28, 2) := by decide +kernel
theorem dX12_init_275 : decode cX12_init 275 = .ok (.newarray .int, 2) := by decide +kernel
theorem dX12_init_277 : decode cX12_init 277 = .ok (.putfield 111, 3) := by decide +kernel
theorem dX12_init_280 : decode cX12_init 280 = .ok (.aload_n 0, 1) := by decide +kernel
theorem dX12_init_281 : decode cX12_init 281 = .ok (.bipush 28, 2) := by decide +kernel
theorem dX12_init_283 : decode cX12_init 283 = .ok (.newarray .int, 2) := by decide +kernel
theorem dX12_init_285 : decode cX12_init 285 = .ok (.putfield 114, 3) := by decide +kernel
theorem dX12_init_288 : decode cX12_init 288 = .ok (.aload_n 0, 1) := by decide +kernel
theorem dX12_init_289 : decode cX12_init 289 = .ok (.sipush 1024, 3) := by decide +kernel
theorem dX12_init_292 : decode cX12_init 292 = .ok (.newarray .int, 2) := by decide +kernel
theorem dX12_init_294 : decode cX12_init 294 = .ok (.putfield 117, 3) := by decide +kernel
theorem dX12_init_297 : decode cX12_init 297 = .ok (.aload_n 0, 1) := by decide +kernel
theorem dX12_init_298 : decode cX12_init 298 = .ok (.sipush 1024, 3) := by decide +kernel
theorem dX12_init_301 : decode cX12_init 301 = .ok (.newarray .int, 2) := by decide +kernel
theorem dX12_init_303 : decode cX12_init 303 = .ok (.putfield 120, 3) := by decide +kernel
theorem dX12_init_306 : decode cX12_init 306 = .ok (.aload_n 0, 1) := by decide +kernel
theorem dX12_init_307 : decode cX12_init 307 = .ok (.sipush 1024, 3) := by decide +kernel
theorem dX12_init_310 : decode cX12_init 310 = .ok (.newarray .int, 2) := by decide +kernel
theorem dX12_init_312 : decode cX12_init 312 = .ok (.putfield 123, 3) := by decide +kernel
theorem dX12_init_315 : decode cX12_init 315 = .ok (.aload_n 0, 1) := by decide +kernel
theorem dX12_init_316 : decode cX12_init 316 = .ok (.sipush 1024, 3) := by decide +kernel
theorem dX12_init_319 : decode cX12_init 319 = .ok (.newarray .int, 2) := by decide +kernel
theorem dX12_init_321 : decode cX12_init 321 = .ok (.putfield 126, 3) := by decide +kernel
theorem dX12_init_324 : decode cX12_init 324 = .ok (.aload_n 0, 1) := by decide +kernel
theorem dX12_init_325 : decode cX12_init 325 = .ok (.sipush 1024, 3) := by decide +kernel
theorem dX12_init_328 : decode cX12_init 328 = .ok (.newarray .long, 2) := by decide +kernel
theorem dX12_init_330 : decode cX12_init 330 = .ok (.putfield 129, 3) := by decide +kernel
theorem dX12_init_333 : decode cX12_init 333 = .ok (.aload_n 0, 1) := by decide +kernel
theorem dX12_init_334 : decode cX12_init 334 = .ok (.sipush 1024, 3) := by decide +kernel
theorem dX12_init_337 : decode cX12_init 337 = .ok (.newarray .long, 2) := by decide +kernel
theorem dX12_init_339 : decode cX12_init 339 = .ok (.putfield 132, 3) := by decide +kernel
theorem dX12_init_342 : decode cX12_init 342 = .ok (.aload_n 0, 1) := by decide +kernel
theorem dX12_init_343 : decode cX12_init 343 = .ok (.bipush 20, 2) := by decide +kernel
theorem dX12_init_345 : decode cX12_init 345 = .ok (.newarray .int, 2) := by decide +kernel
theorem dX12_init_347 : decode cX12_init 347 = .ok (.putfield 135, 3) := by decide +kernel
theorem dX12_init_350 : decode cX12_init 350 = .ok (.aload_n 0, 1) := by decide +kernel
theorem dX12_init_351 : decode cX12_init 351 = .ok (.iconst 3, 1) := by decide +kernel
theorem dX12_init_352 : decode cX12_init 352 = .ok (.newarray .int, 2) := by decide +kernel
theorem dX12_init_354 : decode cX12_init 354 = .ok (.putfield 138, 3) := by decide +kernel
theorem dX12_init_357 : decode cX12_init 357 = .ok (.aload_n 0, 1) := by decide +kernel
theorem dX12_init_358 : decode cX12_init 358 = .ok (.sipush 620, 3) := by decide +kernel
theorem dX12_init_361 : decode cX12_init 361 = .ok (.newarray .int, 2) := by decide +kernel
theorem dX12_init_363 : decode cX12_init 363 = .ok (.putfield 141, 3) := by decide +kernel
theorem dX12_init_366 : decode cX12_init 366 = .ok (.aload_n 0, 1) := by decide +kernel
theorem dX12_init_367 : decode cX12_init 367 = .ok (.sipush 378, 3) := by decide +kernel
theorem dX12_init_370 : decode cX12_init 370 = .ok (.newarray .int, 2) := by decide +kernel
theorem dX12_init_372 : decode cX12_init 372 = .ok (.putfield 144, 3) := by decide +kernel
theorem dX12_init_375 : decode cX12_init 375 = .ok (.aload_n 0, 1) := by decide +kernel
theorem dX12_init_376 : decode cX12_init 376 = .ok (.bipush 112, 2) := by decide +kernel
theorem dX12_init_378 : decode cX12_init 378 = .ok (.newarray .int, 2) := by decide +kernel
theorem dX12_init_380 : decode cX12_init 380 = .ok (.putfield 147, 3) := by decide +kernel
theorem dX12_init_383 : decode cX12_init 383 = .ok (.aload_n 0, 1) := by decide +kernel
theorem dX12_init_384 : decode cX12_init 384 = .ok (.bipush 6, 2) := by decide +kernel
theorem dX12_init_386 : decode cX12_init 386 = .ok (.newarray .int, 2) := by decide +kernel
theorem dX12_init_388 : decode cX12_init 388 = .ok (.putfield 150, 3) := by decide +kernel
theorem dX12_init_391 : decode cX12_init 391 = .ok (.aload_n 0, 1) := by decide +kernel
theorem dX12_init_392 : decode cX12_init 392 = .ok (.bipush 8, 2) := by decide +kernel
theorem dX12_init_394 : decode cX12_init 394 = .ok (.newarray .int, 2) := by decide +kernel
theorem dX12_init_396 : decode cX12_init 396 = .ok (.putfield 153, 3) := by decide +kernel
theorem dX12_init_399 : decode cX12_init 399 = .ok (.aload_n 0, 1) := by decide +kernel
theorem dX12_init_400 : decode cX12_init 400 = .ok (.bipush 12, 2) := by decide +kernel
theorem dX12_init_402 : decode cX12_init 402 = .ok (.newarray .int, 2) := by decide +kernel
theorem dX12_init_404 : decode cX12_init 404 = .ok (.putfield 156, 3) := by decide +kernel
theorem dX12_init_407 : decode cX12_init 407 = .ok (.iconst 0, 1) := by decide +kernel
theorem dX12_init_408 : decode cX12_init 408 = .ok (.istore_n 1, 1) := by decide +kernel
theorem dX12_init_409 : decode cX12_init 409 = .ok (.iload_n 1, 1) := by decide +kernel
theorem dX12_init_410 : decode cX12_init 410 = .ok (.bipush 8, 2) := by decide +kernel
theorem dX12_init_412 : decode cX12_init 412 = .ok (.if_icmp .ge 16, 3) := by decide +kernel
theorem dX12_init_415 : decode cX12_init 415 = .ok (.aload_n 0, 1) := by decide +kernel
theorem dX12_init_416 : decode cX12_init 416 = .ok (.getfield 55, 3) := by decide +kernel
theorem dX12_init_419 : decode cX12_init 419 = .ok (.iload_n 1, 1) := by decide +kernel
theorem dX12_init_420 : decode cX12_init 420 = .ok (.iconst (-1), 1) := by decide +kernel
theorem dX12_init_421 : decode cX12_init 421 = .ok (.iastore, 1) := by decide +kernel
theorem dX12_init_422 : decode cX12_init 422 = .ok (.iinc 1 1, 3) := by decide +kernel
theorem dX12_init_425 : decode cX12_init 425 = .ok (.goto (-16), 3) := by decide +kernel
theorem dX12_init_428 : decode cX12_init 428 = .ok (.iconst 0, 1) := by decide +kernel
theorem dX12_init_429 : decode cX12_init 429 = .ok (.istore_n 1, 1) := by decide +kernel
theorem dX12_init_430 : decode cX12_init 430 = .ok (.iload_n 1, 1) := by decide +kernel
theorem dX12_init_431 : decode cX12_init 431 = .ok (.bipush 6, 2) := by decide +kernel
theorem dX12_init_433 : decode cX12_init 433 = .ok (.if_icmp .ge 16, 3) := by decide +kernel
theorem dX12_init_436 : decode cX12_init 436 = .ok (.aload_n 0, 1) := by decide +kernel
theorem dX12_init_437 : decode cX12_init 437 = .ok (.getfield 52, 3) := by decide +kernel
theorem dX12_init_440 : decode cX12_init 440 = .ok (.iload_n 1, 1) := by decide +kernel
theorem dX12_init_441 : decode cX12_init 441 = .ok (.iconst 1, 1) := by decide +kernel
theorem dX12_init_442 : decode cX12_init 442 = .ok (.iastore, 1) := by decide +kernel
theorem dX12_init_443 : decode cX12_init 443 = .ok (.iinc 1 1, 3) := by decide +kernel
theorem dX12_init_446 : decode cX12_init 446 = .ok (.goto (-16), 3) := by decide +kernel
theorem dX12_init_449 : decode cX12_init 449 = .ok (.return_, 1) := by decide +kernel
theorem dX12_no_0 : decode cX12_no 0 = .ok (.aload_n 0, 1) := by decide +kernel
theorem dX12_no_1 : decode cX12_no 1 = .ok (.getfield 153, 3) := by decide +kernel
theorem dX12_no_4 : decode cX12_no 4 = .ok (.iload_n 1, 1) := by decide +kernel
theorem dX12_no_5 : decode cX12_no 5 = .ok (.ineg, 1) := by decide +kernel
theorem dX12_no_6 : decode cX12_no 6 = .ok (.dup2, 1) := by decide +kernel
theorem dX12_no_7 : decode cX12_no 7 = .ok (.iaload, 1) := by decide +kernel
theorem dX12_no_8 : decode cX12_no 8 = .ok (.iconst 1, 1) := by decide +kernel
theorem dX12_no_9 : decode cX12_no 9 = .ok (.iadd, 1) := by decide +kernel
theorem dX12_no_10 : decode cX12_no 10 = .ok (.iastore, 1) := by decide +kernel
theorem dX12_no_11 : decode cX12_no 11 = .ok (.iload_n 1, 1) := by decide +kernel
theorem dX12_no_12 : decode cX12_no 12 = .ok (.ireturn, 1) := by decide +kernel
theorem dX12_isShelf_0 : decode cX12_isShelf 0 = .ok (.iload_n 1, 1) := by decide +kernel
theorem dX12_isShelf_1 : decode cX12_isShelf 1 = .ok (.ifCond .lt 13, 3) := by decide +kernel
theorem dX12_isShelf_4 : decode cX12_isShelf 4 = .ok (.iload_n 1, 1) := by decide +kernel
theorem dX12_isShelf_5 : decode cX12_isShelf 5 = .ok (.bipush 8, 2) := by decide +kernel
theorem dX12_isShelf_7 : decode cX12_isShelf 7 = .ok (.if_icmp .ge 7, 3) := by decide +kernel
theorem dX12_isShelf_10 : decode cX12_isShelf 10 = .ok (.iconst 1, 1) := by decide +kernel
theorem dX12_isShelf_11 : decode cX12_isShelf 11 = .ok (.goto 4, 3) := by decide +kernel
theorem dX12_isShelf_14 : decode cX12_isShelf 14 = .ok (.iconst 0, 1) := by decide +kernel
theorem dX12_isShelf_15 : decode cX12_isShelf 15 = .ok (.ireturn, 1) := by decide +kernel
theorem dX12_isRow_0 : decode cX12_isRow 0 = .ok (.aload_n 0, 1) := by decide +kernel
theorem dX12_isRow_1 : decode cX12_isRow 1 = .ok (.getfield 55, 3) := by decide +kernel
theorem dX12_isRow_4 : decode cX12_isRow 4 = .ok (.iload_n 1, 1) := by decide +kernel
theorem dX12_isRow_5 : decode cX12_isRow 5 = .ok (.iaload, 1) := by decide +kernel
theorem dX12_isRow_6 : decode cX12_isRow 6 = .ok (.bipush 100, 2) := by decide +kernel
theorem dX12_isRow_8 : decode cX12_isRow 8 = .ok (.if_icmp .lt 7, 3) := by decide +kernel
theorem dX12_isRow_11 : decode cX12_isRow 11 = .ok (.iconst 1, 1) := by decide +kernel
theorem dX12_isRow_12 : decode cX12_isRow 12 = .ok (.goto 4, 3) := by decide +kernel
theorem dX12_isRow_15 : decode cX12_isRow 15 = .ok (.iconst 0, 1) := by decide +kernel
theorem dX12_isRow_16 : decode cX12_isRow 16 = .ok (.ireturn, 1) := by decide +kernel
theorem dX12_holdsPiece_0 : decode cX12_holdsPiece 0 = .ok (.aload_n 0, 1) := by decide +kernel
theorem dX12_holdsPiece_1 : decode cX12_holdsPiece 1 = .ok (.getfield 55, 3) := by decide +kernel
theorem dX12_holdsPiece_4 : decode cX12_holdsPiece 4 = .ok (.iload_n 1, 1) := by decide +kernel
theorem dX12_holdsPiece_5 : decode cX12_holdsPiece 5 = .ok (.iaload, 1) := by decide +kernel
theorem dX12_holdsPiece_6 : decode cX12_holdsPiece 6 = .ok (.ifCond .lt 18, 3) := by decide +kernel
theorem dX12_holdsPiece_9 : decode cX12_holdsPiece 9 = .ok (.aload_n 0, 1) := by decide +kernel
theorem dX12_holdsPiece_10 : decode cX12_holdsPiece 10 = .ok (.getfield 55, 3) := by decide +kernel
theorem dX12_holdsPiece_13 : decode cX12_holdsPiece 13 = .ok (.iload_n 1, 1) := by decide +kernel
theorem dX12_holdsPiece_14 : decode cX12_holdsPiece 14 = .ok (.iaload, 1) := by decide +kernel
theorem dX12_holdsPiece_15 : decode cX12_holdsPiece 15 = .ok (.bipush 100, 2) := by decide +kernel
theorem dX12_holdsPiece_17 : decode cX12_holdsPiece 17 = .ok (.if_icmp .ge 7, 3) := by decide +kernel
theorem dX12_holdsPiece_20 : decode cX12_holdsPiece 20 = .ok (.iconst 1, 1) := by decide +kernel
theorem dX12_holdsPiece_21 : decode cX12_holdsPiece 21 = .ok (.goto 4, 3) := by decide +kernel
theorem dX12_holdsPiece_24 : decode cX12_holdsPiece 24 = .ok (.iconst 0, 1) := by decide +kernel
theorem dX12_holdsPiece_25 : decode cX12_holdsPiece 25 = .ok (.ireturn, 1) := by decide +kernel
theorem dX12_isThing_0 : decode cX12_isThing 0 = .ok (.iload_n 1, 1) := by decide +kernel
theorem dX12_isThing_1 : decode cX12_isThing 1 = .ok (.ifCond .lt 15, 3) := by decide +kernel
theorem dX12_isThing_4 : decode cX12_isThing 4 = .ok (.iload_n 1, 1) := by decide +kernel
theorem dX12_isThing_5 : decode cX12_isThing 5 = .ok (.aload_n 0, 1) := by decide +kernel
theorem dX12_isThing_6 : decode cX12_isThing 6 = .ok (.getfield 159, 3) := by decide +kernel
theorem dX12_isThing_9 : decode cX12_isThing 9 = .ok (.if_icmp .ge 7, 3) := by decide +kernel
theorem dX12_isThing_12 : decode cX12_isThing 12 = .ok (.iconst 1, 1) := by decide +kernel
theorem dX12_isThing_13 : decode cX12_isThing 13 = .ok (.goto 4, 3) := by decide +kernel
theorem dX12_isThing_16 : decode cX12_isThing 16 = .ok (.iconst 0, 1) := by decide +kernel
theorem dX12_isThing_17 : decode cX12_isThing 17 = .ok (.ireturn, 1) := by decide +kernel
theorem dX12_isHappening_0 : decode cX12_isHappening 0 = .ok (.iload_n 1, 1) := by decide +kernel
theorem dX12_isHappening_1 : decode cX12_isHappening 1 = .ok (.ifCond .lt 15, 3) := by decide +kernel
theorem dX12_isHappening_4 : decode cX12_isHappening 4 = .ok (.iload_n 1, 1) := by decide +kernel
theorem dX12_isHappening_5 : decode cX12_isHappening 5 = .ok (.aload_n 0, 1) := by decide +kernel
theorem dX12_isHappening_6 : decode cX12_isHappening 6 = .ok (.getfield 162, 3) := by decide +kernel
theorem dX12_isHappening_9 : decode cX12_isHappening 9 = .ok (.if_icmp .ge 7, 3) := by decide +kernel
theorem dX12_isHappening_12 : decode cX12_isHappening 12 = .ok (.iconst 1, 1) := by decide +kernel
theorem dX12_isHappening_13 : decode cX12_isHappening 13 = .ok (.goto 4, 3) := by decide +kernel
theorem dX12_isHappening_16 : decode cX12_isHappening 16 = .ok (.iconst 0, 1) := by decide +kernel
theorem dX12_isHappening_17 : decode cX12_isHappening 17 = .ok (.ireturn, 1) := by decide +kernel
theorem dX12_isPiece_0 : decode cX12_isPiece 0 = .ok (.iload_n 1, 1) := by decide +kernel
theorem dX12_isPiece_1 : decode cX12_isPiece 1 = .ok (.ifCond .lt 15, 3) := by decide +kernel
theorem dX12_isPiece_4 : decode cX12_isPiece 4 = .ok (.iload_n 1, 1) := by decide +kernel
theorem dX12_isPiece_5 : decode cX12_isPiece 5 = .ok (.aload_n 0, 1) := by decide +kernel
theorem dX12_isPiece_6 : decode cX12_isPiece 6 = .ok (.getfield 165, 3) := by decide +kernel
theorem dX12_isPiece_9 : decode cX12_isPiece 9 = .ok (.if_icmp .ge 7, 3) := by decide +kernel
theorem dX12_isPiece_12 : decode cX12_isPiece 12 = .ok (.iconst 1, 1) := by decide +kernel
theorem dX12_isPiece_13 : decode cX12_isPiece 13 = .ok (.goto 4, 3) := by decide +kernel
theorem dX12_isPiece_16 : decode cX12_isPiece 16 = .ok (.iconst 0, 1) := by decide +kernel
theorem dX12_isPiece_17 : decode cX12_isPiece 17 = .ok (.ireturn, 1) := by decide +kernel
theorem dX12_isMouth_0 : decode cX12_isMouth 0 = .ok (.iload_n 1, 1) := by decide +kernel
theorem dX12_isMouth_1 : decode cX12_isMouth 1 = .ok (.ifCond .lt 13, 3) := by decide +kernel
theorem dX12_isMouth_4 : decode cX12_isMouth 4 = .ok (.iload_n 1, 1) := by decide +kernel
theorem dX12_isMouth_5 : decode cX12_isMouth 5 = .ok (.bipush 6, 2) := by decide +kernel
theorem dX12_isMouth_7 : decode cX12_isMouth 7 = .ok (.if_icmp .ge 7, 3) := by decide +kernel
theorem dX12_isMouth_10 : decode cX12_isMouth 10 = .ok (.iconst 1, 1) := by decide +kernel
theorem dX12_isMouth_11 : decode cX12_isMouth 11 = .ok (.goto 4, 3) := by decide +kernel
theorem dX12_isMouth_14 : decode cX12_isMouth 14 = .ok (.iconst 0, 1) := by decide +kernel
theorem dX12_isMouth_15 : decode cX12_isMouth 15 = .ok (.ireturn, 1) := by decide +kernel
theorem dX12_isHour_0 : decode cX12_isHour 0 = .ok (.iload_n 1, 1) := by decide +kernel
theorem dX12_isHour_1 : decode cX12_isHour 1 = .ok (.ifCond .lt 13, 3) := by decide +kernel
theorem dX12_isHour_4 : decode cX12_isHour 4 = .ok (.iload_n 1, 1) := by decide +kernel
theorem dX12_isHour_5 : decode cX12_isHour 5 = .ok (.bipush 12, 2) := by decide +kernel
theorem dX12_isHour_7 : decode cX12_isHour 7 = .ok (.if_icmp .ge 7, 3) := by decide +kernel
theorem dX12_isHour_10 : decode cX12_isHour 10 = .ok (.iconst 1, 1) := by decide +kernel
theorem dX12_isHour_11 : decode cX12_isHour 11 = .ok (.goto 4, 3) := by decide +kernel
theorem dX12_isHour_14 : decode cX12_isHour 14 = .ok (.iconst 0, 1) := by decide +kernel
theorem dX12_isHour_15 : decode cX12_isHour 15 = .ok (.ireturn, 1) := by decide +kernel
theorem dX12_areHours_0 : decode cX12_areHours 0 = .ok (.aload_n 0, 1) := by decide +kernel
theorem dX12_areHours_1 : decode cX12_areHours 1 = .ok (.iload_n 1, 1) := by decide +kernel
theorem dX12_areHours_2 : decode cX12_areHours 2 = .ok (.invokevirtual 168, 3) := by decide +kernel
theorem dX12_areHours_5 : decode cX12_areHours 5 = .ok (.ifCond .eq 20, 3) := by decide +kernel
theorem dX12_areHours_8 : decode cX12_areHours 8 = .ok (.aload_n 0, 1) := by decide +kernel
theorem dX12_areHours_9 : decode cX12_areHours 9 = .ok (.iload_n 2, 1) := by decide +kernel
theorem dX12_areHours_10 : decode cX12_areHours 10 = .ok (.invokevirtual 168, 3) := by decide +kernel
theorem dX12_areHours_13 : decode cX12_areHours 13 = .ok (.ifCond .eq 12, 3) := by decide +kernel
theorem dX12_areHours_16 : decode cX12_areHours 16 = .ok (.iload_n 1, 1) := by decide +kernel
theorem dX12_areHours_17 : decode cX12_areHours 17 = .ok (.iload_n 2, 1) := by decide +kernel
theorem dX12_areHours_18 : decode cX12_areHours 18 = .ok (.if_icmp .gt 7, 3) := by decide +kernel
theorem dX12_areHours_21 : decode cX12_areHours 21 = .ok (.iconst 1, 1) := by decide +kernel
theorem dX12_areHours_22 : decode cX12_areHours 22 = .ok (.goto 4, 3) := by decide +kernel
theorem dX12_areHours_25 : decode cX12_areHours 25 = .ok (.iconst 0, 1) := by decide +kernel
theorem dX12_areHours_26 : decode cX12_areHours 26 = .ok (.ireturn, 1) := by decide +kernel
theorem dX12_row_0 : decode cX12_row 0 = .ok (.aload_n 0, 1) := by decide +kernel
theorem dX12_row_1 : decode cX12_row 1 = .ok (.iload_n 1, 1) := by decide +kernel
theorem dX12_row_2 : decode cX12_row 2 = .ok (.invokevirtual 172, 3) := by decide +kernel
theorem dX12_row_5 : decode cX12_row 5 = .ok (.ifCond .ne 9, 3) := by decide +kernel
theorem dX12_row_8 : decode cX12_row 8 = .ok (.aload_n 0, 1) := by decide +kernel
theorem dX12_row_9 : decode cX12_row 9 = .ok (.iconst (-1), 1) := by decide +kernel
theorem dX12_row_10 : decode cX12_row 10 = .ok (.invokevirtual 175, 3) := by decide +kernel
theorem dX12_row_13 : decode cX12_row 13 = .ok (.ireturn, 1) := by decide +kernel
theorem dX12_row_14 : decode cX12_row 14 = .ok (.iload_n 3, 1) := by decide +kernel
theorem dX12_row_15 : decode cX12_row 15 = .ok (.ifCond .ge 10, 3) := by decide +kernel
theorem dX12_row_18 : decode cX12_row 18 = .ok (.aload_n 0, 1) := by decide +kernel
theorem dX12_row_19 : decode cX12_row 19 = .ok (.bipush (-4), 2) := by decide +kernel
theorem dX12_row_21 : decode cX12_row 21 = .ok (.invokevirtual 175, 3) := by decide +kernel
theorem dX12_row_24 : decode cX12_row 24 = .ok (.ireturn, 1) := by decide +kernel
theorem dX12_row_25 : decode cX12_row 25 = .ok (.iload_n 2, 1) := by decide +kernel
theorem dX12_row_26 : decode cX12_row 26 = .ok (.ifCond .lt 8, 3) := by decide +kernel
theorem dX12_row_29 : decode cX12_row 29 = .ok (.iload_n 2, 1) := by decide +kernel
theorem dX12_row_30 : decode cX12_row 30 = .ok (.iconst 3, 1) := by decide +kernel
theorem dX12_row_31 : decode cX12_row 31 = .ok (.if_icmp .le 10, 3) := by decide +kernel
theorem dX12_row_34 : decode cX12_row 34 = .ok (.aload_n 0, 1) := by decide +kernel
theorem dX12_row_35 : decode cX12_row 35 = .ok (.bipush (-6), 2) := by decide +kernel
theorem dX12_row_37 : decode cX12_row 37 = .ok (.invokevirtual 175, 3) := by decide +kernel
theorem dX12_row_40 : decode cX12_row 40 = .ok (.ireturn, 1) := by decide +kernel
theorem dX12_row_41 : decode cX12_row 41 = .ok (.iload_n 3, 1) := by decide +kernel
theorem dX12_row_42 : decode cX12_row 42 = .ok (.bipush 60, 2) := by decide +kernel
theorem dX12_row_44 : decode cX12_row 44 = .ok (.if_icmp .le 10, 3) := by decide +kernel
theorem dX12_row_47 : decode cX12_row 47 = .ok (.aload_n 0, 1) := by decide +kernel
theorem dX12_row_48 : decode cX12_row 48 = .ok (.bipush (-7), 2) := by decide +kernel
theorem dX12_row_50 : decode cX12_row 50 = .ok (.invokevirtual 175, 3) := by decide +kernel
theorem dX12_row_53 : decode cX12_row 53 = .ok (.ireturn, 1) := by decide +kernel
theorem dX12_row_54 : decode cX12_row 54 = .ok (.aload_n 0, 1) := by decide +kernel
theorem dX12_row_55 : decode cX12_row 55 = .ok (.getfield 55, 3) := by decide +kernel
theorem dX12_row_58 : decode cX12_row 58 = .ok (.iload_n 1, 1) := by decide +kernel
theorem dX12_row_59 : decode cX12_row 59 = .ok (.bipush 100, 2) := by decide +kernel
theorem dX12_row_61 : decode cX12_row 61 = .ok (.iload_n 2, 1) := by decide +kernel
theorem dX12_row_62 : decode cX12_row 62 = .ok (.iadd, 1) := by decide +kernel
theorem dX12_row_63 : decode cX12_row 63 = .ok (.iastore, 1) := by decide +kernel
theorem dX12_row_64 : decode cX12_row 64 = .ok (.aload_n 0, 1) := by decide +kernel
theorem dX12_row_65 : decode cX12_row 65 = .ok (.getfield 58, 3) := by decide +kernel
theorem dX12_row_68 : decode cX12_row 68 = .ok (.iload_n 1, 1) := by decide +kernel
theorem dX12_row_69 : decode cX12_row 69 = .ok (.iload_n 3, 1) := by decide +kernel
theorem dX12_row_70 : decode cX12_row 70 = .ok (.iastore, 1) := by decide +kernel
theorem dX12_row_71 : decode cX12_row 71 = .ok (.iconst 0, 1) := by decide +kernel
theorem dX12_row_72 : decode cX12_row 72 = .ok (.istore 4, 2) := by decide +kernel
theorem dX12_row_74 : decode cX12_row 74 = .ok (.iload 4, 2) := by decide +kernel
theorem dX12_row_76 : decode cX12_row 76 = .ok (.bipush 60, 2) := by decide +kernel
theorem dX12_row_78 : decode cX12_row 78 = .ok (.if_icmp .ge 22, 3) := by decide +kernel
theorem dX12_row_81 : decode cX12_row 81 = .ok (.aload_n 0, 1) := by decide +kernel
theorem dX12_row_82 : decode cX12_row 82 = .ok (.getfield 61, 3) := by decide +kernel
theorem dX12_row_85 : decode cX12_row 85 = .ok (.bipush 60, 2) := by decide +kernel
theorem dX12_row_87 : decode cX12_row 87 = .ok (.iload_n 1, 1) := by decide +kernel
theorem dX12_row_88 : decode cX12_row 88 = .ok (.imul, 1) := by decide +kernel
theorem dX12_row_89 : decode cX12_row 89 = .ok (.iload 4, 2) := by decide +kernel
theorem dX12_row_91 : decode cX12_row 91 = .ok (.iadd, 1) := by decide +kernel
theorem dX12_row_92 : decode cX12_row 92 = .ok (.lconst 0, 1) := by decide +kernel
theorem dX12_row_93 : decode cX12_row 93 = .ok (.lastore, 1) := by decide +kernel
theorem dX12_row_94 : decode cX12_row 94 = .ok (.iinc 4 1, 3) := by decide +kernel
theorem dX12_row_97 : decode cX12_row 97 = .ok (.goto (-23), 3) := by decide +kernel
theorem dX12_row_100 : decode cX12_row 100 = .ok (.iconst 1, 1) := by decide +kernel
theorem dX12_row_101 : decode cX12_row 101 = .ok (.ireturn, 1) := by decide +kernel
theorem dX12_noRow_0 : decode cX12_noRow 0 = .ok (.aload_n 0, 1) := by decide +kernel
theorem dX12_noRow_1 : decode cX12_noRow 1 = .ok (.iload_n 1, 1) := by decide +kernel
theorem dX12_noRow_2 : decode cX12_noRow 2 = .ok (.invokevirtual 172, 3) := by decide +kernel
theorem dX12_noRow_5 : decode cX12_noRow 5 = .ok (.ifCond .ne 5, 3) := by decide +kernel
theorem dX12_noRow_8 : decode cX12_noRow 8 = .ok (.iconst (-1), 1) := by decide +kernel
theorem dX12_noRow_9 : decode cX12_noRow 9 = .ok (.ireturn, 1) := by decide +kernel
theorem dX12_noRow_10 : decode cX12_noRow 10 = .ok (.aload_n 0, 1) := by decide +kernel
theorem dX12_noRow_11 : decode cX12_noRow 11 = .ok (.getfield 55, 3) := by decide +kernel
theorem dX12_noRow_14 : decode cX12_noRow 14 = .ok (.iload_n 1, 1) := by decide +kernel
theorem dX12_noRow_15 : decode cX12_noRow 15 = .ok (.iaload, 1) := by decide +kernel
theorem dX12_noRow_16 : decode cX12_noRow 16 = .ok (.ifCond .ge 6, 3) := by decide +kernel
theorem dX12_noRow_19 : decode cX12_noRow 19 = .ok (.bipush (-3), 2) := by decide +kernel
theorem dX12_noRow_21 : decode cX12_noRow 21 = .ok (.ireturn, 1) := by decide +kernel
theorem dX12_noRow_22 : decode cX12_noRow 22 = .ok (.aload_n 0, 1) := by decide +kernel
theorem dX12_noRow_23 : decode cX12_noRow 23 = .ok (.iload_n 1, 1) := by decide +kernel
theorem dX12_noRow_24 : decode cX12_noRow 24 = .ok (.invokevirtual 179, 3) := by decide +kernel
theorem dX12_noRow_27 : decode cX12_noRow 27 = .ok (.ifCond .eq 7, 3) := by decide +kernel
theorem dX12_noRow_30 : decode cX12_noRow 30 = .ok (.iconst 0, 1) := by decide +kernel
theorem dX12_noRow_31 : decode cX12_noRow 31 = .ok (.goto 5, 3) := by decide +kernel
theorem dX12_noRow_34 : decode cX12_noRow 34 = .ok (.bipush (-2), 2) := by decide +kernel
theorem dX12_noRow_36 : decode cX12_noRow 36 = .ok (.ireturn, 1) := by decide +kernel
theorem dX12_set_0 : decode cX12_set 0 = .ok (.aload_n 0, 1) := by decide +kernel
theorem dX12_set_1 : decode cX12_set 1 = .ok (.iload_n 1, 1) := by decide +kernel
theorem dX12_set_2 : decode cX12_set 2 = .ok (.invokevirtual 182, 3) := by decide +kernel
theorem dX12_set_5 : decode cX12_set 5 = .ok (.istore 5, 2) := by decide +kernel
theorem dX12_set_7 : decode cX12_set 7 = .ok (.iload 5, 2) := by decide +kernel
theorem dX12_set_9 : decode cX12_set 9 = .ok (.ifCond .ge 10, 3) := by decide +kernel
theorem dX12_set_12 : decode cX12_set 12 = .ok (.aload_n 0, 1) := by decide +kernel
theorem dX12_set_13 : decode cX12_set 13 = .ok (.iload 5, 2) := by decide +kernel
theorem dX12_set_15 : decode cX12_set 15 = .ok (.invokevirtual 175, 3) := by decide +kernel
theorem dX12_set_18 : decode cX12_set 18 = .ok (.ireturn, 1) := by decide +kernel
theorem dX12_set_19 : decode cX12_set 19 = .ok (.iload_n 2, 1) := by decide +kernel
theorem dX12_set_20 : decode cX12_set 20 = .ok (.ifCond .lt 13, 3) := by decide +kernel
theorem dX12_set_23 : decode cX12_set 23 = .ok (.iload_n 2, 1) := by decide +kernel
theorem dX12_set_24 : decode cX12_set 24 = .ok (.aload_n 0, 1) := by decide +kernel
theorem dX12_set_25 : decode cX12_set 25 = .ok (.getfield 58, 3) := by decide +kernel
theorem dX12_set_28 : decode cX12_set 28 = .ok (.iload_n 1, 1) := by decide +kernel
theorem dX12_set_29 : decode cX12_set 29 = .ok (.iaload, 1) := by decide +kernel
theorem dX12_set_30 : decode cX12_set 30 = .ok (.if_icmp .lt 10, 3) := by decide +kernel
theorem dX12_set_33 : decode cX12_set 33 = .ok (.aload_n 0, 1) := by decide +kernel
theorem dX12_set_34 : decode cX12_set 34 = .ok (.bipush (-5), 2) := by decide +kernel
theorem dX12_set_36 : decode cX12_set 36 = .ok (.invokevirtual 175, 3) := by decide +kernel
theorem dX12_set_39 : decode cX12_set 39 = .ok (.ireturn, 1) := by decide +kernel
theorem dX12_set_40 : decode cX12_set 40 = .ok (.aload_n 0, 1) := by decide +kernel
theorem dX12_set_41 : decode cX12_set 41 = .ok (.getfield 55, 3) := by decide +kernel
theorem dX12_set_44 : decode cX12_set 44 = .ok (.iload_n 1, 1) := by decide +kernel
theorem dX12_set_45 : decode cX12_set 45 = .ok (.iaload, 1) := by decide +kernel
theorem dX12_set_46 : decode cX12_set 46 = .ok (.bipush 100, 2) := by decide +kernel
theorem dX12_set_48 : decode cX12_set 48 = .ok (.isub, 1) := by decide +kernel
theorem dX12_set_49 : decode cX12_set 49 = .ok (.istore 6, 2) := by decide +kernel
theorem dX12_set_51 : decode cX12_set 51 = .ok (.aload_n 0, 1) := by decide +kernel
theorem dX12_set_52 : decode cX12_set 52 = .ok (.getfield 61, 3) := by decide +kernel
theorem dX12_set_55 : decode cX12_set 55 = .ok (.bipush 60, 2) := by decide +kernel
theorem dX12_set_57 : decode cX12_set 57 = .ok (.iload_n 1, 1) := by decide +kernel
theorem dX12_set_58 : decode cX12_set 58 = .ok (.imul, 1) := by decide +kernel
theorem dX12_set_59 : decode cX12_set 59 = .ok (.iload_n 2, 1) := by decide +kernel
theorem dX12_set_60 : decode cX12_set 60 = .ok (.iadd, 1) := by decide +kernel
theorem dX12_set_61 : decode cX12_set 61 = .ok (.iload 6, 2) := by decide +kernel
theorem dX12_set_63 : decode cX12_set 63 = .ok (.ifCond .ne 10, 3) := by decide +kernel
theorem dX12_set_66 : decode cX12_set 66 = .ok (.lload_n 3, 1) := by decide +kernel
theorem dX12_set_67 : decode cX12_set 67 = .ok (.l2i, 1) := by decide +kernel
theorem dX12_set_68 : decode cX12_set 68 = .ok (.i2b, 1) := by decide +kernel
theorem dX12_set_69 : decode cX12_set 69 = .ok (.i2l, 1) := by decide +kernel
theorem dX12_set_70 : decode cX12_set 70 = .ok (.goto 29, 3) := by decide +kernel
theorem dX12_set_73 : decode cX12_set 73 = .ok (.iload 6, 2) := by decide +kernel
theorem dX12_set_75 : decode cX12_set 75 = .ok (.iconst 1, 1) := by decide +kernel
theorem dX12_set_76 : decode cX12_set 76 = .ok (.if_icmp .ne 10, 3) := by decide +kernel
theorem dX12_set_79 : decode cX12_set 79 = .ok (.lload_n 3, 1) := by decide +kernel
theorem dX12_set_80 : decode cX12_set 80 = .ok (.l2i, 1) := by decide +kernel
theorem dX12_set_81 : decode cX12_set 81 = .ok (.i2s, 1) := by decide +kernel
theorem dX12_set_82 : decode cX12_set 82 = .ok (.i2l, 1) := by decide +kernel
theorem dX12_set_83 : decode cX12_set 83 = .ok (.goto 16, 3) := by decide +kernel
theorem dX12_set_86 : decode cX12_set 86 = .ok (.iload 6, 2) := by decide +kernel
theorem dX12_set_88 : decode cX12_set 88 = .ok (.iconst 2, 1) := by decide +kernel
theorem dX12_set_89 : decode cX12_set 89 = .ok (.if_icmp .ne 9, 3) := by decide +kernel
theorem dX12_set_92 : decode cX12_set 92 = .ok (.lload_n 3, 1) := by decide +kernel
theorem dX12_set_93 : decode cX12_set 93 = .ok (.l2i, 1) := by decide +kernel
theorem dX12_set_94 : decode cX12_set 94 = .ok (.i2l, 1) := by decide +kernel
theorem dX12_set_95 : decode cX12_set 95 = .ok (.goto 4, 3) := by decide +kernel
theorem dX12_set_98 : decode cX12_set 98 = .ok (.lload_n 3, 1) := by decide +kernel
theorem dX12_set_99 : decode cX12_set 99 = .ok (.lastore, 1) := by decide +kernel
theorem dX12_set_100 : decode cX12_set 100 = .ok (.iconst 1, 1) := by decide +kernel
theorem dX12_set_101 : decode cX12_set 101 = .ok (.ireturn, 1) := by decide +kernel
theorem dX12_copy_0 : decode cX12_copy 0 = .ok (.aload_n 0, 1) := by decide +kernel
theorem dX12_copy_1 : decode cX12_copy 1 = .ok (.iload_n 1, 1) := by decide +kernel
theorem dX12_copy_2 : decode cX12_copy 2 = .ok (.invokevirtual 172, 3) := by decide +kernel
theorem dX12_copy_5 : decode cX12_copy 5 = .ok (.ifCond .eq 11, 3) := by decide +kernel
theorem dX12_copy_8 : decode cX12_copy 8 = .ok (.aload_n 0, 1) := by decide +kernel
theorem dX12_copy_9 : decode cX12_copy 9 = .ok (.iload_n 2, 1) := by decide +kernel
theorem dX12_copy_10 : decode cX12_copy 10 = .ok (.invokevirtual 172, 3) := by decide +kernel
theorem dX12_copy_13 : decode cX12_copy 13 = .ok (.ifCond .ne 9, 3) := by decide +kernel
theorem dX12_copy_16 : decode cX12_copy 16 = .ok (.aload_n 0, 1) := by decide +kernel
theorem dX12_copy_17 : decode cX12_copy 17 = .ok (.iconst (-1), 1) := by decide +kernel
theorem dX12_copy_18 : decode cX12_copy 18 = .ok (.invokevirtual 175, 3) := by decide +kernel
theorem dX12_copy_21 : decode cX12_copy 21 = .ok (.ireturn, 1) := by decide +kernel
theorem dX12_copy_22 : decode cX12_copy 22 = .ok (.aload_n 0, 1) := by decide +kernel
theorem dX12_copy_23 : decode cX12_copy 23 = .ok (.iload_n 1, 1) := by decide +kernel
theorem dX12_copy_24 : decode cX12_copy 24 = .ok (.invokevirtual 185, 3) := by decide +kernel
theorem dX12_copy_27 : decode cX12_copy 27 = .ok (.ifCond .ne 42, 3) := by decide +kernel
theorem dX12_copy_30 : decode cX12_copy 30 = .ok (.aload_n 0, 1) := by decide +kernel
theorem dX12_copy_31 : decode cX12_copy 31 = .ok (.iload_n 2, 1) := by decide +kernel
theorem dX12_copy_32 : decode cX12_copy 32 = .ok (.invokevirtual 185, 3) := by decide +kernel
theorem dX12_copy_35 : decode cX12_copy 35 = .ok (.ifCond .ne 34, 3) := by decide +kernel
theorem dX12_copy_38 : decode cX12_copy 38 = .ok (.aload_n 0, 1) := by decide +kernel
theorem dX12_copy_39 : decode cX12_copy 39 = .ok (.iload_n 1, 1) := by decide +kernel
theorem dX12_copy_40 : decode cX12_copy 40 = .ok (.invokevirtual 179, 3) := by decide +kernel
theorem dX12_copy_43 : decode cX12_copy 43 = .ok (.ifCond .eq 33, 3) := by decide +kernel
theorem dX12_copy_46 : decode cX12_copy 46 = .ok (.aload_n 0, 1) := by decide +kernel
theorem dX12_copy_47 : decode cX12_copy 47 = .ok (.iload_n 2, 1) := by decide +kernel
theorem dX12_copy_48 : decode cX12_copy 48 = .ok (.invokevirtual 179, 3) := by decide +kernel
theorem dX12_copy_51 : decode cX12_copy 51 = .ok (.ifCond .eq 25, 3) := by decide +kernel
theorem dX12_copy_54 : decode cX12_copy 54 = .ok (.aload_n 0, 1) := by decide +kernel
theorem dX12_copy_55 : decode cX12_copy 55 = .ok (.getfield 55, 3) := by decide +kernel
theorem dX12_copy_58 : decode cX12_copy 58 = .ok (.iload_n 1, 1) := by decide +kernel
theorem dX12_copy_59 : decode cX12_copy 59 = .ok (.iaload, 1) := by decide +kernel
theorem dX12_copy_60 : decode cX12_copy 60 = .ok (.aload_n 0, 1) := by decide +kernel
theorem dX12_copy_61 : decode cX12_copy 61 = .ok (.getfield 55, 3) := by decide +kernel
theorem dX12_copy_64 : decode cX12_copy 64 = .ok (.iload_n 2, 1) := by decide +kernel
theorem dX12_copy_65 : decode cX12_copy 65 = .ok (.iaload, 1) := by decide +kernel
theorem dX12_copy_66 : decode cX12_copy 66 = .ok (.if_icmp .eq 10, 3) := by decide +kernel
theorem dX12_copy_69 : decode cX12_copy 69 = .ok (.aload_n 0, 1) := by decide +kernel
theorem dX12_copy_70 : decode cX12_copy 70 = .ok (.bipush (-2), 2) := by decide +kernel
theorem dX12_copy_72 : decode cX12_copy 72 = .ok (.invokevirtual 175, 3) := by decide +kernel
theorem dX12_copy_75 : decode cX12_copy 75 = .ok (.ireturn, 1) := by decide +kernel
theorem dX12_copy_76 : decode cX12_copy 76 = .ok (.aload_n 0, 1) := by decide +kernel
theorem dX12_copy_77 : decode cX12_copy 77 = .ok (.getfield 55, 3) := by decide +kernel
theorem dX12_copy_80 : decode cX12_copy 80 = .ok (.iload_n 1, 1) := by decide +kernel
theorem dX12_copy_81 : decode cX12_copy 81 = .ok (.iaload, 1) := by decide +kernel
theorem dX12_copy_82 : decode cX12_copy 82 = .ok (.ifCond .lt 12, 3) := by decide +kernel
theorem dX12_copy_85 : decode cX12_copy 85 = .ok (.aload_n 0, 1) := by decide +kernel
theorem dX12_copy_86 : decode cX12_copy 86 = .ok (.getfield 55, 3) := by decide +kernel
theorem dX12_copy_89 : decode cX12_copy 89 = .ok (.iload_n 2, 1) := by decide +kernel
theorem dX12_copy_90 : decode cX12_copy 90 = .ok (.iaload, 1) := by decide +kernel
theorem dX12_copy_91 : decode cX12_copy 91 = .ok (.ifCond .ge 10, 3) := by decide +kernel
theorem dX12_copy_94 : decode cX12_copy 94 = .ok (.aload_n 0, 1) := by decide +kernel
theorem dX12_copy_95 : decode cX12_copy 95 = .ok (.bipush (-3), 2) := by decide +kernel
theorem dX12_copy_97 : decode cX12_copy 97 = .ok (.invokevirtual 175, 3) := by decide +kernel
theorem dX12_copy_100 : decode cX12_copy 100 = .ok (.ireturn, 1) := by decide +kernel
theorem dX12_copy_101 : decode cX12_copy 101 = .ok (.iload 5, 2) := by decide +kernel
theorem dX12_copy_103 : decode cX12_copy 103 = .ok (.ifCond .ge 10, 3) := by decide +kernel
theorem dX12_copy_106 : decode cX12_copy 106 = .ok (.aload_n 0, 1) := by decide +kernel
theorem dX12_copy_107 : decode cX12_copy 107 = .ok (.bipush (-4), 2) := by decide +kernel
theorem dX12_copy_109 : decode cX12_copy 109 = .ok (.invokevirtual 175, 3) := by decide +kernel
theorem dX12_copy_112 : decode cX12_copy 112 = .ok (.ireturn, 1) := by decide +kernel
theorem dX12_copy_113 : decode cX12_copy 113 = .ok (.iload_n 3, 1) := by decide +kernel
theorem dX12_copy_114 : decode cX12_copy 114 = .ok (.ifCond .lt 43, 3) := by decide +kernel
theorem dX12_copy_117 : decode cX12_copy 117 = .ok (.iload 4, 2) := by decide +kernel
theorem dX12_copy_119 : decode cX12_copy 119 = .ok (.ifCond .lt 38, 3) := by decide +kernel
theorem dX12_copy_122 : decode cX12_copy 122 = .ok (.iload_n 3, 1) := by decide +kernel
theorem dX12_copy_123 : decode cX12_copy 123 = .ok (.i2l, 1) := by decide +kernel
theorem dX12_copy_124 : decode cX12_copy 124 = .ok (.iload 5, 2) := by decide +kernel
theorem dX12_copy_126 : decode cX12_copy 126 = .ok (.i2l, 1) := by decide +kernel
theorem dX12_copy_127 : decode cX12_copy 127 = .ok (.ladd, 1) := by decide +kernel
theorem dX12_copy_128 : decode cX12_copy 128 = .ok (.aload_n 0, 1) := by decide +kernel
theorem dX12_copy_129 : decode cX12_copy 129 = .ok (.getfield 58, 3) := by decide +kernel
theorem dX12_copy_132 : decode cX12_copy 132 = .ok (.iload_n 1, 1) := by decide +kernel
theorem dX12_copy_133 : decode cX12_copy 133 = .ok (.iaload, 1) := by decide +kernel
theorem dX12_copy_134 : decode cX12_copy 134 = .ok (.i2l, 1) := by decide +kernel
theorem dX12_copy_135 : decode cX12_copy 135 = .ok (.lcmp, 1) := by decide +kernel
theorem dX12_copy_136 : decode cX12_copy 136 = .ok (.ifCond .gt 21, 3) := by decide +kernel
theorem dX12_copy_139 : decode cX12_copy 139 = .ok (.iload 4, 2) := by decide +kernel
theorem dX12_copy_141 : decode cX12_copy 141 = .ok (.i2l, 1) := by decide +kernel
theorem dX12_copy_142 : decode cX12_copy 142 = .ok (.iload 5, 2) := by decide +kernel
theorem dX12_copy_144 : decode cX12_copy 144 = .ok (.i2l, 1) := by decide +kernel
theorem dX12_copy_145 : decode cX12_copy 145 = .ok (.ladd, 1) := by decide +kernel
theorem dX12_copy_146 : decode cX12_copy 146 = .ok (.aload_n 0, 1) := by decide +kernel
theorem dX12_copy_147 : decode cX12_copy 147 = .ok (.getfield 58, 3) := by decide +kernel
theorem dX12_copy_150 : decode cX12_copy 150 = .ok (.iload_n 2, 1) := by decide +kernel
theorem dX12_copy_151 : decode cX12_copy 151 = .ok (.iaload, 1) := by decide +kernel
theorem dX12_copy_152 : decode cX12_copy 152 = .ok (.i2l, 1) := by decide +kernel
theorem dX12_copy_153 : decode cX12_copy 153 = .ok (.lcmp, 1) := by decide +kernel
theorem dX12_copy_154 : decode cX12_copy 154 = .ok (.ifCond .le 10, 3) := by decide +kernel
theorem dX12_copy_157 : decode cX12_copy 157 = .ok (.aload_n 0, 1) := by decide +kernel
theorem dX12_copy_158 : decode cX12_copy 158 = .ok (.bipush (-5), 2) := by decide +kernel
theorem dX12_copy_160 : decode cX12_copy 160 = .ok (.invokevirtual 175, 3) := by decide +kernel
theorem dX12_copy_163 : decode cX12_copy 163 = .ok (.ireturn, 1) := by decide +kernel
theorem dX12_copy_164 : decode cX12_copy 164 = .ok (.iload_n 1, 1) := by decide +kernel
theorem dX12_copy_165 : decode cX12_copy 165 = .ok (.iload_n 2, 1) := by decide +kernel
theorem dX12_copy_166 : decode cX12_copy 166 = .ok (.if_icmp .ne 58, 3) := by decide +kernel
theorem dX12_copy_169 : decode cX12_copy 169 = .ok (.iload_n 3, 1) := by decide +kernel
theorem dX12_copy_170 : decode cX12_copy 170 = .ok (.iload 4, 2) := by decide +kernel
theorem dX12_copy_172 : decode cX12_copy 172 = .ok (.if_icmp .ge 52, 3) := by decide +kernel
theorem dX12_copy_175 : decode cX12_copy 175 = .ok (.iload 5, 2) := by decide +kernel
theorem dX12_copy_177 : decode cX12_copy 177 = .ok (.iconst 1, 1) := by decide +kernel
theorem dX12_copy_178 : decode cX12_copy 178 = .ok (.isub, 1) := by decide +kernel
theorem dX12_copy_179 : decode cX12_copy 179 = .ok (.istore 6, 2) := by decide +kernel
theorem dX12_copy_181 : decode cX12_copy 181 = .ok (.iload 6, 2) := by decide +kernel
theorem dX12_copy_183 : decode cX12_copy 183 = .ok (.ifCond .lt 38, 3) := by decide +kernel
theorem dX12_copy_186 : decode cX12_copy 186 = .ok (.aload_n 0, 1) := by decide +kernel
theorem dX12_copy_187 : decode cX12_copy 187 = .ok (.getfield 61, 3) := by decide +kernel
theorem dX12_copy_190 : decode cX12_copy 190 = .ok (.bipush 60, 2) := by decide +kernel
theorem dX12_copy_192 : decode cX12_copy 192 = .ok (.iload_n 2, 1) := by decide +kernel
theorem dX12_copy_193 : decode cX12_copy 193 = .ok (.imul, 1) := by decide +kernel
theorem dX12_copy_194 : decode cX12_copy 194 = .ok (.iload 4, 2) := by decide +kernel
theorem dX12_copy_196 : decode cX12_copy 196 = .ok (.iadd, 1) := by decide +kernel
theorem dX12_copy_197 : decode cX12_copy 197 = .ok (.iload 6, 2) := by decide +kernel
theorem dX12_copy_199 : decode cX12_copy 199 = .ok (.iadd, 1) := by decide +kernel
theorem dX12_copy_200 : decode cX12_copy 200 = .ok (.aload_n 0, 1) := by decide +kernel
theorem dX12_copy_201 : decode cX12_copy 201 = .ok (.getfield 61, 3) := by decide +kernel
theorem dX12_copy_204 : decode cX12_copy 204 = .ok (.bipush 60, 2) := by decide +kernel
theorem dX12_copy_206 : decode cX12_copy 206 = .ok (.iload_n 1, 1) := by decide +kernel
theorem dX12_copy_207 : decode cX12_copy 207 = .ok (.imul, 1) := by decide +kernel
theorem dX12_copy_208 : decode cX12_copy 208 = .ok (.iload_n 3, 1) := by decide +kernel
theorem dX12_copy_209 : decode cX12_copy 209 = .ok (.iadd, 1) := by decide +kernel
theorem dX12_copy_210 : decode cX12_copy 210 = .ok (.iload 6, 2) := by decide +kernel
theorem dX12_copy_212 : decode cX12_copy 212 = .ok (.iadd, 1) := by decide +kernel
theorem dX12_copy_213 : decode cX12_copy 213 = .ok (.laload, 1) := by decide +kernel
theorem dX12_copy_214 : decode cX12_copy 214 = .ok (.lastore, 1) := by decide +kernel
theorem dX12_copy_215 : decode cX12_copy 215 = .ok (.iinc 6 (-1), 3) := by decide +kernel
theorem dX12_copy_218 : decode cX12_copy 218 = .ok (.goto (-37), 3) := by decide +kernel
theorem dX12_copy_221 : decode cX12_copy 221 = .ok (.goto 48, 3) := by decide +kernel
theorem dX12_copy_224 : decode cX12_copy 224 = .ok (.iconst 0, 1) := by decide +kernel
theorem dX12_copy_225 : decode cX12_copy 225 = .ok (.istore 6, 2) := by decide +kernel
theorem dX12_copy_227 : decode cX12_copy 227 = .ok (.iload 6, 2) := by decide +kernel
theorem dX12_copy_229 : decode cX12_copy 229 = .ok (.iload 5, 2) := by decide +kernel
theorem dX12_copy_231 : decode cX12_copy 231 = .ok (.if_icmp .ge 38, 3) := by decide +kernel
theorem dX12_copy_234 : decode cX12_copy 234 = .ok (.aload_n 0, 1) := by decide +kernel
theorem dX12_copy_235 : decode cX12_copy 235 = .ok (.getfield 61, 3) := by decide +kernel
theorem dX12_copy_238 : decode cX12_copy 238 = .ok (.bipush 60, 2) := by decide +kernel
theorem dX12_copy_240 : decode cX12_copy 240 = .ok (.iload_n 2, 1) := by decide +kernel
theorem dX12_copy_241 : decode cX12_copy 241 = .ok (.imul, 1) := by decide +kernel
theorem dX12_copy_242 : decode cX12_copy 242 = .ok (.iload 4, 2) := by decide +kernel
theorem dX12_copy_244 : decode cX12_copy 244 = .ok (.iadd, 1) := by decide +kernel
theorem dX12_copy_245 : decode cX12_copy 245 = .ok (.iload 6, 2) := by decide +kernel
theorem dX12_copy_247 : decode cX12_copy 247 = .ok (.iadd, 1) := by decide +kernel
theorem dX12_copy_248 : decode cX12_copy 248 = .ok (.aload_n 0, 1) := by decide +kernel
theorem dX12_copy_249 : decode cX12_copy 249 = .ok (.getfield 61, 3) := by decide +kernel
theorem dX12_copy_252 : decode cX12_copy 252 = .ok (.bipush 60, 2) := by decide +kernel
theorem dX12_copy_254 : decode cX12_copy 254 = .ok (.iload_n 1, 1) := by decide +kernel
theorem dX12_copy_255 : decode cX12_copy 255 = .ok (.imul, 1) := by decide +kernel
theorem dX12_copy_256 : decode cX12_copy 256 = .ok (.iload_n 3, 1) := by decide +kernel
theorem dX12_copy_257 : decode cX12_copy 257 = .ok (.iadd, 1) := by decide +kernel
theorem dX12_copy_258 : decode cX12_copy 258 = .ok (.iload 6, 2) := by decide +kernel
theorem dX12_copy_260 : decode cX12_copy 260 = .ok (.iadd, 1) := by decide +kernel
theorem dX12_copy_261 : decode cX12_copy 261 = .ok (.laload, 1) := by decide +kernel
theorem dX12_copy_262 : decode cX12_copy 262 = .ok (.lastore, 1) := by decide +kernel
theorem dX12_copy_263 : decode cX12_copy 263 = .ok (.iinc 6 1, 3) := by decide +kernel
theorem dX12_copy_266 : decode cX12_copy 266 = .ok (.goto (-39), 3) := by decide +kernel
theorem dX12_copy_269 : decode cX12_copy 269 = .ok (.iconst 1, 1) := by decide +kernel
theorem dX12_copy_270 : decode cX12_copy 270 = .ok (.ireturn, 1) := by decide +kernel
theorem dX12_element_0 : decode cX12_element 0 = .ok (.aload_n 0, 1) := by decide +kernel
theorem dX12_element_1 : decode cX12_element 1 = .ok (.iload_n 1, 1) := by decide +kernel
theorem dX12_element_2 : decode cX12_element 2 = .ok (.invokevirtual 172, 3) := by decide +kernel
theorem dX12_element_5 : decode cX12_element 5 = .ok (.ifCond .eq 25, 3) := by decide +kernel
theorem dX12_element_8 : decode cX12_element 8 = .ok (.aload_n 0, 1) := by decide +kernel
theorem dX12_element_9 : decode cX12_element 9 = .ok (.iload_n 1, 1) := by decide +kernel
theorem dX12_element_10 : decode cX12_element 10 = .ok (.invokevirtual 179, 3) := by decide +kernel
theorem dX12_element_13 : decode cX12_element 13 = .ok (.ifCond .eq 17, 3) := by decide +kernel
theorem dX12_element_16 : decode cX12_element 16 = .ok (.iload_n 2, 1) := by decide +kernel
theorem dX12_element_17 : decode cX12_element 17 = .ok (.ifCond .lt 13, 3) := by decide +kernel
theorem dX12_element_20 : decode cX12_element 20 = .ok (.iload_n 2, 1) := by decide +kernel
theorem dX12_element_21 : decode cX12_element 21 = .ok (.aload_n 0, 1) := by decide +kernel
theorem dX12_element_22 : decode cX12_element 22 = .ok (.getfield 58, 3) := by decide +kernel
theorem dX12_element_25 : decode cX12_element 25 = .ok (.iload_n 1, 1) := by decide +kernel
theorem dX12_element_26 : decode cX12_element 26 = .ok (.iaload, 1) := by decide +kernel
theorem dX12_element_27 : decode cX12_element 27 = .ok (.if_icmp .lt 5, 3) := by decide +kernel
theorem dX12_element_30 : decode cX12_element 30 = .ok (.lconst 0, 1) := by decide +kernel
theorem dX12_element_31 : decode cX12_element 31 = .ok (.lreturn, 1) := by decide +kernel
theorem dX12_element_32 : decode cX12_element 32 = .ok (.aload_n 0, 1) := by decide +kernel
theorem dX12_element_33 : decode cX12_element 33 = .ok (.getfield 61, 3) := by decide +kernel
theorem dX12_element_36 : decode cX12_element 36 = .ok (.bipush 60, 2) := by decide +kernel
theorem dX12_element_38 : decode cX12_element 38 = .ok (.iload_n 1, 1) := by decide +kernel
theorem dX12_element_39 : decode cX12_element 39 = .ok (.imul, 1) := by decide +kernel
theorem dX12_element_40 : decode cX12_element 40 = .ok (.iload_n 2, 1) := by decide +kernel
theorem dX12_element_41 : decode cX12_element 41 = .ok (.iadd, 1) := by decide +kernel
theorem dX12_element_42 : decode cX12_element 42 = .ok (.laload, 1) := by decide +kernel
theorem dX12_element_43 : decode cX12_element 43 = .ok (.lreturn, 1) := by decide +kernel
theorem dX12_show_0 : decode cX12_show 0 = .ok (.aload_n 0, 1) := by decide +kernel
theorem dX12_show_1 : decode cX12_show 1 = .ok (.iload_n 1, 1) := by decide +kernel
theorem dX12_show_2 : decode cX12_show 2 = .ok (.invokevirtual 172, 3) := by decide +kernel
theorem dX12_show_5 : decode cX12_show 5 = .ok (.ifCond .eq 16, 3) := by decide +kernel
theorem dX12_show_8 : decode cX12_show 8 = .ok (.iload_n 2, 1) := by decide +kernel
theorem dX12_show_9 : decode cX12_show 9 = .ok (.iconst (-1), 1) := by decide +kernel
theorem dX12_show_10 : decode cX12_show 10 = .ok (.if_icmp .eq 17, 3) := by decide +kernel
theorem dX12_show_13 : decode cX12_show 13 = .ok (.aload_n 0, 1) := by decide +kernel
theorem dX12_show_14 : decode cX12_show 14 = .ok (.iload_n 2, 1) := by decide +kernel
theorem dX12_show_15 : decode cX12_show 15 = .ok (.invokevirtual 188, 3) := by decide +kernel
theorem dX12_show_18 : decode cX12_show 18 = .ok (.ifCond .ne 9, 3) := by decide +kernel
theorem dX12_show_21 : decode cX12_show 21 = .ok (.aload_n 0, 1) := by decide +kernel
theorem dX12_show_22 : decode cX12_show 22 = .ok (.iconst (-1), 1) := by decide +kernel
theorem dX12_show_23 : decode cX12_show 23 = .ok (.invokevirtual 175, 3) := by decide +kernel
theorem dX12_show_26 : decode cX12_show 26 = .ok (.ireturn, 1) := by decide +kernel
theorem dX12_show_27 : decode cX12_show 27 = .ok (.aload_n 0, 1) := by decide +kernel
theorem dX12_show_28 : decode cX12_show 28 = .ok (.getfield 55, 3) := by decide +kernel
theorem dX12_show_31 : decode cX12_show 31 = .ok (.iload_n 1, 1) := by decide +kernel
theorem dX12_show_32 : decode cX12_show 32 = .ok (.iload_n 2, 1) := by decide +kernel
theorem dX12_show_33 : decode cX12_show 33 = .ok (.iastore, 1) := by decide +kernel
theorem dX12_show_34 : decode cX12_show 34 = .ok (.iload_n 2, 1) := by decide +kernel
theorem dX12_show_35 : decode cX12_show 35 = .ok (.ifCond .ge 7, 3) := by decide +kernel
theorem dX12_show_38 : decode cX12_show 38 = .ok (.iconst 0, 1) := by decide +kernel
theorem dX12_show_39 : decode cX12_show 39 = .ok (.goto 4, 3) := by decide +kernel
theorem dX12_show_42 : decode cX12_show 42 = .ok (.iconst 1, 1) := by decide +kernel
theorem dX12_show_43 : decode cX12_show 43 = .ok (.ireturn, 1) := by decide +kernel
theorem dX12_holds_0 : decode cX12_holds 0 = .ok (.aload_n 0, 1) := by decide +kernel
theorem dX12_holds_1 : decode cX12_holds 1 = .ok (.iload_n 1, 1) := by decide +kernel
theorem dX12_holds_2 : decode cX12_holds 2 = .ok (.invokevirtual 172, 3) := by decide +kernel
theorem dX12_holds_5 : decode cX12_holds 5 = .ok (.ifCond .eq 12, 3) := by decide +kernel
theorem dX12_holds_8 : decode cX12_holds 8 = .ok (.aload_n 0, 1) := by decide +kernel
theorem dX12_holds_9 : decode cX12_holds 9 = .ok (.getfield 55, 3) := by decide +kernel
theorem dX12_holds_12 : decode cX12_holds 12 = .ok (.iload_n 1, 1) := by decide +kernel
theorem dX12_holds_13 : decode cX12_holds 13 = .ok (.iaload, 1) := by decide +kernel
theorem dX12_holds_14 : decode cX12_holds 14 = .ok (.goto 4, 3) := by decide +kernel
theorem dX12_holds_17 : decode cX12_holds 17 = .ok (.iconst (-1), 1) := by decide +kernel
theorem dX12_holds_18 : decode cX12_holds 18 = .ok (.ireturn, 1) := by decide +kernel
theorem dX12_says_0 : decode cX12_says 0 = .ok (.aload_n 0, 1) := by decide +kernel
theorem dX12_says_1 : decode cX12_says 1 = .ok (.iload_n 1, 1) := by decide +kernel
theorem dX12_says_2 : decode cX12_says 2 = .ok (.invokevirtual 172, 3) := by decide +kernel
theorem dX12_says_5 : decode cX12_says 5 = .ok (.ifCond .eq 12, 3) := by decide +kernel
theorem dX12_says_8 : decode cX12_says 8 = .ok (.iload_n 2, 1) := by decide +kernel
theorem dX12_says_9 : decode cX12_says 9 = .ok (.ifCond .lt 8, 3) := by decide +kernel
theorem dX12_says_12 : decode cX12_says 12 = .ok (.iload_n 2, 1) := by decide +kernel
theorem dX12_says_13 : decode cX12_says 13 = .ok (.iconst 3, 1) := by decide +kernel
theorem dX12_says_14 : decode cX12_says 14 = .ok (.if_icmp .le 9, 3) := by decide +kernel
theorem dX12_says_17 : decode cX12_says 17 = .ok (.aload_n 0, 1) := by decide +kernel
theorem dX12_says_18 : decode cX12_says 18 = .ok (.iconst (-1), 1) := by decide +kernel
theorem dX12_says_19 : decode cX12_says 19 = .ok (.invokevirtual 175, 3) := by decide +kernel
theorem dX12_says_22 : decode cX12_says 22 = .ok (.ireturn, 1) := by decide +kernel
theorem dX12_says_23 : decode cX12_says 23 = .ok (.aload_n 0, 1) := by decide +kernel
theorem dX12_says_24 : decode cX12_says 24 = .ok (.iload_n 1, 1) := by decide +kernel
theorem dX12_says_25 : decode cX12_says 25 = .ok (.invokevirtual 179, 3) := by decide +kernel
theorem dX12_says_28 : decode cX12_says 28 = .ok (.ifCond .eq 10, 3) := by decide +kernel
theorem dX12_says_31 : decode cX12_says 31 = .ok (.aload_n 0, 1) := by decide +kernel
theorem dX12_says_32 : decode cX12_says 32 = .ok (.bipush (-2), 2) := by decide +kernel
theorem dX12_says_34 : decode cX12_says 34 = .ok (.invokevirtual 175, 3) := by decide +kernel
theorem dX12_says_37 : decode cX12_says 37 = .ok (.ireturn, 1) := by decide +kernel
theorem dX12_says_38 : decode cX12_says 38 = .ok (.aload_n 0, 1) := by decide +kernel
theorem dX12_says_39 : decode cX12_says 39 = .ok (.getfield 55, 3) := by decide +kernel
theorem dX12_says_42 : decode cX12_says 42 = .ok (.iload_n 1, 1) := by decide +kernel
theorem dX12_says_43 : decode cX12_says 43 = .ok (.iaload, 1) := by decide +kernel
theorem dX12_says_44 : decode cX12_says 44 = .ok (.ifCond .ge 10, 3) := by decide +kernel
theorem dX12_says_47 : decode cX12_says 47 = .ok (.aload_n 0, 1) := by decide +kernel
theorem dX12_says_48 : decode cX12_says 48 = .ok (.bipush (-3), 2) := by decide +kernel
theorem dX12_says_50 : decode cX12_says 50 = .ok (.invokevirtual 175, 3) := by decide +kernel
theorem dX12_says_53 : decode cX12_says 53 = .ok (.ireturn, 1) := by decide +kernel
theorem dX12_says_54 : decode cX12_says 54 = .ok (.aload_n 0, 1) := by decide +kernel
theorem dX12_says_55 : decode cX12_says 55 = .ok (.getfield 55, 3) := by decide +kernel
theorem dX12_says_58 : decode cX12_says 58 = .ok (.iload_n 1, 1) := by decide +kernel
theorem dX12_says_59 : decode cX12_says 59 = .ok (.iaload, 1) := by decide +kernel
theorem dX12_says_60 : decode cX12_says 60 = .ok (.istore_n 3, 1) := by decide +kernel
theorem dX12_says_61 : decode cX12_says 61 = .ok (.iload_n 2, 1) := by decide +kernel
theorem dX12_says_62 : decode cX12_says 62 = .ok (.ifCond .eq 35, 3) := by decide +kernel
theorem dX12_says_65 : decode cX12_says 65 = .ok (.iload_n 2, 1) := by decide +kernel
theorem dX12_says_66 : decode cX12_says 66 = .ok (.aload_n 0, 1) := by decide +kernel
theorem dX12_says_67 : decode cX12_says 67 = .ok (.getfield 31, 3) := by decide +kernel
theorem dX12_says_70 : decode cX12_says 70 = .ok (.iload_n 3, 1) := by decide +kernel
theorem dX12_says_71 : decode cX12_says 71 = .ok (.iaload, 1) := by decide +kernel
theorem dX12_says_72 : decode cX12_says 72 = .ok (.if_icmp .eq 25, 3) := by decide +kernel
theorem dX12_says_75 : decode cX12_says 75 = .ok (.iload_n 2, 1) := by decide +kernel
theorem dX12_says_76 : decode cX12_says 76 = .ok (.iconst 1, 1) := by decide +kernel
theorem dX12_says_77 : decode cX12_says 77 = .ok (.if_icmp .ne 13, 3) := by decide +kernel
theorem dX12_says_80 : decode cX12_says 80 = .ok (.aload_n 0, 1) := by decide +kernel
theorem dX12_says_81 : decode cX12_says 81 = .ok (.getfield 31, 3) := by decide +kernel
theorem dX12_says_84 : decode cX12_says 84 = .ok (.iload_n 3, 1) := by decide +kernel
theorem dX12_says_85 : decode cX12_says 85 = .ok (.iaload, 1) := by decide +kernel
theorem dX12_says_86 : decode cX12_says 86 = .ok (.iconst 3, 1) := by decide +kernel
theorem dX12_says_87 : decode cX12_says 87 = .ok (.if_icmp .eq 10, 3) := by decide +kernel
theorem dX12_says_90 : decode cX12_says 90 = .ok (.aload_n 0, 1) := by decide +kernel
theorem dX12_says_91 : decode cX12_says 91 = .ok (.bipush (-2), 2) := by decide +kernel
theorem dX12_says_93 : decode cX12_says 93 = .ok (.invokevirtual 175, 3) := by decide +kernel
theorem dX12_says_96 : decode cX12_says 96 = .ok (.ireturn, 1) := by decide +kernel
theorem dX12_says_97 : decode cX12_says 97 = .ok (.iload_n 2, 1) := by decide +kernel
theorem dX12_says_98 : decode cX12_says 98 = .ok (.ifCond .ne 12, 3) := by decide +kernel
theorem dX12_says_101 : decode cX12_says 101 = .ok (.aload_n 0, 1) := by decide +kernel
theorem dX12_says_102 : decode cX12_says 102 = .ok (.getfield 46, 3) := by decide +kernel
theorem dX12_says_105 : decode cX12_says 105 = .ok (.iload_n 3, 1) := by decide +kernel
theorem dX12_says_106 : decode cX12_says 106 = .ok (.iaload, 1) := by decide +kernel
theorem dX12_says_107 : decode cX12_says 107 = .ok (.goto 23, 3) := by decide +kernel
theorem dX12_says_110 : decode cX12_says 110 = .ok (.iload_n 2, 1) := by decide +kernel
theorem dX12_says_111 : decode cX12_says 111 = .ok (.iconst 2, 1) := by decide +kernel
theorem dX12_says_112 : decode cX12_says 112 = .ok (.if_icmp .ne 12, 3) := by decide +kernel
theorem dX12_says_115 : decode cX12_says 115 = .ok (.aload_n 0, 1) := by decide +kernel
theorem dX12_says_116 : decode cX12_says 116 = .ok (.getfield 43, 3) := by decide +kernel
theorem dX12_says_119 : decode cX12_says 119 = .ok (.iload_n 3, 1) := by decide +kernel
theorem dX12_says_120 : decode cX12_says 120 = .ok (.iaload, 1) := by decide +kernel
theorem dX12_says_121 : decode cX12_says 121 = .ok (.goto 9, 3) := by decide +kernel
theorem dX12_says_124 : decode cX12_says 124 = .ok (.aload_n 0, 1) := by decide +kernel
theorem dX12_says_125 : decode cX12_says 125 = .ok (.getfield 40, 3) := by decide +kernel
theorem dX12_says_128 : decode cX12_says 128 = .ok (.iload_n 3, 1) := by decide +kernel
theorem dX12_says_129 : decode cX12_says 129 = .ok (.iaload, 1) := by decide +kernel
theorem dX12_says_130 : decode cX12_says 130 = .ok (.ireturn, 1) := by decide +kernel
theorem dX12_letter_0 : decode cX12_letter 0 = .ok (.iload_n 2, 1) := by decide +kernel
theorem dX12_letter_1 : decode cX12_letter 1 = .ok (.aload_n 0, 1) := by decide +kernel
theorem dX12_letter_2 : decode cX12_letter 2 = .ok (.getfield 58, 3) := by decide +kernel
theorem dX12_letter_5 : decode cX12_letter 5 = .ok (.iload_n 1, 1) := by decide +kernel
theorem dX12_letter_6 : decode cX12_letter 6 = .ok (.iaload, 1) := by decide +kernel
theorem dX12_letter_7 : decode cX12_letter 7 = .ok (.if_icmp .ge 18, 3) := by decide +kernel
theorem dX12_letter_10 : decode cX12_letter 10 = .ok (.aload_n 0, 1) := by decide +kernel
theorem dX12_letter_11 : decode cX12_letter 11 = .ok (.getfield 61, 3) := by decide +kernel
theorem dX12_letter_14 : decode cX12_letter 14 = .ok (.bipush 60, 2) := by decide +kernel
theorem dX12_letter_16 : decode cX12_letter 16 = .ok (.iload_n 1, 1) := by decide +kernel
theorem dX12_letter_17 : decode cX12_letter 17 = .ok (.imul, 1) := by decide +kernel
theorem dX12_letter_18 : decode cX12_letter 18 = .ok (.iload_n 2, 1) := by decide +kernel
theorem dX12_letter_19 : decode cX12_letter 19 = .ok (.iadd, 1) := by decide +kernel
theorem dX12_letter_20 : decode cX12_letter 20 = .ok (.laload, 1) := by decide +kernel
theorem dX12_letter_21 : decode cX12_letter 21 = .ok (.l2i, 1) := by decide +kernel
theorem dX12_letter_22 : decode cX12_letter 22 = .ok (.goto 4, 3) := by decide +kernel
theorem dX12_letter_25 : decode cX12_letter 25 = .ok (.iconst 0, 1) := by decide +kernel
theorem dX12_letter_26 : decode cX12_letter 26 = .ok (.ireturn, 1) := by decide +kernel
theorem dX12_isDigitOf_0 : decode cX12_isDigitOf 0 = .ok (.iload_n 1, 1) := by decide +kernel
theorem dX12_isDigitOf_1 : decode cX12_isDigitOf 1 = .ok (.bipush 48, 2) := by decide +kernel
theorem dX12_isDigitOf_3 : decode cX12_isDigitOf 3 = .ok (.isub, 1) := by decide +kernel
theorem dX12_isDigitOf_4 : decode cX12_isDigitOf 4 = .ok (.istore_n 3, 1) := by decide +kernel
theorem dX12_isDigitOf_5 : decode cX12_isDigitOf 5 = .ok (.iload_n 3, 1) := by decide +kernel
theorem dX12_isDigitOf_6 : decode cX12_isDigitOf 6 = .ok (.ifCond .lt 35, 3) := by decide +kernel
theorem dX12_isDigitOf_9 : decode cX12_isDigitOf 9 = .ok (.iload_n 3, 1) := by decide +kernel
theorem dX12_isDigitOf_10 : decode cX12_isDigitOf 10 = .ok (.bipush 10, 2) := by decide +kernel
theorem dX12_isDigitOf_12 : decode cX12_isDigitOf 12 = .ok (.if_icmp .ge 29, 3) := by decide +kernel
theorem dX12_isDigitOf_15 : decode cX12_isDigitOf 15 = .ok (.aload_n 0, 1) := by decide +kernel
theorem dX12_isDigitOf_16 : decode cX12_isDigitOf 16 = .ok (.iload_n 3, 1) := by decide +kernel
theorem dX12_isDigitOf_17 : decode cX12_isDigitOf 17 = .ok (.invokevirtual 191, 3) := by decide +kernel
theorem dX12_isDigitOf_20 : decode cX12_isDigitOf 20 = .ok (.ifCond .eq 21, 3) := by decide +kernel
theorem dX12_isDigitOf_23 : decode cX12_isDigitOf 23 = .ok (.iload_n 2, 1) := by decide +kernel
theorem dX12_isDigitOf_24 : decode cX12_isDigitOf 24 = .ok (.ifCond .lt 13, 3) := by decide +kernel
theorem dX12_isDigitOf_27 : decode cX12_isDigitOf 27 = .ok (.aload_n 0, 1) := by decide +kernel
theorem dX12_isDigitOf_28 : decode cX12_isDigitOf 28 = .ok (.getfield 7, 3) := by decide +kernel
theorem dX12_isDigitOf_31 : decode cX12_isDigitOf 31 = .ok (.iload_n 3, 1) := by decide +kernel
theorem dX12_isDigitOf_32 : decode cX12_isDigitOf 32 = .ok (.iaload, 1) := by decide +kernel
theorem dX12_isDigitOf_33 : decode cX12_isDigitOf 33 = .ok (.iload_n 2, 1) := by decide +kernel
theorem dX12_isDigitOf_34 : decode cX12_isDigitOf 34 = .ok (.if_icmp .ne 7, 3) := by decide +kernel
theorem dX12_isDigitOf_37 : decode cX12_isDigitOf 37 = .ok (.iconst 1, 1) := by decide +kernel
theorem dX12_isDigitOf_38 : decode cX12_isDigitOf 38 = .ok (.goto 4, 3) := by decide +kernel
theorem dX12_isDigitOf_41 : decode cX12_isDigitOf 41 = .ok (.iconst 0, 1) := by decide +kernel
theorem dX12_isDigitOf_42 : decode cX12_isDigitOf 42 = .ok (.ireturn, 1) := by decide +kernel
theorem dX12_overCondition_0 : decode cX12_overCondition 0 = .ok (.aload_n 0, 1) := by decide +kernel
theorem dX12_overCondition_1 : decode cX12_overCondition 1 = .ok (.iload_n 1, 1) := by decide +kernel
theorem dX12_overCondition_2 : decode cX12_overCondition 2 = .ok (.aload_n 0, 1) := by decide +kernel
theorem dX12_overCondition_3 : decode cX12_overCondition 3 = .ok (.getfield 194, 3) := by decide +kernel
theorem dX12_overCondition_6 : decode cX12_overCondition 6 = .ok (.invokevirtual 197, 3) := by decide +kernel
theorem dX12_overCondition_9 : decode cX12_overCondition 9 = .ok (.bipush 33, 2) := by decide +kernel
theorem dX12_overCondition_11 : decode cX12_overCondition 11 = .ok (.if_icmp .ne 13, 3) := by decide +kernel
theorem dX12_overCondition_14 : decode cX12_overCondition 14 = .ok (.aload_n 0, 1) := by decide +kernel
theorem dX12_overCondition_15 : decode cX12_overCondition 15 = .ok (.dup, 1) := by decide +kernel
theorem dX12_overCondition_16 : decode cX12_overCondition 16 = .ok (.getfield 194, 3) := by decide +kernel
theorem dX12_overCondition_19 : decode cX12_overCondition 19 = .ok (.iconst 1, 1) := by decide +kernel
theorem dX12_overCondition_20 : decode cX12_overCondition 20 = .ok (.iadd, 1) := by decide +kernel
theorem dX12_overCondition_21 : decode cX12_overCondition 21 = .ok (.putfield 194, 3) := by decide +kernel
theorem dX12_overCondition_24 : decode cX12_overCondition 24 = .ok (.aload_n 0, 1) := by decide +kernel
theorem dX12_overCondition_25 : decode cX12_overCondition 25 = .ok (.iload_n 1, 1) := by decide +kernel
theorem dX12_overCondition_26 : decode cX12_overCondition 26 = .ok (.aload_n 0, 1) := by decide +kernel
theorem dX12_overCondition_27 : decode cX12_overCondition 27 = .ok (.getfield 194, 3) := by decide +kernel
theorem dX12_overCondition_30 : decode cX12_overCondition 30 = .ok (.invokevirtual 197, 3) := by decide +kernel
theorem dX12_overCondition_33 : decode cX12_overCondition 33 = .ok (.istore_n 2, 1) := by decide +kernel
theorem dX12_overCondition_34 : decode cX12_overCondition 34 = .ok (.aload_n 0, 1) := by decide +kernel
theorem dX12_overCondition_35 : decode cX12_overCondition 35 = .ok (.iload_n 2, 1) := by decide +kernel
theorem dX12_overCondition_36 : decode cX12_overCondition 36 = .ok (.iconst (-1), 1) := by decide +kernel
theorem dX12_overCondition_37 : decode cX12_overCondition 37 = .ok (.invokevirtual 201, 3) := by decide +kernel
theorem dX12_overCondition_40 : decode cX12_overCondition 40 = .ok (.ifCond .ne 5, 3) := by decide +kernel
theorem dX12_overCondition_43 : decode cX12_overCondition 43 = .ok (.iconst 0, 1) := by decide +kernel
theorem dX12_overCondition_44 : decode cX12_overCondition 44 = .ok (.ireturn, 1) := by decide +kernel
theorem dX12_overCondition_45 : decode cX12_overCondition 45 = .ok (.aload_n 0, 1) := by decide +kernel
theorem dX12_overCondition_46 : decode cX12_overCondition 46 = .ok (.dup, 1) := by decide +kernel
theorem dX12_overCondition_47 : decode cX12_overCondition 47 = .ok (.getfield 194, 3) := by decide +kernel
theorem dX12_overCondition_50 : decode cX12_overCondition 50 = .ok (.iconst 1, 1) := by decide +kernel
theorem dX12_overCondition_51 : decode cX12_overCondition 51 = .ok (.iadd, 1) := by decide +kernel
theorem dX12_overCondition_52 : decode cX12_overCondition 52 = .ok (.putfield 194, 3) := by decide +kernel
theorem dX12_overCondition_55 : decode cX12_overCondition 55 = .ok (.aload_n 0, 1) := by decide +kernel
theorem dX12_overCondition_56 : decode cX12_overCondition 56 = .ok (.iload_n 2, 1) := by decide +kernel
theorem dX12_overCondition_57 : decode cX12_overCondition 57 = .ok (.iconst 3, 1) := by decide +kernel
theorem dX12_overCondition_58 : decode cX12_overCondition 58 = .ok (.invokevirtual 201, 3) := by decide +kernel
theorem dX12_overCondition_61 : decode cX12_overCondition 61 = .ok (.ifCond .eq 67, 3) := by decide +kernel
theorem dX12_overCondition_64 : decode cX12_overCondition 64 = .ok (.aload_n 0, 1) := by decide +kernel
theorem dX12_overCondition_65 : decode cX12_overCondition 65 = .ok (.iload_n 1, 1) := by decide +kernel
theorem dX12_overCondition_66 : decode cX12_overCondition 66 = .ok (.aload_n 0, 1) := by decide +kernel
theorem dX12_overCondition_67 : decode cX12_overCondition 67 = .ok (.getfield 194, 3) := by decide +kernel
theorem dX12_overCondition_70 : decode cX12_overCondition 70 = .ok (.invokevirtual 197, 3) := by decide +kernel
theorem dX12_overCondition_73 : decode cX12_overCondition 73 = .ok (.bipush 62, 2) := by decide +kernel
theorem dX12_overCondition_75 : decode cX12_overCondition 75 = .ok (.if_icmp .ne 53, 3) := by decide +kernel
theorem dX12_overCondition_78 : decode cX12_overCondition 78 = .ok (.aload_n 0, 1) := by decide +kernel
theorem dX12_overCondition_79 : decode cX12_overCondition 79 = .ok (.dup, 1) := by decide +kernel
theorem dX12_overCondition_80 : decode cX12_overCondition 80 = .ok (.getfield 194, 3) := by decide +kernel
theorem dX12_overCondition_83 : decode cX12_overCondition 83 = .ok (.iconst 1, 1) := by decide +kernel
theorem dX12_overCondition_84 : decode cX12_overCondition 84 = .ok (.iadd, 1) := by decide +kernel
theorem dX12_overCondition_85 : decode cX12_overCondition 85 = .ok (.putfield 194, 3) := by decide +kernel
theorem dX12_overCondition_88 : decode cX12_overCondition 88 = .ok (.aload_n 0, 1) := by decide +kernel
theorem dX12_overCondition_89 : decode cX12_overCondition 89 = .ok (.iload_n 1, 1) := by decide +kernel
theorem dX12_overCondition_90 : decode cX12_overCondition 90 = .ok (.aload_n 0, 1) := by decide +kernel
theorem dX12_overCondition_91 : decode cX12_overCondition 91 = .ok (.getfield 194, 3) := by decide +kernel
theorem dX12_overCondition_94 : decode cX12_overCondition 94 = .ok (.invokevirtual 197, 3) := by decide +kernel
theorem dX12_overCondition_97 : decode cX12_overCondition 97 = .ok (.bipush 48, 2) := by decide +kernel
theorem dX12_overCondition_99 : decode cX12_overCondition 99 = .ok (.if_icmp .lt 17, 3) := by decide +kernel
theorem dX12_overCondition_102 : decode cX12_overCondition 102 = .ok (.aload_n 0, 1) := by decide +kernel
theorem dX12_overCondition_103 : decode cX12_overCondition 103 = .ok (.iload_n 1, 1) := by decide +kernel
theorem dX12_overCondition_104 : decode cX12_overCondition 104 = .ok (.aload_n 0, 1) := by decide +kernel
theorem dX12_overCondition_105 : decode cX12_overCondition 105 = .ok (.getfield 194, 3) := by decide +kernel
theorem dX12_overCondition_108 : decode cX12_overCondition 108 = .ok (.invokevirtual 197, 3) := by decide +kernel
theorem dX12_overCondition_111 : decode cX12_overCondition 111 = .ok (.bipush 55, 2) := by decide +kernel
theorem dX12_overCondition_113 : decode cX12_overCondition 113 = .ok (.if_icmp .le 5, 3) := by decide +kernel
theorem dX12_overCondition_116 : decode cX12_overCondition 116 = .ok (.iconst 0, 1) := by decide +kernel
theorem dX12_overCondition_117 : decode cX12_overCondition 117 = .ok (.ireturn, 1) := by decide +kernel
theorem dX12_overCondition_118 : decode cX12_overCondition 118 = .ok (.aload_n 0, 1) := by decide +kernel
theorem dX12_overCondition_119 : decode cX12_overCondition 119 = .ok (.dup, 1) := by decide +kernel
theorem dX12_overCondition_120 : decode cX12_overCondition 120 = .ok (.getfield 194, 3) := by decide +kernel
theorem dX12_overCondition_123 : decode cX12_overCondition 123 = .ok (.iconst 1, 1) := by decide +kernel
theorem dX12_overCondition_124 : decode cX12_overCondition 124 = .ok (.iadd, 1) := by decide +kernel
theorem dX12_overCondition_125 : decode cX12_overCondition 125 = .ok (.putfield 194, 3) := by decide +kernel
theorem dX12_overCondition_128 : decode cX12_overCondition 128 = .ok (.aload_n 0, 1) := by decide +kernel
theorem dX12_overCondition_129 : decode cX12_overCondition 129 = .ok (.iload_n 1, 1) := by decide +kernel
theorem dX12_overCondition_130 : decode cX12_overCondition 130 = .ok (.aload_n 0, 1) := by decide +kernel
theorem dX12_overCondition_131 : decode cX12_overCondition 131 = .ok (.getfield 194, 3) := by decide +kernel
theorem dX12_overCondition_134 : decode cX12_overCondition 134 = .ok (.invokevirtual 197, 3) := by decide +kernel
theorem dX12_overCondition_137 : decode cX12_overCondition 137 = .ok (.bipush 38, 2) := by decide +kernel
theorem dX12_overCondition_139 : decode cX12_overCondition 139 = .ok (.if_icmp .eq 19, 3) := by decide +kernel
theorem dX12_overCondition_142 : decode cX12_overCondition 142 = .ok (.aload_n 0, 1) := by decide +kernel
theorem dX12_overCondition_143 : decode cX12_overCondition 143 = .ok (.iload_n 1, 1) := by decide +kernel
theorem dX12_overCondition_144 : decode cX12_overCondition 144 = .ok (.aload_n 0, 1) := by decide +kernel
theorem dX12_overCondition_145 : decode cX12_overCondition 145 = .ok (.getfield 194, 3) := by decide +kernel
theorem dX12_overCondition_148 : decode cX12_overCondition 148 = .ok (.invokevirtual 197, 3) := by decide +kernel
theorem dX12_overCondition_151 : decode cX12_overCondition 151 = .ok (.bipush 124, 2) := by decide +kernel
theorem dX12_overCondition_153 : decode cX12_overCondition 153 = .ok (.if_icmp .eq 5, 3) := by decide +kernel
theorem dX12_overCondition_156 : decode cX12_overCondition 156 = .ok (.iconst 1, 1) := by decide +kernel
theorem dX12_overCondition_157 : decode cX12_overCondition 157 = .ok (.ireturn, 1) := by decide +kernel
theorem dX12_overCondition_158 : decode cX12_overCondition 158 = .ok (.aload_n 0, 1) := by decide +kernel
theorem dX12_overCondition_159 : decode cX12_overCondition 159 = .ok (.dup, 1) := by decide +kernel
theorem dX12_overCondition_160 : decode cX12_overCondition 160 = .ok (.getfield 194, 3) := by decide +kernel
theorem dX12_overCondition_163 : decode cX12_overCondition 163 = .ok (.iconst 1, 1) := by decide +kernel
theorem dX12_overCondition_164 : decode cX12_overCondition 164 = .ok (.iadd, 1) := by decide +kernel
theorem dX12_overCondition_165 : decode cX12_overCondition 165 = .ok (.putfield 194, 3) := by decide +kernel
theorem dX12_overCondition_168 : decode cX12_overCondition 168 = .ok (.goto (-168), 3) := by decide +kernel
theorem dX12_conditionFault_0 : decode cX12_conditionFault 0 = .ok (.aload_n 0, 1) := by decide +kernel
theorem dX12_conditionFault_1 : decode cX12_conditionFault 1 = .ok (.iconst 0, 1) := by decide +kernel
theorem dX12_conditionFault_2 : decode cX12_conditionFault 2 = .ok (.putfield 194, 3) := by decide +kernel
theorem dX12_conditionFault_5 : decode cX12_conditionFault 5 = .ok (.aload_n 0, 1) := by decide +kernel
theorem dX12_conditionFault_6 : decode cX12_conditionFault 6 = .ok (.iload_n 1, 1) := by decide +kernel
theorem dX12_conditionFault_7 : decode cX12_conditionFault 7 = .ok (.invokevirtual 205, 3) := by decide +kernel
theorem dX12_conditionFault_10 : decode cX12_conditionFault 10 = .ok (.ifCond .ne 8, 3) := by decide +kernel
theorem dX12_conditionFault_13 : decode cX12_conditionFault 13 = .ok (.aload_n 0, 1) := by decide +kernel
theorem dX12_conditionFault_14 : decode cX12_conditionFault 14 = .ok (.getfield 194, 3) := by decide +kernel
theorem dX12_conditionFault_17 : decode cX12_conditionFault 17 = .ok (.ireturn, 1) := by decide +kernel
theorem dX12_conditionFault_18 : decode cX12_conditionFault 18 = .ok (.aload_n 0, 1) := by decide +kernel
theorem dX12_conditionFault_19 : decode cX12_conditionFault 19 = .ok (.getfield 194, 3) := by decide +kernel
theorem dX12_conditionFault_22 : decode cX12_conditionFault 22 = .ok (.aload_n 0, 1) := by decide +kernel
theorem dX12_conditionFault_23 : decode cX12_conditionFault 23 = .ok (.getfield 58, 3) := by decide +kernel
theorem dX12_conditionFault_26 : decode cX12_conditionFault 26 = .ok (.iload_n 1, 1) := by decide +kernel
theorem dX12_conditionFault_27 : decode cX12_conditionFault 27 = .ok (.iaload, 1) := by decide +kernel
theorem dX12_conditionFault_28 : decode cX12_conditionFault 28 = .ok (.if_icmp .ge 10, 3) := by decide +kernel
theorem dX12_conditionFault_31 : decode cX12_conditionFault 31 = .ok (.aload_n 0, 1) := by decide +kernel
theorem dX12_conditionFault_32 : decode cX12_conditionFault 32 = .ok (.getfield 194, 3) := by decide +kernel
theorem dX12_conditionFault_35 : decode cX12_conditionFault 35 = .ok (.goto 4, 3) := by decide +kernel
theorem dX12_conditionFault_38 : decode cX12_conditionFault 38 = .ok (.iconst (-1), 1) := by decide +kernel
theorem dX12_conditionFault_39 : decode cX12_conditionFault 39 = .ok (.ireturn, 1) := by decide +kernel
theorem dX12_lawFault_0 : decode cX12_lawFault 0 = .ok (.aload_n 0, 1) := by decide +kernel
theorem dX12_lawFault_1 : decode cX12_lawFault 1 = .ok (.iconst 0, 1) := by decide +kernel
theorem dX12_lawFault_2 : decode cX12_lawFault 2 = .ok (.putfield 194, 3) := by decide +kernel
theorem dX12_lawFault_5 : decode cX12_lawFault 5 = .ok (.aload_n 0, 1) := by decide +kernel
theorem dX12_lawFault_6 : decode cX12_lawFault 6 = .ok (.iload_n 1, 1) := by decide +kernel
theorem dX12_lawFault_7 : decode cX12_lawFault 7 = .ok (.iconst 0, 1) := by decide +kernel
theorem dX12_lawFault_8 : decode cX12_lawFault 8 = .ok (.invokevirtual 197, 3) := by decide +kernel
theorem dX12_lawFault_11 : decode cX12_lawFault 11 = .ok (.bipush 58, 2) := by decide +kernel
theorem dX12_lawFault_13 : decode cX12_lawFault 13 = .ok (.if_icmp .eq 16, 3) := by decide +kernel
theorem dX12_lawFault_16 : decode cX12_lawFault 16 = .ok (.aload_n 0, 1) := by decide +kernel
theorem dX12_lawFault_17 : decode cX12_lawFault 17 = .ok (.iload_n 1, 1) := by decide +kernel
theorem dX12_lawFault_18 : decode cX12_lawFault 18 = .ok (.invokevirtual 205, 3) := by decide +kernel
theorem dX12_lawFault_21 : decode cX12_lawFault 21 = .ok (.ifCond .ne 8, 3) := by decide +kernel
theorem dX12_lawFault_24 : decode cX12_lawFault 24 = .ok (.aload_n 0, 1) := by decide +kernel
theorem dX12_lawFault_25 : decode cX12_lawFault 25 = .ok (.getfield 194, 3) := by decide +kernel
theorem dX12_lawFault_28 : decode cX12_lawFault 28 = .ok (.ireturn, 1) := by decide +kernel
theorem dX12_lawFault_29 : decode cX12_lawFault 29 = .ok (.aload_n 0, 1) := by decide +kernel
theorem dX12_lawFault_30 : decode cX12_lawFault 30 = .ok (.iload_n 1, 1) := by decide +kernel
theorem dX12_lawFault_31 : decode cX12_lawFault 31 = .ok (.aload_n 0, 1) := by decide +kernel
theorem dX12_lawFault_32 : decode cX12_lawFault 32 = .ok (.getfield 194, 3) := by decide +kernel
theorem dX12_lawFault_35 : decode cX12_lawFault 35 = .ok (.invokevirtual 197, 3) := by decide +kernel
theorem dX12_lawFault_38 : decode cX12_lawFault 38 = .ok (.bipush 58, 2) := by decide +kernel
theorem dX12_lawFault_40 : decode cX12_lawFault 40 = .ok (.if_icmp .eq 8, 3) := by decide +kernel
theorem dX12_lawFault_43 : decode cX12_lawFault 43 = .ok (.aload_n 0, 1) := by decide +kernel
theorem dX12_lawFault_44 : decode cX12_lawFault 44 = .ok (.getfield 194, 3) := by decide +kernel
theorem dX12_lawFault_47 : decode cX12_lawFault 47 = .ok (.ireturn, 1) := by decide +kernel
theorem dX12_lawFault_48 : decode cX12_lawFault 48 = .ok (.aload_n 0, 1) := by decide +kernel
theorem dX12_lawFault_49 : decode cX12_lawFault 49 = .ok (.dup, 1) := by decide +kernel
theorem dX12_lawFault_50 : decode cX12_lawFault 50 = .ok (.getfield 194, 3) := by decide +kernel
theorem dX12_lawFault_53 : decode cX12_lawFault 53 = .ok (.iconst 1, 1) := by decide +kernel
theorem dX12_lawFault_54 : decode cX12_lawFault 54 = .ok (.iadd, 1) := by decide +kernel
theorem dX12_lawFault_55 : decode cX12_lawFault 55 = .ok (.putfield 194, 3) := by decide +kernel
theorem dX12_lawFault_58 : decode cX12_lawFault 58 = .ok (.iconst 0, 1) := by decide +kernel
theorem dX12_lawFault_59 : decode cX12_lawFault 59 = .ok (.istore_n 2, 1) := by decide +kernel
theorem dX12_lawFault_60 : decode cX12_lawFault 60 = .ok (.aload_n 0, 1) := by decide +kernel
theorem dX12_lawFault_61 : decode cX12_lawFault 61 = .ok (.getfield 194, 3) := by decide +kernel
theorem dX12_lawFault_64 : decode cX12_lawFault 64 = .ok (.aload_n 0, 1) := by decide +kernel
theorem dX12_lawFault_65 : decode cX12_lawFault 65 = .ok (.getfield 58, 3) := by decide +kernel
theorem dX12_lawFault_68 : decode cX12_lawFault 68 = .ok (.iload_n 1, 1) := by decide +kernel
theorem dX12_lawFault_69 : decode cX12_lawFault 69 = .ok (.iaload, 1) := by decide +kernel
theorem dX12_lawFault_70 : decode cX12_lawFault 70 = .ok (.if_icmp .ge 94, 3) := by decide +kernel
theorem dX12_lawFault_73 : decode cX12_lawFault 73 = .ok (.aload_n 0, 1) := by decide +kernel
theorem dX12_lawFault_74 : decode cX12_lawFault 74 = .ok (.iload_n 1, 1) := by decide +kernel
theorem dX12_lawFault_75 : decode cX12_lawFault 75 = .ok (.aload_n 0, 1) := by decide +kernel
theorem dX12_lawFault_76 : decode cX12_lawFault 76 = .ok (.getfield 194, 3) := by decide +kernel
theorem dX12_lawFault_79 : decode cX12_lawFault 79 = .ok (.invokevirtual 197, 3) := by decide +kernel
theorem dX12_lawFault_82 : decode cX12_lawFault 82 = .ok (.istore_n 3, 1) := by decide +kernel
theorem dX12_lawFault_83 : decode cX12_lawFault 83 = .ok (.iload_n 3, 1) := by decide +kernel
theorem dX12_lawFault_84 : decode cX12_lawFault 84 = .ok (.bipush 98, 2) := by decide +kernel
theorem dX12_lawFault_86 : decode cX12_lawFault 86 = .ok (.if_icmp .eq 20, 3) := by decide +kernel
theorem dX12_lawFault_89 : decode cX12_lawFault 89 = .ok (.iload_n 3, 1) := by decide +kernel
theorem dX12_lawFault_90 : decode cX12_lawFault 90 = .ok (.bipush 101, 2) := by decide +kernel
theorem dX12_lawFault_92 : decode cX12_lawFault 92 = .ok (.if_icmp .eq 14, 3) := by decide +kernel
theorem dX12_lawFault_95 : decode cX12_lawFault 95 = .ok (.iload_n 3, 1) := by decide +kernel
theorem dX12_lawFault_96 : decode cX12_lawFault 96 = .ok (.bipush 122, 2) := by decide +kernel
theorem dX12_lawFault_98 : decode cX12_lawFault 98 = .ok (.if_icmp .eq 8, 3) := by decide +kernel
theorem dX12_lawFault_101 : decode cX12_lawFault 101 = .ok (.aload_n 0, 1) := by decide +kernel
theorem dX12_lawFault_102 : decode cX12_lawFault 102 = .ok (.getfield 194, 3) := by decide +kernel
theorem dX12_lawFault_105 : decode cX12_lawFault 105 = .ok (.ireturn, 1) := by decide +kernel
theorem dX12_lawFault_106 : decode cX12_lawFault 106 = .ok (.aload_n 0, 1) := by decide +kernel
theorem dX12_lawFault_107 : decode cX12_lawFault 107 = .ok (.dup, 1) := by decide +kernel
theorem dX12_lawFault_108 : decode cX12_lawFault 108 = .ok (.getfield 194, 3) := by decide +kernel
theorem dX12_lawFault_111 : decode cX12_lawFault 111 = .ok (.iconst 1, 1) := by decide +kernel
theorem dX12_lawFault_112 : decode cX12_lawFault 112 = .ok (.iadd, 1) := by decide +kernel
theorem dX12_lawFault_113 : decode cX12_lawFault 113 = .ok (.putfield 194, 3) := by decide +kernel
theorem dX12_lawFault_116 : decode cX12_lawFault 116 = .ok (.aload_n 0, 1) := by decide +kernel
theorem dX12_lawFault_117 : decode cX12_lawFault 117 = .ok (.aload_n 0, 1) := by decide +kernel
theorem dX12_lawFault_118 : decode cX12_lawFault 118 = .ok (.iload_n 1, 1) := by decide +kernel
theorem dX12_lawFault_119 : decode cX12_lawFault 119 = .ok (.aload_n 0, 1) := by decide +kernel
theorem dX12_lawFault_120 : decode cX12_lawFault 120 = .ok (.getfield 194, 3) := by decide +kernel
theorem dX12_lawFault_123 : decode cX12_lawFault 123 = .ok (.invokevirtual 197, 3) := by decide +kernel
theorem dX12_lawFault_126 : decode cX12_lawFault 126 = .ok (.iload_n 3, 1) := by decide +kernel
theorem dX12_lawFault_127 : decode cX12_lawFault 127 = .ok (.bipush 122, 2) := by decide +kernel
theorem dX12_lawFault_129 : decode cX12_lawFault 129 = .ok (.if_icmp .ne 7, 3) := by decide +kernel
theorem dX12_lawFault_132 : decode cX12_lawFault 132 = .ok (.iconst 3, 1) := by decide +kernel
theorem dX12_lawFault_133 : decode cX12_lawFault 133 = .ok (.goto 4, 3) := by decide +kernel
theorem dX12_lawFault_136 : decode cX12_lawFault 136 = .ok (.iconst 1, 1) := by decide +kernel
theorem dX12_lawFault_137 : decode cX12_lawFault 137 = .ok (.invokevirtual 201, 3) := by decide +kernel
theorem dX12_lawFault_140 : decode cX12_lawFault 140 = .ok (.ifCond .ne 8, 3) := by decide +kernel
theorem dX12_lawFault_143 : decode cX12_lawFault 143 = .ok (.aload_n 0, 1) := by decide +kernel
theorem dX12_lawFault_144 : decode cX12_lawFault 144 = .ok (.getfield 194, 3) := by decide +kernel
theorem dX12_lawFault_147 : decode cX12_lawFault 147 = .ok (.ireturn, 1) := by decide +kernel
theorem dX12_lawFault_148 : decode cX12_lawFault 148 = .ok (.aload_n 0, 1) := by decide +kernel
theorem dX12_lawFault_149 : decode cX12_lawFault 149 = .ok (.dup, 1) := by decide +kernel
theorem dX12_lawFault_150 : decode cX12_lawFault 150 = .ok (.getfield 194, 3) := by decide +kernel
theorem dX12_lawFault_153 : decode cX12_lawFault 153 = .ok (.iconst 1, 1) := by decide +kernel
theorem dX12_lawFault_154 : decode cX12_lawFault 154 = .ok (.iadd, 1) := by decide +kernel
theorem dX12_lawFault_155 : decode cX12_lawFault 155 = .ok (.putfield 194, 3) := by decide +kernel
theorem dX12_lawFault_158 : decode cX12_lawFault 158 = .ok (.iinc 2 1, 3) := by decide +kernel
theorem dX12_lawFault_161 : decode cX12_lawFault 161 = .ok (.goto (-101), 3) := by decide +kernel
theorem dX12_lawFault_164 : decode cX12_lawFault 164 = .ok (.iload_n 2, 1) := by decide +kernel
theorem dX12_lawFault_165 : decode cX12_lawFault 165 = .ok (.ifCond .ne 10, 3) := by decide +kernel
theorem dX12_lawFault_168 : decode cX12_lawFault 168 = .ok (.aload_n 0, 1) := by decide +kernel
theorem dX12_lawFault_169 : decode cX12_lawFault 169 = .ok (.getfield 194, 3) := by decide +kernel
theorem dX12_lawFault_172 : decode cX12_lawFault 172 = .ok (.goto 4, 3) := by decide +kernel
theorem dX12_lawFault_175 : decode cX12_lawFault 175 = .ok (.iconst (-1), 1) := by decide +kernel
theorem dX12_lawFault_176 : decode cX12_lawFault 176 = .ok (.ireturn, 1) := by decide +kernel
theorem dX12_many_0 : decode cX12_many 0 = .ok (.iconst 0, 1) := by decide +kernel
theorem dX12_many_1 : decode cX12_many 1 = .ok (.istore_n 2, 1) := by decide +kernel
theorem dX12_many_2 : decode cX12_many 2 = .ok (.iconst 0, 1) := by decide +kernel
theorem dX12_many_3 : decode cX12_many 3 = .ok (.istore_n 3, 1) := by decide +kernel
theorem dX12_many_4 : decode cX12_many 4 = .ok (.iload_n 3, 1) := by decide +kernel
theorem dX12_many_5 : decode cX12_many 5 = .ok (.aload_n 0, 1) := by decide +kernel
theorem dX12_many_6 : decode cX12_many 6 = .ok (.getfield 159, 3) := by decide +kernel
theorem dX12_many_9 : decode cX12_many 9 = .ok (.if_icmp .ge 22, 3) := by decide +kernel
theorem dX12_many_12 : decode cX12_many 12 = .ok (.aload_n 0, 1) := by decide +kernel
theorem dX12_many_13 : decode cX12_many 13 = .ok (.getfield 7, 3) := by decide +kernel
theorem dX12_many_16 : decode cX12_many 16 = .ok (.iload_n 3, 1) := by decide +kernel
theorem dX12_many_17 : decode cX12_many 17 = .ok (.iaload, 1) := by decide +kernel
theorem dX12_many_18 : decode cX12_many 18 = .ok (.iload_n 1, 1) := by decide +kernel
theorem dX12_many_19 : decode cX12_many 19 = .ok (.if_icmp .ne 6, 3) := by decide +kernel
theorem dX12_many_22 : decode cX12_many 22 = .ok (.iinc 2 1, 3) := by decide +kernel
theorem dX12_many_25 : decode cX12_many 25 = .ok (.iinc 3 1, 3) := by decide +kernel
theorem dX12_many_28 : decode cX12_many 28 = .ok (.goto (-24), 3) := by decide +kernel
theorem dX12_many_31 : decode cX12_many 31 = .ok (.iload_n 2, 1) := by decide +kernel
theorem dX12_many_32 : decode cX12_many 32 = .ok (.ireturn, 1) := by decide +kernel
theorem dX12_thing_0 : decode cX12_thing 0 = .ok (.iload_n 1, 1) := by decide +kernel
theorem dX12_thing_1 : decode cX12_thing 1 = .ok (.ifCond .lt 8, 3) := by decide +kernel
theorem dX12_thing_4 : decode cX12_thing 4 = .ok (.iload_n 1, 1) := by decide +kernel
theorem dX12_thing_5 : decode cX12_thing 5 = .ok (.iconst 3, 1) := by decide +kernel
theorem dX12_thing_6 : decode cX12_thing 6 = .ok (.if_icmp .le 9, 3) := by decide +kernel
theorem dX12_thing_9 : decode cX12_thing 9 = .ok (.aload_n 0, 1) := by decide +kernel
theorem dX12_thing_10 : decode cX12_thing 10 = .ok (.iconst (-1), 1) := by decide +kernel
theorem dX12_thing_11 : decode cX12_thing 11 = .ok (.invokevirtual 175, 3) := by decide +kernel
theorem dX12_thing_14 : decode cX12_thing 14 = .ok (.ireturn, 1) := by decide +kernel
theorem dX12_thing_15 : decode cX12_thing 15 = .ok (.aload_n 0, 1) := by decide +kernel
theorem dX12_thing_16 : decode cX12_thing 16 = .ok (.iconst 0, 1) := by decide +kernel
theorem dX12_thing_17 : decode cX12_thing 17 = .ok (.putfield 208, 3) := by decide +kernel
theorem dX12_thing_20 : decode cX12_thing 20 = .ok (.iload_n 1, 1) := by decide +kernel
theorem dX12_thing_21 : decode cX12_thing 21 = .ok (.iconst 1, 1) := by decide +kernel
theorem dX12_thing_22 : decode cX12_thing 22 = .ok (.if_icmp .le 52, 3) := by decide +kernel
theorem dX12_thing_25 : decode cX12_thing 25 = .ok (.aload_n 0, 1) := by decide +kernel
theorem dX12_thing_26 : decode cX12_thing 26 = .ok (.iload_n 2, 1) := by decide +kernel
theorem dX12_thing_27 : decode cX12_thing 27 = .ok (.invokevirtual 182, 3) := by decide +kernel
theorem dX12_thing_30 : decode cX12_thing 30 = .ok (.istore_n 3, 1) := by decide +kernel
theorem dX12_thing_31 : decode cX12_thing 31 = .ok (.iload_n 3, 1) := by decide +kernel
theorem dX12_thing_32 : decode cX12_thing 32 = .ok (.ifCond .ge 9, 3) := by decide +kernel
theorem dX12_thing_35 : decode cX12_thing 35 = .ok (.aload_n 0, 1) := by decide +kernel
theorem dX12_thing_36 : decode cX12_thing 36 = .ok (.iload_n 3, 1) := by decide +kernel
theorem dX12_thing_37 : decode cX12_thing 37 = .ok (.invokevirtual 175, 3) := by decide +kernel
theorem dX12_thing_40 : decode cX12_thing 40 = .ok (.ireturn, 1) := by decide +kernel
theorem dX12_thing_41 : decode cX12_thing 41 = .ok (.aload_n 0, 1) := by decide +kernel
theorem dX12_thing_42 : decode cX12_thing 42 = .ok (.aload_n 0, 1) := by decide +kernel
theorem dX12_thing_43 : decode cX12_thing 43 = .ok (.iload_n 2, 1) := by decide +kernel
theorem dX12_thing_44 : decode cX12_thing 44 = .ok (.invokevirtual 211, 3) := by decide +kernel
theorem dX12_thing_47 : decode cX12_thing 47 = .ok (.putfield 65, 3) := by decide +kernel
theorem dX12_thing_50 : decode cX12_thing 50 = .ok (.aload_n 0, 1) := by decide +kernel
theorem dX12_thing_51 : decode cX12_thing 51 = .ok (.getfield 65, 3) := by decide +kernel
theorem dX12_thing_54 : decode cX12_thing 54 = .ok (.ifCond .lt 10, 3) := by decide +kernel
theorem dX12_thing_57 : decode cX12_thing 57 = .ok (.aload_n 0, 1) := by decide +kernel
theorem dX12_thing_58 : decode cX12_thing 58 = .ok (.bipush (-6), 2) := by decide +kernel
theorem dX12_thing_60 : decode cX12_thing 60 = .ok (.invokevirtual 175, 3) := by decide +kernel
theorem dX12_thing_63 : decode cX12_thing 63 = .ok (.ireturn, 1) := by decide +kernel
theorem dX12_thing_64 : decode cX12_thing 64 = .ok (.aload_n 0, 1) := by decide +kernel
theorem dX12_thing_65 : decode cX12_thing 65 = .ok (.aload_n 0, 1) := by decide +kernel
theorem dX12_thing_66 : decode cX12_thing 66 = .ok (.getfield 58, 3) := by decide +kernel
theorem dX12_thing_69 : decode cX12_thing 69 = .ok (.iload_n 2, 1) := by decide +kernel
theorem dX12_thing_70 : decode cX12_thing 70 = .ok (.iaload, 1) := by decide +kernel
theorem dX12_thing_71 : decode cX12_thing 71 = .ok (.putfield 208, 3) := by decide +kernel
theorem dX12_thing_74 : decode cX12_thing 74 = .ok (.iload_n 1, 1) := by decide +kernel
theorem dX12_thing_75 : decode cX12_thing 75 = .ok (.ifCond .ne 7, 3) := by decide +kernel
theorem dX12_thing_78 : decode cX12_thing 78 = .ok (.iconst 2, 1) := by decide +kernel
theorem dX12_thing_79 : decode cX12_thing 79 = .ok (.goto 22, 3) := by decide +kernel
theorem dX12_thing_82 : decode cX12_thing 82 = .ok (.iload_n 1, 1) := by decide +kernel
theorem dX12_thing_83 : decode cX12_thing 83 = .ok (.iconst 1, 1) := by decide +kernel
theorem dX12_thing_84 : decode cX12_thing 84 = .ok (.if_icmp .ne 7, 3) := by decide +kernel
theorem dX12_thing_87 : decode cX12_thing 87 = .ok (.iconst 5, 1) := by decide +kernel
theorem dX12_thing_88 : decode cX12_thing 88 = .ok (.goto 13, 3) := by decide +kernel
theorem dX12_thing_91 : decode cX12_thing 91 = .ok (.iload_n 1, 1) := by decide +kernel
theorem dX12_thing_92 : decode cX12_thing 92 = .ok (.iconst 2, 1) := by decide +kernel
theorem dX12_thing_93 : decode cX12_thing 93 = .ok (.if_icmp .ne 7, 3) := by decide +kernel
theorem dX12_thing_96 : decode cX12_thing 96 = .ok (.iconst 3, 1) := by decide +kernel
theorem dX12_thing_97 : decode cX12_thing 97 = .ok (.goto 4, 3) := by decide +kernel
theorem dX12_thing_100 : decode cX12_thing 100 = .ok (.iconst 1, 1) := by decide +kernel
theorem dX12_thing_101 : decode cX12_thing 101 = .ok (.istore_n 3, 1) := by decide +kernel
theorem dX12_thing_102 : decode cX12_thing 102 = .ok (.aload_n 0, 1) := by decide +kernel
theorem dX12_thing_103 : decode cX12_thing 103 = .ok (.getfield 159, 3) := by decide +kernel
theorem dX12_thing_106 : decode cX12_thing 106 = .ok (.bipush 10, 2) := by decide +kernel
theorem dX12_thing_108 : decode cX12_thing 108 = .ok (.if_icmp .eq 12, 3) := by decide +kernel
theorem dX12_thing_111 : decode cX12_thing 111 = .ok (.aload_n 0, 1) := by decide +kernel
theorem dX12_thing_112 : decode cX12_thing 112 = .ok (.iload_n 1, 1) := by decide +kernel
theorem dX12_thing_113 : decode cX12_thing 113 = .ok (.invokevirtual 214, 3) := by decide +kernel
theorem dX12_thing_116 : decode cX12_thing 116 = .ok (.iload_n 3, 1) := by decide +kernel
theorem dX12_thing_117 : decode cX12_thing 117 = .ok (.if_icmp .ne 10, 3) := by decide +kernel
theorem dX12_thing_120 : decode cX12_thing 120 = .ok (.aload_n 0, 1) := by decide +kernel
theorem dX12_thing_121 : decode cX12_thing 121 = .ok (.bipush (-7), 2) := by decide +kernel
theorem dX12_thing_123 : decode cX12_thing 123 = .ok (.invokevirtual 175, 3) := by decide +kernel
theorem dX12_thing_126 : decode cX12_thing 126 = .ok (.ireturn, 1) := by decide +kernel
theorem dX12_thing_127 : decode cX12_thing 127 = .ok (.iconst 0, 1) := by decide +kernel
theorem dX12_thing_128 : decode cX12_thing 128 = .ok (.istore 4, 2) := by decide +kernel
theorem dX12_thing_130 : decode cX12_thing 130 = .ok (.iload 4, 2) := by decide +kernel
theorem dX12_thing_132 : decode cX12_thing 132 = .ok (.aload_n 0, 1) := by decide +kernel
theorem dX12_thing_133 : decode cX12_thing 133 = .ok (.getfield 208, 3) := by decide +kernel
theorem dX12_thing_136 : decode cX12_thing 136 = .ok (.if_icmp .ge 31, 3) := by decide +kernel
theorem dX12_thing_139 : decode cX12_thing 139 = .ok (.aload_n 0, 1) := by decide +kernel
theorem dX12_thing_140 : decode cX12_thing 140 = .ok (.getfield 16, 3) := by decide +kernel
theorem dX12_thing_143 : decode cX12_thing 143 = .ok (.bipush 60, 2) := by decide +kernel
theorem dX12_thing_145 : decode cX12_thing 145 = .ok (.aload_n 0, 1) := by decide +kernel
theorem dX12_thing_146 : decode cX12_thing 146 = .ok (.getfield 159, 3) := by decide +kernel
theorem dX12_thing_149 : decode cX12_thing 149 = .ok (.imul, 1) := by decide +kernel
theorem dX12_thing_150 : decode cX12_thing 150 = .ok (.iload 4, 2) := by decide +kernel
theorem dX12_thing_152 : decode cX12_thing 152 = .ok (.iadd, 1) := by decide +kernel
theorem dX12_thing_153 : decode cX12_thing 153 = .ok (.aload_n 0, 1) := by decide +kernel
theorem dX12_thing_154 : decode cX12_thing 154 = .ok (.iload_n 2, 1) := by decide +kernel
theorem dX12_thing_155 : decode cX12_thing 155 = .ok (.iload 4, 2) := by decide +kernel
theorem dX12_thing_157 : decode cX12_thing 157 = .ok (.invokevirtual 197, 3) := by decide +kernel
theorem dX12_thing_160 : decode cX12_thing 160 = .ok (.iastore, 1) := by decide +kernel
theorem dX12_thing_161 : decode cX12_thing 161 = .ok (.iinc 4 1, 3) := by decide +kernel
theorem dX12_thing_164 : decode cX12_thing 164 = .ok (.goto (-34), 3) := by decide +kernel
theorem dX12_thing_167 : decode cX12_thing 167 = .ok (.aload_n 0, 1) := by decide +kernel
theorem dX12_thing_168 : decode cX12_thing 168 = .ok (.getfield 7, 3) := by decide +kernel
theorem dX12_thing_171 : decode cX12_thing 171 = .ok (.aload_n 0, 1) := by decide +kernel
theorem dX12_thing_172 : decode cX12_thing 172 = .ok (.getfield 159, 3) := by decide +kernel
theorem dX12_thing_175 : decode cX12_thing 175 = .ok (.iload_n 1, 1) := by decide +kernel
theorem dX12_thing_176 : decode cX12_thing 176 = .ok (.iastore, 1) := by decide +kernel
theorem dX12_thing_177 : decode cX12_thing 177 = .ok (.aload_n 0, 1) := by decide +kernel
theorem dX12_thing_178 : decode cX12_thing 178 = .ok (.getfield 13, 3) := by decide +kernel
theorem dX12_thing_181 : decode cX12_thing 181 = .ok (.aload_n 0, 1) := by decide +kernel
theorem dX12_thing_182 : decode cX12_thing 182 = .ok (.getfield 159, 3) := by decide +kernel
theorem dX12_thing_185 : decode cX12_thing 185 = .ok (.aload_n 0, 1) := by decide +kernel
theorem dX12_thing_186 : decode cX12_thing 186 = .ok (.getfield 208, 3) := by decide +kernel
theorem dX12_thing_189 : decode cX12_thing 189 = .ok (.iastore, 1) := by decide +kernel
theorem dX12_thing_190 : decode cX12_thing 190 = .ok (.aload_n 0, 1) := by decide +kernel
theorem dX12_thing_191 : decode cX12_thing 191 = .ok (.dup, 1) := by decide +kernel
theorem dX12_thing_192 : decode cX12_thing 192 = .ok (.getfield 159, 3) := by decide +kernel
theorem dX12_thing_195 : decode cX12_thing 195 = .ok (.iconst 1, 1) := by decide +kernel
theorem dX12_thing_196 : decode cX12_thing 196 = .ok (.iadd, 1) := by decide +kernel
theorem dX12_thing_197 : decode cX12_thing 197 = .ok (.putfield 159, 3) := by decide +kernel
theorem dX12_thing_200 : decode cX12_thing 200 = .ok (.aload_n 0, 1) := by decide +kernel
theorem dX12_thing_201 : decode cX12_thing 201 = .ok (.getfield 159, 3) := by decide +kernel
theorem dX12_thing_204 : decode cX12_thing 204 = .ok (.iconst 1, 1) := by decide +kernel
theorem dX12_thing_205 : decode cX12_thing 205 = .ok (.isub, 1) := by decide +kernel
theorem dX12_thing_206 : decode cX12_thing 206 = .ok (.ireturn, 1) := by decide +kernel
theorem dX12_happening_0 : decode cX12_happening 0 = .ok (.aload_n 0, 1) := by decide +kernel
theorem dX12_happening_1 : decode cX12_happening 1 = .ok (.iload_n 1, 1) := by decide +kernel
theorem dX12_happening_2 : decode cX12_happening 2 = .ok (.invokevirtual 182, 3) := by decide +kernel
theorem dX12_happening_5 : decode cX12_happening 5 = .ok (.istore 4, 2) := by decide +kernel
theorem dX12_happening_7 : decode cX12_happening 7 = .ok (.iload 4, 2) := by decide +kernel
theorem dX12_happening_9 : decode cX12_happening 9 = .ok (.ifCond .ge 10, 3) := by decide +kernel
theorem dX12_happening_12 : decode cX12_happening 12 = .ok (.aload_n 0, 1) := by decide +kernel
theorem dX12_happening_13 : decode cX12_happening 13 = .ok (.iload 4, 2) := by decide +kernel
theorem dX12_happening_15 : decode cX12_happening 15 = .ok (.invokevirtual 175, 3) := by decide +kernel
theorem dX12_happening_18 : decode cX12_happening 18 = .ok (.ireturn, 1) := by decide +kernel
theorem dX12_happening_19 : decode cX12_happening 19 = .ok (.iload_n 2, 1) := by decide +kernel
theorem dX12_happening_20 : decode cX12_happening 20 = .ok (.ifCond .lt 9, 3) := by decide +kernel
theorem dX12_happening_23 : decode cX12_happening 23 = .ok (.iload_n 2, 1) := by decide +kernel
theorem dX12_happening_24 : decode cX12_happening 24 = .ok (.bipush 99, 2) := by decide +kernel
theorem dX12_happening_26 : decode cX12_happening 26 = .ok (.if_icmp .le 10, 3) := by decide +kernel
theorem dX12_happening_29 : decode cX12_happening 29 = .ok (.aload_n 0, 1) := by decide +kernel
theorem dX12_happening_30 : decode cX12_happening 30 = .ok (.bipush (-6), 2) := by decide +kernel
theorem dX12_happening_32 : decode cX12_happening 32 = .ok (.invokevirtual 175, 3) := by decide +kernel
theorem dX12_happening_35 : decode cX12_happening 35 = .ok (.ireturn, 1) := by decide +kernel
theorem dX12_happening_36 : decode cX12_happening 36 = .ok (.aload_n 0, 1) := by decide +kernel
theorem dX12_happening_37 : decode cX12_happening 37 = .ok (.aload_n 0, 1) := by decide +kernel
theorem dX12_happening_38 : decode cX12_happening 38 = .ok (.iload_n 1, 1) := by decide +kernel
theorem dX12_happening_39 : decode cX12_happening 39 = .ok (.invokevirtual 217, 3) := by decide +kernel
theorem dX12_happening_42 : decode cX12_happening 42 = .ok (.putfield 65, 3) := by decide +kernel
theorem dX12_happening_45 : decode cX12_happening 45 = .ok (.aload_n 0, 1) := by decide +kernel
theorem dX12_happening_46 : decode cX12_happening 46 = .ok (.getfield 65, 3) := by decide +kernel
theorem dX12_happening_49 : decode cX12_happening 49 = .ok (.ifCond .lt 10, 3) := by decide +kernel
theorem dX12_happening_52 : decode cX12_happening 52 = .ok (.aload_n 0, 1) := by decide +kernel
theorem dX12_happening_53 : decode cX12_happening 53 = .ok (.bipush (-6), 2) := by decide +kernel
theorem dX12_happening_55 : decode cX12_happening 55 = .ok (.invokevirtual 175, 3) := by decide +kernel
theorem dX12_happening_58 : decode cX12_happening 58 = .ok (.ireturn, 1) := by decide +kernel
theorem dX12_happening_59 : decode cX12_happening 59 = .ok (.aload_n 0, 1) := by decide +kernel
theorem dX12_happening_60 : decode cX12_happening 60 = .ok (.getfield 162, 3) := by decide +kernel
theorem dX12_happening_63 : decode cX12_happening 63 = .ok (.bipush 6, 2) := by decide +kernel
theorem dX12_happening_65 : decode cX12_happening 65 = .ok (.if_icmp .ne 10, 3) := by decide +kernel
theorem dX12_happening_68 : decode cX12_happening 68 = .ok (.aload_n 0, 1) := by decide +kernel
theorem dX12_happening_69 : decode cX12_happening 69 = .ok (.bipush (-7), 2) := by decide +kernel
theorem dX12_happening_71 : decode cX12_happening 71 = .ok (.invokevirtual 175, 3) := by decide +kernel
theorem dX12_happening_74 : decode cX12_happening 74 = .ok (.ireturn, 1) := by decide +kernel
theorem dX12_happening_75 : decode cX12_happening 75 = .ok (.iconst 0, 1) := by decide +kernel
theorem dX12_happening_76 : decode cX12_happening 76 = .ok (.istore 5, 2) := by decide +kernel
theorem dX12_happening_78 : decode cX12_happening 78 = .ok (.iload 5, 2) := by decide +kernel
theorem dX12_happening_80 : decode cX12_happening 80 = .ok (.aload_n 0, 1) := by decide +kernel
theorem dX12_happening_81 : decode cX12_happening 81 = .ok (.getfield 58, 3) := by decide +kernel
theorem dX12_happening_84 : decode cX12_happening 84 = .ok (.iload_n 1, 1) := by decide +kernel
theorem dX12_happening_85 : decode cX12_happening 85 = .ok (.iaload, 1) := by decide +kernel
theorem dX12_happening_86 : decode cX12_happening 86 = .ok (.if_icmp .ge 31, 3) := by decide +kernel
theorem dX12_happening_89 : decode cX12_happening 89 = .ok (.aload_n 0, 1) := by decide +kernel
theorem dX12_happening_90 : decode cX12_happening 90 = .ok (.getfield 22, 3) := by decide +kernel
theorem dX12_happening_93 : decode cX12_happening 93 = .ok (.bipush 60, 2) := by decide +kernel
theorem dX12_happening_95 : decode cX12_happening 95 = .ok (.aload_n 0, 1) := by decide +kernel
theorem dX12_happening_96 : decode cX12_happening 96 = .ok (.getfield 162, 3) := by decide +kernel
theorem dX12_happening_99 : decode cX12_happening 99 = .ok (.imul, 1) := by decide +kernel
theorem dX12_happening_100 : decode cX12_happening 100 = .ok (.iload 5, 2) := by decide +kernel
theorem dX12_happening_102 : decode cX12_happening 102 = .ok (.iadd, 1) := by decide +kernel
theorem dX12_happening_103 : decode cX12_happening 103 = .ok (.aload_n 0, 1) := by decide +kernel
theorem dX12_happening_104 : decode cX12_happening 104 = .ok (.iload_n 1, 1) := by decide +kernel
theorem dX12_happening_105 : decode cX12_happening 105 = .ok (.iload 5, 2) := by decide +kernel
theorem dX12_happening_107 : decode cX12_happening 107 = .ok (.invokevirtual 197, 3) := by decide +kernel
theorem dX12_happening_110 : decode cX12_happening 110 = .ok (.iastore, 1) := by decide +kernel
theorem dX12_happening_111 : decode cX12_happening 111 = .ok (.iinc 5 1, 3) := by decide +kernel
theorem dX12_happening_114 : decode cX12_happening 114 = .ok (.goto (-36), 3) := by decide +kernel
theorem dX12_happening_117 : decode cX12_happening 117 = .ok (.aload_n 0, 1) := by decide +kernel
theorem dX12_happening_118 : decode cX12_happening 118 = .ok (.getfield 19, 3) := by decide +kernel
theorem dX12_happening_121 : decode cX12_happening 121 = .ok (.aload_n 0, 1) := by decide +kernel
theorem dX12_happening_122 : decode cX12_happening 122 = .ok (.getfield 162, 3) := by decide +kernel
theorem dX12_happening_125 : decode cX12_happening 125 = .ok (.aload_n 0, 1) := by decide +kernel
theorem dX12_happening_126 : decode cX12_happening 126 = .ok (.getfield 58, 3) := by decide +kernel
theorem dX12_happening_129 : decode cX12_happening 129 = .ok (.iload_n 1, 1) := by decide +kernel
theorem dX12_happening_130 : decode cX12_happening 130 = .ok (.iaload, 1) := by decide +kernel
theorem dX12_happening_131 : decode cX12_happening 131 = .ok (.iastore, 1) := by decide +kernel
theorem dX12_happening_132 : decode cX12_happening 132 = .ok (.aload_n 0, 1) := by decide +kernel
theorem dX12_happening_133 : decode cX12_happening 133 = .ok (.getfield 25, 3) := by decide +kernel
theorem dX12_happening_136 : decode cX12_happening 136 = .ok (.aload_n 0, 1) := by decide +kernel
theorem dX12_happening_137 : decode cX12_happening 137 = .ok (.getfield 162, 3) := by decide +kernel
theorem dX12_happening_140 : decode cX12_happening 140 = .ok (.iload_n 2, 1) := by decide +kernel
theorem dX12_happening_141 : decode cX12_happening 141 = .ok (.iastore, 1) := by decide +kernel
theorem dX12_happening_142 : decode cX12_happening 142 = .ok (.aload_n 0, 1) := by decide +kernel
theorem dX12_happening_143 : decode cX12_happening 143 = .ok (.getfield 28, 3) := by decide +kernel
theorem dX12_happening_146 : decode cX12_happening 146 = .ok (.aload_n 0, 1) := by decide +kernel
theorem dX12_happening_147 : decode cX12_happening 147 = .ok (.getfield 162, 3) := by decide +kernel
theorem dX12_happening_150 : decode cX12_happening 150 = .ok (.iload_n 3, 1) := by decide +kernel
theorem dX12_happening_151 : decode cX12_happening 151 = .ok (.ifCond .eq 7, 3) := by decide +kernel
theorem dX12_happening_154 : decode cX12_happening 154 = .ok (.iconst 1, 1) := by decide +kernel
theorem dX12_happening_155 : decode cX12_happening 155 = .ok (.goto 4, 3) := by decide +kernel
theorem dX12_happening_158 : decode cX12_happening 158 = .ok (.iconst 0, 1) := by decide +kernel
theorem dX12_happening_159 : decode cX12_happening 159 = .ok (.iastore, 1) := by decide +kernel
theorem dX12_happening_160 : decode cX12_happening 160 = .ok (.aload_n 0, 1) := by decide +kernel
theorem dX12_happening_161 : decode cX12_happening 161 = .ok (.dup, 1) := by decide +kernel
theorem dX12_happening_162 : decode cX12_happening 162 = .ok (.getfield 162, 3) := by decide +kernel
theorem dX12_happening_165 : decode cX12_happening 165 = .ok (.iconst 1, 1) := by decide +kernel
theorem dX12_happening_166 : decode cX12_happening 166 = .ok (.iadd, 1) := by decide +kernel
theorem dX12_happening_167 : decode cX12_happening 167 = .ok (.putfield 162, 3) := by decide +kernel
theorem dX12_happening_170 : decode cX12_happening 170 = .ok (.aload_n 0, 1) := by decide +kernel
theorem dX12_happening_171 : decode cX12_happening 171 = .ok (.getfield 162, 3) := by decide +kernel
theorem dX12_happening_174 : decode cX12_happening 174 = .ok (.iconst 1, 1) := by decide +kernel
theorem dX12_happening_175 : decode cX12_happening 175 = .ok (.isub, 1) := by decide +kernel
theorem dX12_happening_176 : decode cX12_happening 176 = .ok (.ireturn, 1) := by decide +kernel
theorem dX12_fault_0 : decode cX12_fault 0 = .ok (.aload_n 0, 1) := by decide +kernel
theorem dX12_fault_1 : decode cX12_fault 1 = .ok (.getfield 65, 3) := by decide +kernel
theorem dX12_fault_4 : decode cX12_fault 4 = .ok (.ireturn, 1) := by decide +kernel
theorem dX12_price_0 : decode cX12_price 0 = .ok (.aload_n 0, 1) := by decide +kernel
theorem dX12_price_1 : decode cX12_price 1 = .ok (.iload_n 1, 1) := by decide +kernel
theorem dX12_price_2 : decode cX12_price 2 = .ok (.invokevirtual 220, 3) := by decide +kernel
theorem dX12_price_5 : decode cX12_price 5 = .ok (.ifCond .ne 9, 3) := by decide +kernel
theorem dX12_price_8 : decode cX12_price 8 = .ok (.aload_n 0, 1) := by decide +kernel
theorem dX12_price_9 : decode cX12_price 9 = .ok (.iconst (-1), 1) := by decide +kernel
theorem dX12_price_10 : decode cX12_price 10 = .ok (.invokevirtual 175, 3) := by decide +kernel
theorem dX12_price_13 : decode cX12_price 13 = .ok (.ireturn, 1) := by decide +kernel
theorem dX12_price_14 : decode cX12_price 14 = .ok (.iload_n 2, 1) := by decide +kernel
theorem dX12_price_15 : decode cX12_price 15 = .ok (.ifCond .lt 9, 3) := by decide +kernel
theorem dX12_price_18 : decode cX12_price 18 = .ok (.iload_n 2, 1) := by decide +kernel
theorem dX12_price_19 : decode cX12_price 19 = .ok (.bipush 99, 2) := by decide +kernel
theorem dX12_price_21 : decode cX12_price 21 = .ok (.if_icmp .le 10, 3) := by decide +kernel
theorem dX12_price_24 : decode cX12_price 24 = .ok (.aload_n 0, 1) := by decide +kernel
theorem dX12_price_25 : decode cX12_price 25 = .ok (.bipush (-6), 2) := by decide +kernel
theorem dX12_price_27 : decode cX12_price 27 = .ok (.invokevirtual 175, 3) := by decide +kernel
theorem dX12_price_30 : decode cX12_price 30 = .ok (.ireturn, 1) := by decide +kernel
theorem dX12_price_31 : decode cX12_price 31 = .ok (.aload_n 0, 1) := by decide +kernel
theorem dX12_price_32 : decode cX12_price 32 = .ok (.getfield 25, 3) := by decide +kernel
theorem dX12_price_35 : decode cX12_price 35 = .ok (.iload_n 1, 1) := by decide +kernel
theorem dX12_price_36 : decode cX12_price 36 = .ok (.iaload, 1) := by decide +kernel
theorem dX12_price_37 : decode cX12_price 37 = .ok (.istore_n 3, 1) := by decide +kernel
theorem dX12_price_38 : decode cX12_price 38 = .ok (.aload_n 0, 1) := by decide +kernel
theorem dX12_price_39 : decode cX12_price 39 = .ok (.getfield 25, 3) := by decide +kernel
theorem dX12_price_42 : decode cX12_price 42 = .ok (.iload_n 1, 1) := by decide +kernel
theorem dX12_price_43 : decode cX12_price 43 = .ok (.iload_n 2, 1) := by decide +kernel
theorem dX12_price_44 : decode cX12_price 44 = .ok (.iastore, 1) := by decide +kernel
theorem dX12_price_45 : decode cX12_price 45 = .ok (.iload_n 3, 1) := by decide +kernel
theorem dX12_price_46 : decode cX12_price 46 = .ok (.ireturn, 1) := by decide +kernel
theorem dX12_weigh_0 : decode cX12_weigh 0 = .ok (.aload_n 0, 1) := by decide +kernel
theorem dX12_weigh_1 : decode cX12_weigh 1 = .ok (.iload_n 1, 1) := by decide +kernel
theorem dX12_weigh_2 : decode cX12_weigh 2 = .ok (.invokevirtual 223, 3) := by decide +kernel
theorem dX12_weigh_5 : decode cX12_weigh 5 = .ok (.ifCond .ne 9, 3) := by decide +kernel
theorem dX12_weigh_8 : decode cX12_weigh 8 = .ok (.aload_n 0, 1) := by decide +kernel
theorem dX12_weigh_9 : decode cX12_weigh 9 = .ok (.iconst (-1), 1) := by decide +kernel
theorem dX12_weigh_10 : decode cX12_weigh 10 = .ok (.invokevirtual 175, 3) := by decide +kernel
theorem dX12_weigh_13 : decode cX12_weigh 13 = .ok (.ireturn, 1) := by decide +kernel
theorem dX12_weigh_14 : decode cX12_weigh 14 = .ok (.iload_n 2, 1) := by decide +kernel
theorem dX12_weigh_15 : decode cX12_weigh 15 = .ok (.ifCond .lt 9, 3) := by decide +kernel
theorem dX12_weigh_18 : decode cX12_weigh 18 = .ok (.iload_n 2, 1) := by decide +kernel
theorem dX12_weigh_19 : decode cX12_weigh 19 = .ok (.bipush 99, 2) := by decide +kernel
theorem dX12_weigh_21 : decode cX12_weigh 21 = .ok (.if_icmp .le 10, 3) := by decide +kernel
theorem dX12_weigh_24 : decode cX12_weigh 24 = .ok (.aload_n 0, 1) := by decide +kernel
theorem dX12_weigh_25 : decode cX12_weigh 25 = .ok (.bipush (-6), 2) := by decide +kernel
theorem dX12_weigh_27 : decode cX12_weigh 27 = .ok (.invokevirtual 175, 3) := by decide +kernel
theorem dX12_weigh_30 : decode cX12_weigh 30 = .ok (.ireturn, 1) := by decide +kernel
theorem dX12_weigh_31 : decode cX12_weigh 31 = .ok (.aload_n 0, 1) := by decide +kernel
theorem dX12_weigh_32 : decode cX12_weigh 32 = .ok (.getfield 52, 3) := by decide +kernel
theorem dX12_weigh_35 : decode cX12_weigh 35 = .ok (.iload_n 1, 1) := by decide +kernel
theorem dX12_weigh_36 : decode cX12_weigh 36 = .ok (.iaload, 1) := by decide +kernel
theorem dX12_weigh_37 : decode cX12_weigh 37 = .ok (.istore_n 3, 1) := by decide +kernel
theorem dX12_weigh_38 : decode cX12_weigh 38 = .ok (.aload_n 0, 1) := by decide +kernel
theorem dX12_weigh_39 : decode cX12_weigh 39 = .ok (.getfield 52, 3) := by decide +kernel
theorem dX12_weigh_42 : decode cX12_weigh 42 = .ok (.iload_n 1, 1) := by decide +kernel
theorem dX12_weigh_43 : decode cX12_weigh 43 = .ok (.iload_n 2, 1) := by decide +kernel
theorem dX12_weigh_44 : decode cX12_weigh 44 = .ok (.iastore, 1) := by decide +kernel
theorem dX12_weigh_45 : decode cX12_weigh 45 = .ok (.iload_n 3, 1) := by decide +kernel
theorem dX12_weigh_46 : decode cX12_weigh 46 = .ok (.ireturn, 1) := by decide +kernel
theorem dX12_piece_0 : decode cX12_piece 0 = .ok (.aload_n 0, 1) := by decide +kernel
theorem dX12_piece_1 : decode cX12_piece 1 = .ok (.getfield 31, 3) := by decide +kernel
theorem dX12_piece_4 : decode cX12_piece 4 = .ok (.aload_n 0, 1) := by decide +kernel
theorem dX12_piece_5 : decode cX12_piece 5 = .ok (.getfield 165, 3) := by decide +kernel
theorem dX12_piece_8 : decode cX12_piece 8 = .ok (.iload_n 1, 1) := by decide +kernel
theorem dX12_piece_9 : decode cX12_piece 9 = .ok (.iastore, 1) := by decide +kernel
theorem dX12_piece_10 : decode cX12_piece 10 = .ok (.aload_n 0, 1) := by decide +kernel
theorem dX12_piece_11 : decode cX12_piece 11 = .ok (.getfield 34, 3) := by decide +kernel
theorem dX12_piece_14 : decode cX12_piece 14 = .ok (.aload_n 0, 1) := by decide +kernel
theorem dX12_piece_15 : decode cX12_piece 15 = .ok (.getfield 165, 3) := by decide +kernel
theorem dX12_piece_18 : decode cX12_piece 18 = .ok (.iload_n 2, 1) := by decide +kernel
theorem dX12_piece_19 : decode cX12_piece 19 = .ok (.iastore, 1) := by decide +kernel
theorem dX12_piece_20 : decode cX12_piece 20 = .ok (.aload_n 0, 1) := by decide +kernel
theorem dX12_piece_21 : decode cX12_piece 21 = .ok (.getfield 37, 3) := by decide +kernel
theorem dX12_piece_24 : decode cX12_piece 24 = .ok (.aload_n 0, 1) := by decide +kernel
theorem dX12_piece_25 : decode cX12_piece 25 = .ok (.getfield 165, 3) := by decide +kernel
theorem dX12_piece_28 : decode cX12_piece 28 = .ok (.iload_n 3, 1) := by decide +kernel
theorem dX12_piece_29 : decode cX12_piece 29 = .ok (.iastore, 1) := by decide +kernel
theorem dX12_piece_30 : decode cX12_piece 30 = .ok (.aload_n 0, 1) := by decide +kernel
theorem dX12_piece_31 : decode cX12_piece 31 = .ok (.getfield 40, 3) := by decide +kernel
theorem dX12_piece_34 : decode cX12_piece 34 = .ok (.aload_n 0, 1) := by decide +kernel
theorem dX12_piece_35 : decode cX12_piece 35 = .ok (.getfield 165, 3) := by decide +kernel
theorem dX12_piece_38 : decode cX12_piece 38 = .ok (.iload 4, 2) := by decide +kernel
theorem dX12_piece_40 : decode cX12_piece 40 = .ok (.iastore, 1) := by decide +kernel
theorem dX12_piece_41 : decode cX12_piece 41 = .ok (.aload_n 0, 1) := by decide +kernel
theorem dX12_piece_42 : decode cX12_piece 42 = .ok (.getfield 43, 3) := by decide +kernel
theorem dX12_piece_45 : decode cX12_piece 45 = .ok (.aload_n 0, 1) := by decide +kernel
theorem dX12_piece_46 : decode cX12_piece 46 = .ok (.getfield 165, 3) := by decide +kernel
theorem dX12_piece_49 : decode cX12_piece 49 = .ok (.iload 5, 2) := by decide +kernel
theorem dX12_piece_51 : decode cX12_piece 51 = .ok (.iastore, 1) := by decide +kernel
theorem dX12_piece_52 : decode cX12_piece 52 = .ok (.aload_n 0, 1) := by decide +kernel
theorem dX12_piece_53 : decode cX12_piece 53 = .ok (.getfield 46, 3) := by decide +kernel
theorem dX12_piece_56 : decode cX12_piece 56 = .ok (.aload_n 0, 1) := by decide +kernel
theorem dX12_piece_57 : decode cX12_piece 57 = .ok (.getfield 165, 3) := by decide +kernel
theorem dX12_piece_60 : decode cX12_piece 60 = .ok (.iload 6, 2) := by decide +kernel
theorem dX12_piece_62 : decode cX12_piece 62 = .ok (.iastore, 1) := by decide +kernel
theorem dX12_piece_63 : decode cX12_piece 63 = .ok (.aload_n 0, 1) := by decide +kernel
theorem dX12_piece_64 : decode cX12_piece 64 = .ok (.getfield 49, 3) := by decide +kernel
theorem dX12_piece_67 : decode cX12_piece 67 = .ok (.aload_n 0, 1) := by decide +kernel
theorem dX12_piece_68 : decode cX12_piece 68 = .ok (.getfield 165, 3) := by decide +kernel
theorem dX12_piece_71 : decode cX12_piece 71 = .ok (.iconst 0, 1) := by decide +kernel
theorem dX12_piece_72 : decode cX12_piece 72 = .ok (.iastore, 1) := by decide +kernel
theorem dX12_piece_73 : decode cX12_piece 73 = .ok (.aload_n 0, 1) := by decide +kernel
theorem dX12_piece_74 : decode cX12_piece 74 = .ok (.dup, 1) := by decide +kernel
theorem dX12_piece_75 : decode cX12_piece 75 = .ok (.getfield 165, 3) := by decide +kernel
theorem dX12_piece_78 : decode cX12_piece 78 = .ok (.iconst 1, 1) := by decide +kernel
theorem dX12_piece_79 : decode cX12_piece 79 = .ok (.iadd, 1) := by decide +kernel
theorem dX12_piece_80 : decode cX12_piece 80 = .ok (.putfield 165, 3) := by decide +kernel
theorem dX12_piece_83 : decode cX12_piece 83 = .ok (.aload_n 0, 1) := by decide +kernel
theorem dX12_piece_84 : decode cX12_piece 84 = .ok (.getfield 165, 3) := by decide +kernel
theorem dX12_piece_87 : decode cX12_piece 87 = .ok (.iconst 1, 1) := by decide +kernel
theorem dX12_piece_88 : decode cX12_piece 88 = .ok (.isub, 1) := by decide +kernel
theorem dX12_piece_89 : decode cX12_piece 89 = .ok (.ireturn, 1) := by decide +kernel
theorem dX12_spanPieces_0 : decode cX12_spanPieces 0 = .ok (.iconst 0, 1) := by decide +kernel
theorem dX12_spanPieces_1 : decode cX12_spanPieces 1 = .ok (.istore_n 1, 1) := by decide +kernel
theorem dX12_spanPieces_2 : decode cX12_spanPieces 2 = .ok (.iconst 0, 1) := by decide +kernel
theorem dX12_spanPieces_3 : decode cX12_spanPieces 3 = .ok (.istore_n 2, 1) := by decide +kernel
theorem dX12_spanPieces_4 : decode cX12_spanPieces 4 = .ok (.iload_n 2, 1) := by decide +kernel
theorem dX12_spanPieces_5 : decode cX12_spanPieces 5 = .ok (.aload_n 0, 1) := by decide +kernel
theorem dX12_spanPieces_6 : decode cX12_spanPieces 6 = .ok (.getfield 165, 3) := by decide +kernel
theorem dX12_spanPieces_9 : decode cX12_spanPieces 9 = .ok (.if_icmp .ge 22, 3) := by decide +kernel
theorem dX12_spanPieces_12 : decode cX12_spanPieces 12 = .ok (.aload_n 0, 1) := by decide +kernel
theorem dX12_spanPieces_13 : decode cX12_spanPieces 13 = .ok (.getfield 31, 3) := by decide +kernel
theorem dX12_spanPieces_16 : decode cX12_spanPieces 16 = .ok (.iload_n 2, 1) := by decide +kernel
theorem dX12_spanPieces_17 : decode cX12_spanPieces 17 = .ok (.iaload, 1) := by decide +kernel
theorem dX12_spanPieces_18 : decode cX12_spanPieces 18 = .ok (.iconst 1, 1) := by decide +kernel
theorem dX12_spanPieces_19 : decode cX12_spanPieces 19 = .ok (.if_icmp .ne 6, 3) := by decide +kernel
theorem dX12_spanPieces_22 : decode cX12_spanPieces 22 = .ok (.iinc 1 1, 3) := by decide +kernel
theorem dX12_spanPieces_25 : decode cX12_spanPieces 25 = .ok (.iinc 2 1, 3) := by decide +kernel
theorem dX12_spanPieces_28 : decode cX12_spanPieces 28 = .ok (.goto (-24), 3) := by decide +kernel
theorem dX12_spanPieces_31 : decode cX12_spanPieces 31 = .ok (.iload_n 1, 1) := by decide +kernel
theorem dX12_spanPieces_32 : decode cX12_spanPieces 32 = .ok (.ireturn, 1) := by decide +kernel
theorem dX12_seen_0 : decode cX12_seen 0 = .ok (.aload_n 0, 1) := by decide +kernel
theorem dX12_seen_1 : decode cX12_seen 1 = .ok (.iload_n 1, 1) := by decide +kernel
theorem dX12_seen_2 : decode cX12_seen 2 = .ok (.invokevirtual 220, 3) := by decide +kernel
theorem dX12_seen_5 : decode cX12_seen 5 = .ok (.ifCond .eq 11, 3) := by decide +kernel
theorem dX12_seen_8 : decode cX12_seen 8 = .ok (.aload_n 0, 1) := by decide +kernel
theorem dX12_seen_9 : decode cX12_seen 9 = .ok (.iload_n 3, 1) := by decide +kernel
theorem dX12_seen_10 : decode cX12_seen 10 = .ok (.invokevirtual 223, 3) := by decide +kernel
theorem dX12_seen_13 : decode cX12_seen 13 = .ok (.ifCond .ne 9, 3) := by decide +kernel
theorem dX12_seen_16 : decode cX12_seen 16 = .ok (.aload_n 0, 1) := by decide +kernel
theorem dX12_seen_17 : decode cX12_seen 17 = .ok (.iconst (-1), 1) := by decide +kernel
theorem dX12_seen_18 : decode cX12_seen 18 = .ok (.invokevirtual 175, 3) := by decide +kernel
theorem dX12_seen_21 : decode cX12_seen 21 = .ok (.ireturn, 1) := by decide +kernel
theorem dX12_seen_22 : decode cX12_seen 22 = .ok (.aload_n 0, 1) := by decide +kernel
theorem dX12_seen_23 : decode cX12_seen 23 = .ok (.iload_n 2, 1) := by decide +kernel
theorem dX12_seen_24 : decode cX12_seen 24 = .ok (.invokevirtual 168, 3) := by decide +kernel
theorem dX12_seen_27 : decode cX12_seen 27 = .ok (.ifCond .ne 10, 3) := by decide +kernel
theorem dX12_seen_30 : decode cX12_seen 30 = .ok (.aload_n 0, 1) := by decide +kernel
theorem dX12_seen_31 : decode cX12_seen 31 = .ok (.bipush (-6), 2) := by decide +kernel
theorem dX12_seen_33 : decode cX12_seen 33 = .ok (.invokevirtual 175, 3) := by decide +kernel
theorem dX12_seen_36 : decode cX12_seen 36 = .ok (.ireturn, 1) := by decide +kernel
theorem dX12_seen_37 : decode cX12_seen 37 = .ok (.aload_n 0, 1) := by decide +kernel
theorem dX12_seen_38 : decode cX12_seen 38 = .ok (.getfield 165, 3) := by decide +kernel
theorem dX12_seen_41 : decode cX12_seen 41 = .ok (.bipush 16, 2) := by decide +kernel
theorem dX12_seen_43 : decode cX12_seen 43 = .ok (.if_icmp .ne 10, 3) := by decide +kernel
theorem dX12_seen_46 : decode cX12_seen 46 = .ok (.aload_n 0, 1) := by decide +kernel
theorem dX12_seen_47 : decode cX12_seen 47 = .ok (.bipush (-7), 2) := by decide +kernel
theorem dX12_seen_49 : decode cX12_seen 49 = .ok (.invokevirtual 175, 3) := by decide +kernel
theorem dX12_seen_52 : decode cX12_seen 52 = .ok (.ireturn, 1) := by decide +kernel
theorem dX12_seen_53 : decode cX12_seen 53 = .ok (.aload_n 0, 1) := by decide +kernel
theorem dX12_seen_54 : decode cX12_seen 54 = .ok (.iconst 0, 1) := by decide +kernel
theorem dX12_seen_55 : decode cX12_seen 55 = .ok (.iload_n 1, 1) := by decide +kernel
theorem dX12_seen_56 : decode cX12_seen 56 = .ok (.iload_n 2, 1) := by decide +kernel
theorem dX12_seen_57 : decode cX12_seen 57 = .ok (.iload_n 2, 1) := by decide +kernel
theorem dX12_seen_58 : decode cX12_seen 58 = .ok (.iconst 0, 1) := by decide +kernel
theorem dX12_seen_59 : decode cX12_seen 59 = .ok (.iload_n 3, 1) := by decide +kernel
theorem dX12_seen_60 : decode cX12_seen 60 = .ok (.invokevirtual 226, 3) := by decide +kernel
theorem dX12_seen_63 : decode cX12_seen 63 = .ok (.ireturn, 1) := by decide +kernel
theorem dX12_span_0 : decode cX12_span 0 = .ok (.aload_n 0, 1) := by decide +kernel
theorem dX12_span_1 : decode cX12_span 1 = .ok (.iload_n 1, 1) := by decide +kernel
theorem dX12_span_2 : decode cX12_span 2 = .ok (.invokevirtual 220, 3) := by decide +kernel
theorem dX12_span_5 : decode cX12_span 5 = .ok (.ifCond .eq 12, 3) := by decide +kernel
theorem dX12_span_8 : decode cX12_span 8 = .ok (.aload_n 0, 1) := by decide +kernel
theorem dX12_span_9 : decode cX12_span 9 = .ok (.iload 5, 2) := by decide +kernel
theorem dX12_span_11 : decode cX12_span 11 = .ok (.invokevirtual 223, 3) := by decide +kernel
theorem dX12_span_14 : decode cX12_span 14 = .ok (.ifCond .ne 9, 3) := by decide +kernel
theorem dX12_span_17 : decode cX12_span 17 = .ok (.aload_n 0, 1) := by decide +kernel
theorem dX12_span_18 : decode cX12_span 18 = .ok (.iconst (-1), 1) := by decide +kernel
theorem dX12_span_19 : decode cX12_span 19 = .ok (.invokevirtual 175, 3) := by decide +kernel
theorem dX12_span_22 : decode cX12_span 22 = .ok (.ireturn, 1) := by decide +kernel
theorem dX12_span_23 : decode cX12_span 23 = .ok (.aload_n 0, 1) := by decide +kernel
theorem dX12_span_24 : decode cX12_span 24 = .ok (.iload_n 2, 1) := by decide +kernel
theorem dX12_span_25 : decode cX12_span 25 = .ok (.iload_n 3, 1) := by decide +kernel
theorem dX12_span_26 : decode cX12_span 26 = .ok (.invokevirtual 230, 3) := by decide +kernel
theorem dX12_span_29 : decode cX12_span 29 = .ok (.ifCond .ne 10, 3) := by decide +kernel
theorem dX12_span_32 : decode cX12_span 32 = .ok (.aload_n 0, 1) := by decide +kernel
theorem dX12_span_33 : decode cX12_span 33 = .ok (.bipush (-6), 2) := by decide +kernel
theorem dX12_span_35 : decode cX12_span 35 = .ok (.invokevirtual 175, 3) := by decide +kernel
theorem dX12_span_38 : decode cX12_span 38 = .ok (.ireturn, 1) := by decide +kernel
theorem dX12_span_39 : decode cX12_span 39 = .ok (.aload_n 0, 1) := by decide +kernel
theorem dX12_span_40 : decode cX12_span 40 = .ok (.getfield 165, 3) := by decide +kernel
theorem dX12_span_43 : decode cX12_span 43 = .ok (.bipush 16, 2) := by decide +kernel
theorem dX12_span_45 : decode cX12_span 45 = .ok (.if_icmp .eq 16, 3) := by decide +kernel
theorem dX12_span_48 : decode cX12_span 48 = .ok (.iload 4, 2) := by decide +kernel
theorem dX12_span_50 : decode cX12_span 50 = .ok (.ifCond .ne 18, 3) := by decide +kernel
theorem dX12_span_53 : decode cX12_span 53 = .ok (.aload_n 0, 1) := by decide +kernel
theorem dX12_span_54 : decode cX12_span 54 = .ok (.invokevirtual 233, 3) := by decide +kernel
theorem dX12_span_57 : decode cX12_span 57 = .ok (.iconst 2, 1) := by decide +kernel
theorem dX12_span_58 : decode cX12_span 58 = .ok (.if_icmp .ne 10, 3) := by decide +kernel
theorem dX12_span_61 : decode cX12_span 61 = .ok (.aload_n 0, 1) := by decide +kernel
theorem dX12_span_62 : decode cX12_span 62 = .ok (.bipush (-7), 2) := by decide +kernel
theorem dX12_span_64 : decode cX12_span 64 = .ok (.invokevirtual 175, 3) := by decide +kernel
theorem dX12_span_67 : decode cX12_span 67 = .ok (.ireturn, 1) := by decide +kernel
theorem dX12_span_68 : decode cX12_span 68 = .ok (.aload_n 0, 1) := by decide +kernel
theorem dX12_span_69 : decode cX12_span 69 = .ok (.iload 4, 2) := by decide +kernel
theorem dX12_span_71 : decode cX12_span 71 = .ok (.ifCond .eq 7, 3) := by decide +kernel
theorem dX12_span_74 : decode cX12_span 74 = .ok (.iconst 3, 1) := by decide +kernel
theorem dX12_span_75 : decode cX12_span 75 = .ok (.goto 4, 3) := by decide +kernel
theorem dX12_span_78 : decode cX12_span 78 = .ok (.iconst 1, 1) := by decide +kernel
theorem dX12_span_79 : decode cX12_span 79 = .ok (.iload_n 1, 1) := by decide +kernel
theorem dX12_span_80 : decode cX12_span 80 = .ok (.iload_n 2, 1) := by decide +kernel
theorem dX12_span_81 : decode cX12_span 81 = .ok (.iload_n 3, 1) := by decide +kernel
theorem dX12_span_82 : decode cX12_span 82 = .ok (.iconst 0, 1) := by decide +kernel
theorem dX12_span_83 : decode cX12_span 83 = .ok (.iload 5, 2) := by decide +kernel
theorem dX12_span_85 : decode cX12_span 85 = .ok (.invokevirtual 226, 3) := by decide +kernel
theorem dX12_span_88 : decode cX12_span 88 = .ok (.ireturn, 1) := by decide +kernel
theorem dX12_isValue_0 : decode cX12_isValue 0 = .ok (.iload_n 2, 1) := by decide +kernel
theorem dX12_isValue_1 : decode cX12_isValue 1 = .ok (.ifCond .lt 27, 3) := by decide +kernel
theorem dX12_isValue_4 : decode cX12_isValue 4 = .ok (.iload_n 2, 1) := by decide +kernel
theorem dX12_isValue_5 : decode cX12_isValue 5 = .ok (.aload_n 0, 1) := by decide +kernel
theorem dX12_isValue_6 : decode cX12_isValue 6 = .ok (.getfield 7, 3) := by decide +kernel
theorem dX12_isValue_9 : decode cX12_isValue 9 = .ok (.iload_n 1, 1) := by decide +kernel
theorem dX12_isValue_10 : decode cX12_isValue 10 = .ok (.iaload, 1) := by decide +kernel
theorem dX12_isValue_11 : decode cX12_isValue 11 = .ok (.iconst 3, 1) := by decide +kernel
theorem dX12_isValue_12 : decode cX12_isValue 12 = .ok (.if_icmp .ne 8, 3) := by decide +kernel
theorem dX12_isValue_15 : decode cX12_isValue 15 = .ok (.bipush 7, 2) := by decide +kernel
theorem dX12_isValue_17 : decode cX12_isValue 17 = .ok (.goto 4, 3) := by decide +kernel
theorem dX12_isValue_20 : decode cX12_isValue 20 = .ok (.iconst 1, 1) := by decide +kernel
theorem dX12_isValue_21 : decode cX12_isValue 21 = .ok (.if_icmp .gt 7, 3) := by decide +kernel
theorem dX12_isValue_24 : decode cX12_isValue 24 = .ok (.iconst 1, 1) := by decide +kernel
theorem dX12_isValue_25 : decode cX12_isValue 25 = .ok (.goto 4, 3) := by decide +kernel
theorem dX12_isValue_28 : decode cX12_isValue 28 = .ok (.iconst 0, 1) := by decide +kernel
theorem dX12_isValue_29 : decode cX12_isValue 29 = .ok (.ireturn, 1) := by decide +kernel
theorem dX12_was_0 : decode cX12_was 0 = .ok (.aload_n 0, 1) := by decide +kernel
theorem dX12_was_1 : decode cX12_was 1 = .ok (.iload_n 1, 1) := by decide +kernel
theorem dX12_was_2 : decode cX12_was 2 = .ok (.invokevirtual 191, 3) := by decide +kernel
theorem dX12_was_5 : decode cX12_was 5 = .ok (.ifCond .eq 12, 3) := by decide +kernel
theorem dX12_was_8 : decode cX12_was 8 = .ok (.aload_n 0, 1) := by decide +kernel
theorem dX12_was_9 : decode cX12_was 9 = .ok (.iload 5, 2) := by decide +kernel
theorem dX12_was_11 : decode cX12_was 11 = .ok (.invokevirtual 223, 3) := by decide +kernel
theorem dX12_was_14 : decode cX12_was 14 = .ok (.ifCond .ne 9, 3) := by decide +kernel
theorem dX12_was_17 : decode cX12_was 17 = .ok (.aload_n 0, 1) := by decide +kernel
theorem dX12_was_18 : decode cX12_was 18 = .ok (.iconst (-1), 1) := by decide +kernel
theorem dX12_was_19 : decode cX12_was 19 = .ok (.invokevirtual 175, 3) := by decide +kernel
theorem dX12_was_22 : decode cX12_was 22 = .ok (.ireturn, 1) := by decide +kernel
theorem dX12_was_23 : decode cX12_was 23 = .ok (.aload_n 0, 1) := by decide +kernel
theorem dX12_was_24 : decode cX12_was 24 = .ok (.iload_n 3, 1) := by decide +kernel
theorem dX12_was_25 : decode cX12_was 25 = .ok (.iload 4, 2) := by decide +kernel
theorem dX12_was_27 : decode cX12_was 27 = .ok (.invokevirtual 230, 3) := by decide +kernel
theorem dX12_was_30 : decode cX12_was 30 = .ok (.ifCond .eq 12, 3) := by decide +kernel
theorem dX12_was_33 : decode cX12_was 33 = .ok (.aload_n 0, 1) := by decide +kernel
theorem dX12_was_34 : decode cX12_was 34 = .ok (.iload_n 1, 1) := by decide +kernel
theorem dX12_was_35 : decode cX12_was 35 = .ok (.iload_n 2, 1) := by decide +kernel
theorem dX12_was_36 : decode cX12_was 36 = .ok (.invokevirtual 237, 3) := by decide +kernel
theorem dX12_was_39 : decode cX12_was 39 = .ok (.ifCond .ne 10, 3) := by decide +kernel
theorem dX12_was_42 : decode cX12_was 42 = .ok (.aload_n 0, 1) := by decide +kernel
theorem dX12_was_43 : decode cX12_was 43 = .ok (.bipush (-6), 2) := by decide +kernel
theorem dX12_was_45 : decode cX12_was 45 = .ok (.invokevirtual 175, 3) := by decide +kernel
theorem dX12_was_48 : decode cX12_was 48 = .ok (.ireturn, 1) := by decide +kernel
theorem dX12_was_49 : decode cX12_was 49 = .ok (.aload_n 0, 1) := by decide +kernel
theorem dX12_was_50 : decode cX12_was 50 = .ok (.getfield 165, 3) := by decide +kernel
theorem dX12_was_53 : decode cX12_was 53 = .ok (.bipush 16, 2) := by decide +kernel
theorem dX12_was_55 : decode cX12_was 55 = .ok (.if_icmp .ne 10, 3) := by decide +kernel
theorem dX12_was_58 : decode cX12_was 58 = .ok (.aload_n 0, 1) := by decide +kernel
theorem dX12_was_59 : decode cX12_was 59 = .ok (.bipush (-7), 2) := by decide +kernel
theorem dX12_was_61 : decode cX12_was 61 = .ok (.invokevirtual 175, 3) := by decide +kernel
theorem dX12_was_64 : decode cX12_was 64 = .ok (.ireturn, 1) := by decide +kernel
theorem dX12_was_65 : decode cX12_was 65 = .ok (.aload_n 0, 1) := by decide +kernel
theorem dX12_was_66 : decode cX12_was 66 = .ok (.iconst 2, 1) := by decide +kernel
theorem dX12_was_67 : decode cX12_was 67 = .ok (.iload_n 1, 1) := by decide +kernel
theorem dX12_was_68 : decode cX12_was 68 = .ok (.iload_n 3, 1) := by decide +kernel
theorem dX12_was_69 : decode cX12_was 69 = .ok (.iload 4, 2) := by decide +kernel
theorem dX12_was_71 : decode cX12_was 71 = .ok (.iload_n 2, 1) := by decide +kernel
theorem dX12_was_72 : decode cX12_was 72 = .ok (.iload 5, 2) := by decide +kernel
theorem dX12_was_74 : decode cX12_was 74 = .ok (.invokevirtual 226, 3) := by decide +kernel
theorem dX12_was_77 : decode cX12_was 77 = .ok (.ireturn, 1) := by decide +kernel
theorem dX12_sheet_0 : decode cX12_sheet 0 = .ok (.aload_n 0, 1) := by decide +kernel
theorem dX12_sheet_1 : decode cX12_sheet 1 = .ok (.iload 4, 2) := by decide +kernel
theorem dX12_sheet_3 : decode cX12_sheet 3 = .ok (.invokevirtual 223, 3) := by decide +kernel
theorem dX12_sheet_6 : decode cX12_sheet 6 = .ok (.ifCond .ne 9, 3) := by decide +kernel
theorem dX12_sheet_9 : decode cX12_sheet 9 = .ok (.aload_n 0, 1) := by decide +kernel
theorem dX12_sheet_10 : decode cX12_sheet 10 = .ok (.iconst (-1), 1) := by decide +kernel
theorem dX12_sheet_11 : decode cX12_sheet 11 = .ok (.invokevirtual 175, 3) := by decide +kernel
theorem dX12_sheet_14 : decode cX12_sheet 14 = .ok (.ireturn, 1) := by decide +kernel
theorem dX12_sheet_15 : decode cX12_sheet 15 = .ok (.aload_n 0, 1) := by decide +kernel
theorem dX12_sheet_16 : decode cX12_sheet 16 = .ok (.iload_n 1, 1) := by decide +kernel
theorem dX12_sheet_17 : decode cX12_sheet 17 = .ok (.invokevirtual 182, 3) := by decide +kernel
theorem dX12_sheet_20 : decode cX12_sheet 20 = .ok (.istore 5, 2) := by decide +kernel
theorem dX12_sheet_22 : decode cX12_sheet 22 = .ok (.iload 5, 2) := by decide +kernel
theorem dX12_sheet_24 : decode cX12_sheet 24 = .ok (.ifCond .ge 10, 3) := by decide +kernel
theorem dX12_sheet_27 : decode cX12_sheet 27 = .ok (.aload_n 0, 1) := by decide +kernel
theorem dX12_sheet_28 : decode cX12_sheet 28 = .ok (.iload 5, 2) := by decide +kernel
theorem dX12_sheet_30 : decode cX12_sheet 30 = .ok (.invokevirtual 175, 3) := by decide +kernel
theorem dX12_sheet_33 : decode cX12_sheet 33 = .ok (.ireturn, 1) := by decide +kernel
theorem dX12_sheet_34 : decode cX12_sheet 34 = .ok (.iload_n 3, 1) := by decide +kernel
theorem dX12_sheet_35 : decode cX12_sheet 35 = .ok (.ifCond .ge 10, 3) := by decide +kernel
theorem dX12_sheet_38 : decode cX12_sheet 38 = .ok (.aload_n 0, 1) := by decide +kernel
theorem dX12_sheet_39 : decode cX12_sheet 39 = .ok (.bipush (-4), 2) := by decide +kernel
theorem dX12_sheet_41 : decode cX12_sheet 41 = .ok (.invokevirtual 175, 3) := by decide +kernel
theorem dX12_sheet_44 : decode cX12_sheet 44 = .ok (.ireturn, 1) := by decide +kernel
theorem dX12_sheet_45 : decode cX12_sheet 45 = .ok (.iload_n 2, 1) := by decide +kernel
theorem dX12_sheet_46 : decode cX12_sheet 46 = .ok (.ifCond .lt 19, 3) := by decide +kernel
theorem dX12_sheet_49 : decode cX12_sheet 49 = .ok (.iload_n 2, 1) := by decide +kernel
theorem dX12_sheet_50 : decode cX12_sheet 50 = .ok (.i2l, 1) := by decide +kernel
theorem dX12_sheet_51 : decode cX12_sheet 51 = .ok (.iload_n 3, 1) := by decide +kernel
theorem dX12_sheet_52 : decode cX12_sheet 52 = .ok (.i2l, 1) := by decide +kernel
theorem dX12_sheet_53 : decode cX12_sheet 53 = .ok (.ladd, 1) := by decide +kernel
theorem dX12_sheet_54 : decode cX12_sheet 54 = .ok (.aload_n 0, 1) := by decide +kernel
theorem dX12_sheet_55 : decode cX12_sheet 55 = .ok (.getfield 58, 3) := by decide +kernel
theorem dX12_sheet_58 : decode cX12_sheet 58 = .ok (.iload_n 1, 1) := by decide +kernel
theorem dX12_sheet_59 : decode cX12_sheet 59 = .ok (.iaload, 1) := by decide +kernel
theorem dX12_sheet_60 : decode cX12_sheet 60 = .ok (.i2l, 1) := by decide +kernel
theorem dX12_sheet_61 : decode cX12_sheet 61 = .ok (.lcmp, 1) := by decide +kernel
theorem dX12_sheet_62 : decode cX12_sheet 62 = .ok (.ifCond .le 10, 3) := by decide +kernel
theorem dX12_sheet_65 : decode cX12_sheet 65 = .ok (.aload_n 0, 1) := by decide +kernel
theorem dX12_sheet_66 : decode cX12_sheet 66 = .ok (.bipush (-5), 2) := by decide +kernel
theorem dX12_sheet_68 : decode cX12_sheet 68 = .ok (.invokevirtual 175, 3) := by decide +kernel
theorem dX12_sheet_71 : decode cX12_sheet 71 = .ok (.ireturn, 1) := by decide +kernel
theorem dX12_sheet_72 : decode cX12_sheet 72 = .ok (.iload_n 3, 1) := by decide +kernel
theorem dX12_sheet_73 : decode cX12_sheet 73 = .ok (.iconst 5, 1) := by decide +kernel
theorem dX12_sheet_74 : decode cX12_sheet 74 = .ok (.irem, 1) := by decide +kernel
theorem dX12_sheet_75 : decode cX12_sheet 75 = .ok (.ifCond .eq 10, 3) := by decide +kernel
theorem dX12_sheet_78 : decode cX12_sheet 78 = .ok (.aload_n 0, 1) := by decide +kernel
theorem dX12_sheet_79 : decode cX12_sheet 79 = .ok (.bipush (-6), 2) := by decide +kernel
theorem dX12_sheet_81 : decode cX12_sheet 81 = .ok (.invokevirtual 175, 3) := by decide +kernel
theorem dX12_sheet_84 : decode cX12_sheet 84 = .ok (.ireturn, 1) := by decide +kernel
theorem dX12_sheet_85 : decode cX12_sheet 85 = .ok (.iconst 0, 1) := by decide +kernel
theorem dX12_sheet_86 : decode cX12_sheet 86 = .ok (.istore 6, 2) := by decide +kernel
theorem dX12_sheet_88 : decode cX12_sheet 88 = .ok (.iload_n 2, 1) := by decide +kernel
theorem dX12_sheet_89 : decode cX12_sheet 89 = .ok (.istore 7, 2) := by decide +kernel
theorem dX12_sheet_91 : decode cX12_sheet 91 = .ok (.iload 7, 2) := by decide +kernel
theorem dX12_sheet_93 : decode cX12_sheet 93 = .ok (.iload_n 2, 1) := by decide +kernel
theorem dX12_sheet_94 : decode cX12_sheet 94 = .ok (.iload_n 3, 1) := by decide +kernel
theorem dX12_sheet_95 : decode cX12_sheet 95 = .ok (.iadd, 1) := by decide +kernel
theorem dX12_sheet_96 : decode cX12_sheet 96 = .ok (.if_icmp .ge 256, 3) := by decide +kernel
theorem dX12_sheet_99 : decode cX12_sheet 99 = .ok (.aload_n 0, 1) := by decide +kernel
theorem dX12_sheet_100 : decode cX12_sheet 100 = .ok (.getfield 61, 3) := by decide +kernel
theorem dX12_sheet_103 : decode cX12_sheet 103 = .ok (.bipush 60, 2) := by decide +kernel
theorem dX12_sheet_105 : decode cX12_sheet 105 = .ok (.iload_n 1, 1) := by decide +kernel
theorem dX12_sheet_106 : decode cX12_sheet 106 = .ok (.imul, 1) := by decide +kernel
theorem dX12_sheet_107 : decode cX12_sheet 107 = .ok (.iload 7, 2) := by decide +kernel
theorem dX12_sheet_109 : decode cX12_sheet 109 = .ok (.iadd, 1) := by decide +kernel
theorem dX12_sheet_110 : decode cX12_sheet 110 = .ok (.laload, 1) := by decide +kernel
theorem dX12_sheet_111 : decode cX12_sheet 111 = .ok (.l2i, 1) := by decide +kernel
theorem dX12_sheet_112 : decode cX12_sheet 112 = .ok (.istore 8, 2) := by decide +kernel
theorem dX12_sheet_114 : decode cX12_sheet 114 = .ok (.aload_n 0, 1) := by decide +kernel
theorem dX12_sheet_115 : decode cX12_sheet 115 = .ok (.getfield 61, 3) := by decide +kernel
theorem dX12_sheet_118 : decode cX12_sheet 118 = .ok (.bipush 60, 2) := by decide +kernel
theorem dX12_sheet_120 : decode cX12_sheet 120 = .ok (.iload_n 1, 1) := by decide +kernel
theorem dX12_sheet_121 : decode cX12_sheet 121 = .ok (.imul, 1) := by decide +kernel
theorem dX12_sheet_122 : decode cX12_sheet 122 = .ok (.iload 7, 2) := by decide +kernel
theorem dX12_sheet_124 : decode cX12_sheet 124 = .ok (.iadd, 1) := by decide +kernel
theorem dX12_sheet_125 : decode cX12_sheet 125 = .ok (.iconst 1, 1) := by decide +kernel
theorem dX12_sheet_126 : decode cX12_sheet 126 = .ok (.iadd, 1) := by decide +kernel
theorem dX12_sheet_127 : decode cX12_sheet 127 = .ok (.laload, 1) := by decide +kernel
theorem dX12_sheet_128 : decode cX12_sheet 128 = .ok (.l2i, 1) := by decide +kernel
theorem dX12_sheet_129 : decode cX12_sheet 129 = .ok (.istore 9, 2) := by decide +kernel
theorem dX12_sheet_131 : decode cX12_sheet 131 = .ok (.aload_n 0, 1) := by decide +kernel
theorem dX12_sheet_132 : decode cX12_sheet 132 = .ok (.getfield 61, 3) := by decide +kernel
theorem dX12_sheet_135 : decode cX12_sheet 135 = .ok (.bipush 60, 2) := by decide +kernel
theorem dX12_sheet_137 : decode cX12_sheet 137 = .ok (.iload_n 1, 1) := by decide +kernel
theorem dX12_sheet_138 : decode cX12_sheet 138 = .ok (.imul, 1) := by decide +kernel
theorem dX12_sheet_139 : decode cX12_sheet 139 = .ok (.iload 7, 2) := by decide +kernel
theorem dX12_sheet_141 : decode cX12_sheet 141 = .ok (.iadd, 1) := by decide +kernel
theorem dX12_sheet_142 : decode cX12_sheet 142 = .ok (.iconst 2, 1) := by decide +kernel
theorem dX12_sheet_143 : decode cX12_sheet 143 = .ok (.iadd, 1) := by decide +kernel
theorem dX12_sheet_144 : decode cX12_sheet 144 = .ok (.laload, 1) := by decide +kernel
theorem dX12_sheet_145 : decode cX12_sheet 145 = .ok (.l2i, 1) := by decide +kernel
theorem dX12_sheet_146 : decode cX12_sheet 146 = .ok (.istore 10, 2) := by decide +kernel
theorem dX12_sheet_148 : decode cX12_sheet 148 = .ok (.aload_n 0, 1) := by decide +kernel
theorem dX12_sheet_149 : decode cX12_sheet 149 = .ok (.getfield 61, 3) := by decide +kernel
theorem dX12_sheet_152 : decode cX12_sheet 152 = .ok (.bipush 60, 2) := by decide +kernel
theorem dX12_sheet_154 : decode cX12_sheet 154 = .ok (.iload_n 1, 1) := by decide +kernel
theorem dX12_sheet_155 : decode cX12_sheet 155 = .ok (.imul, 1) := by decide +kernel
theorem dX12_sheet_156 : decode cX12_sheet 156 = .ok (.iload 7, 2) := by decide +kernel
theorem dX12_sheet_158 : decode cX12_sheet 158 = .ok (.iadd, 1) := by decide +kernel
theorem dX12_sheet_159 : decode cX12_sheet 159 = .ok (.iconst 3, 1) := by decide +kernel
theorem dX12_sheet_160 : decode cX12_sheet 160 = .ok (.iadd, 1) := by decide +kernel
theorem dX12_sheet_161 : decode cX12_sheet 161 = .ok (.laload, 1) := by decide +kernel
theorem dX12_sheet_162 : decode cX12_sheet 162 = .ok (.l2i, 1) := by decide +kernel
theorem dX12_sheet_163 : decode cX12_sheet 163 = .ok (.istore 11, 2) := by decide +kernel
theorem dX12_sheet_165 : decode cX12_sheet 165 = .ok (.aload_n 0, 1) := by decide +kernel
theorem dX12_sheet_166 : decode cX12_sheet 166 = .ok (.getfield 61, 3) := by decide +kernel
theorem dX12_sheet_169 : decode cX12_sheet 169 = .ok (.bipush 60, 2) := by decide +kernel
theorem dX12_sheet_171 : decode cX12_sheet 171 = .ok (.iload_n 1, 1) := by decide +kernel
theorem dX12_sheet_172 : decode cX12_sheet 172 = .ok (.imul, 1) := by decide +kernel
theorem dX12_sheet_173 : decode cX12_sheet 173 = .ok (.iload 7, 2) := by decide +kernel
theorem dX12_sheet_175 : decode cX12_sheet 175 = .ok (.iadd, 1) := by decide +kernel
theorem dX12_sheet_176 : decode cX12_sheet 176 = .ok (.iconst 4, 1) := by decide +kernel
theorem dX12_sheet_177 : decode cX12_sheet 177 = .ok (.iadd, 1) := by decide +kernel
theorem dX12_sheet_178 : decode cX12_sheet 178 = .ok (.laload, 1) := by decide +kernel
theorem dX12_sheet_179 : decode cX12_sheet 179 = .ok (.l2i, 1) := by decide +kernel
theorem dX12_sheet_180 : decode cX12_sheet 180 = .ok (.istore 12, 2) := by decide +kernel
theorem dX12_sheet_182 : decode cX12_sheet 182 = .ok (.iload 8, 2) := by decide +kernel
theorem dX12_sheet_184 : decode cX12_sheet 184 = .ok (.ifCond .lt 33, 3) := by decide +kernel
theorem dX12_sheet_187 : decode cX12_sheet 187 = .ok (.iload 8, 2) := by decide +kernel
theorem dX12_sheet_189 : decode cX12_sheet 189 = .ok (.iconst 4, 1) := by decide +kernel
theorem dX12_sheet_190 : decode cX12_sheet 190 = .ok (.if_icmp .ge 27, 3) := by decide +kernel
theorem dX12_sheet_193 : decode cX12_sheet 193 = .ok (.aload_n 0, 1) := by decide +kernel
theorem dX12_sheet_194 : decode cX12_sheet 194 = .ok (.iload 10, 2) := by decide +kernel
theorem dX12_sheet_196 : decode cX12_sheet 196 = .ok (.iload 11, 2) := by decide +kernel
theorem dX12_sheet_198 : decode cX12_sheet 198 = .ok (.invokevirtual 230, 3) := by decide +kernel
theorem dX12_sheet_201 : decode cX12_sheet 201 = .ok (.ifCond .eq 16, 3) := by decide +kernel
theorem dX12_sheet_204 : decode cX12_sheet 204 = .ok (.aload_n 0, 1) := by decide +kernel
theorem dX12_sheet_205 : decode cX12_sheet 205 = .ok (.getfield 165, 3) := by decide +kernel
theorem dX12_sheet_208 : decode cX12_sheet 208 = .ok (.bipush 16, 2) := by decide +kernel
theorem dX12_sheet_210 : decode cX12_sheet 210 = .ok (.if_icmp .ge 7, 3) := by decide +kernel
theorem dX12_sheet_213 : decode cX12_sheet 213 = .ok (.iconst 1, 1) := by decide +kernel
theorem dX12_sheet_214 : decode cX12_sheet 214 = .ok (.goto 4, 3) := by decide +kernel
theorem dX12_sheet_217 : decode cX12_sheet 217 = .ok (.iconst 0, 1) := by decide +kernel
theorem dX12_sheet_218 : decode cX12_sheet 218 = .ok (.istore 13, 2) := by decide +kernel
theorem dX12_sheet_220 : decode cX12_sheet 220 = .ok (.iload 8, 2) := by decide +kernel
theorem dX12_sheet_222 : decode cX12_sheet 222 = .ok (.iconst 2, 1) := by decide +kernel
theorem dX12_sheet_223 : decode cX12_sheet 223 = .ok (.if_icmp .ne 38, 3) := by decide +kernel
theorem dX12_sheet_226 : decode cX12_sheet 226 = .ok (.iload 13, 2) := by decide +kernel
theorem dX12_sheet_228 : decode cX12_sheet 228 = .ok (.ifCond .eq 27, 3) := by decide +kernel
theorem dX12_sheet_231 : decode cX12_sheet 231 = .ok (.aload_n 0, 1) := by decide +kernel
theorem dX12_sheet_232 : decode cX12_sheet 232 = .ok (.iload 9, 2) := by decide +kernel
theorem dX12_sheet_234 : decode cX12_sheet 234 = .ok (.invokevirtual 191, 3) := by decide +kernel
theorem dX12_sheet_237 : decode cX12_sheet 237 = .ok (.ifCond .eq 18, 3) := by decide +kernel
theorem dX12_sheet_240 : decode cX12_sheet 240 = .ok (.aload_n 0, 1) := by decide +kernel
theorem dX12_sheet_241 : decode cX12_sheet 241 = .ok (.iload 9, 2) := by decide +kernel
theorem dX12_sheet_243 : decode cX12_sheet 243 = .ok (.iload 12, 2) := by decide +kernel
theorem dX12_sheet_245 : decode cX12_sheet 245 = .ok (.invokevirtual 237, 3) := by decide +kernel
theorem dX12_sheet_248 : decode cX12_sheet 248 = .ok (.ifCond .eq 7, 3) := by decide +kernel
theorem dX12_sheet_251 : decode cX12_sheet 251 = .ok (.iconst 1, 1) := by decide +kernel
theorem dX12_sheet_252 : decode cX12_sheet 252 = .ok (.goto 4, 3) := by decide +kernel
theorem dX12_sheet_255 : decode cX12_sheet 255 = .ok (.iconst 0, 1) := by decide +kernel
theorem dX12_sheet_256 : decode cX12_sheet 256 = .ok (.istore 13, 2) := by decide +kernel
theorem dX12_sheet_258 : decode cX12_sheet 258 = .ok (.goto 50, 3) := by decide +kernel
theorem dX12_sheet_261 : decode cX12_sheet 261 = .ok (.iload 13, 2) := by decide +kernel
theorem dX12_sheet_263 : decode cX12_sheet 263 = .ok (.ifCond .eq 42, 3) := by decide +kernel
theorem dX12_sheet_266 : decode cX12_sheet 266 = .ok (.aload_n 0, 1) := by decide +kernel
theorem dX12_sheet_267 : decode cX12_sheet 267 = .ok (.iload 9, 2) := by decide +kernel
theorem dX12_sheet_269 : decode cX12_sheet 269 = .ok (.invokevirtual 220, 3) := by decide +kernel
theorem dX12_sheet_272 : decode cX12_sheet 272 = .ok (.ifCond .eq 33, 3) := by decide +kernel
theorem dX12_sheet_275 : decode cX12_sheet 275 = .ok (.iload 8, 2) := by decide +kernel
theorem dX12_sheet_277 : decode cX12_sheet 277 = .ok (.ifCond .ne 10, 3) := by decide +kernel
theorem dX12_sheet_280 : decode cX12_sheet 280 = .ok (.iload 10, 2) := by decide +kernel
theorem dX12_sheet_282 : decode cX12_sheet 282 = .ok (.iload 11, 2) := by decide +kernel
theorem dX12_sheet_284 : decode cX12_sheet 284 = .ok (.if_icmp .ne 21, 3) := by decide +kernel
theorem dX12_sheet_287 : decode cX12_sheet 287 = .ok (.iload 8, 2) := by decide +kernel
theorem dX12_sheet_289 : decode cX12_sheet 289 = .ok (.iconst 1, 1) := by decide +kernel
theorem dX12_sheet_290 : decode cX12_sheet 290 = .ok (.if_icmp .ne 11, 3) := by decide +kernel
theorem dX12_sheet_293 : decode cX12_sheet 293 = .ok (.aload_n 0, 1) := by decide +kernel
theorem dX12_sheet_294 : decode cX12_sheet 294 = .ok (.invokevirtual 233, 3) := by decide +kernel
theorem dX12_sheet_297 : decode cX12_sheet 297 = .ok (.iconst 2, 1) := by decide +kernel
theorem dX12_sheet_298 : decode cX12_sheet 298 = .ok (.if_icmp .ge 7, 3) := by decide +kernel
theorem dX12_sheet_301 : decode cX12_sheet 301 = .ok (.iconst 1, 1) := by decide +kernel
theorem dX12_sheet_302 : decode cX12_sheet 302 = .ok (.goto 4, 3) := by decide +kernel
theorem dX12_sheet_305 : decode cX12_sheet 305 = .ok (.iconst 0, 1) := by decide +kernel
theorem dX12_sheet_306 : decode cX12_sheet 306 = .ok (.istore 13, 2) := by decide +kernel
theorem dX12_sheet_308 : decode cX12_sheet 308 = .ok (.iload 13, 2) := by decide +kernel
theorem dX12_sheet_310 : decode cX12_sheet 310 = .ok (.ifCond .ne 6, 3) := by decide +kernel
theorem dX12_sheet_313 : decode cX12_sheet 313 = .ok (.iload 6, 2) := by decide +kernel
theorem dX12_sheet_315 : decode cX12_sheet 315 = .ok (.ireturn, 1) := by decide +kernel
theorem dX12_sheet_316 : decode cX12_sheet 316 = .ok (.aload_n 0, 1) := by decide +kernel
theorem dX12_sheet_317 : decode cX12_sheet 317 = .ok (.iload 8, 2) := by decide +kernel
theorem dX12_sheet_319 : decode cX12_sheet 319 = .ok (.iload 9, 2) := by decide +kernel
theorem dX12_sheet_321 : decode cX12_sheet 321 = .ok (.iload 10, 2) := by decide +kernel
theorem dX12_sheet_323 : decode cX12_sheet 323 = .ok (.iload 11, 2) := by decide +kernel
theorem dX12_sheet_325 : decode cX12_sheet 325 = .ok (.iload 8, 2) := by decide +kernel
theorem dX12_sheet_327 : decode cX12_sheet 327 = .ok (.iconst 2, 1) := by decide +kernel
theorem dX12_sheet_328 : decode cX12_sheet 328 = .ok (.if_icmp .ne 8, 3) := by decide +kernel
theorem dX12_sheet_331 : decode cX12_sheet 331 = .ok (.iload 12, 2) := by decide +kernel
theorem dX12_sheet_333 : decode cX12_sheet 333 = .ok (.goto 4, 3) := by decide +kernel
theorem dX12_sheet_336 : decode cX12_sheet 336 = .ok (.iconst 0, 1) := by decide +kernel
theorem dX12_sheet_337 : decode cX12_sheet 337 = .ok (.iload 4, 2) := by decide +kernel
theorem dX12_sheet_339 : decode cX12_sheet 339 = .ok (.invokevirtual 226, 3) := by decide +kernel
theorem dX12_sheet_342 : decode cX12_sheet 342 = .ok (.pop, 1) := by decide +kernel
theorem dX12_sheet_343 : decode cX12_sheet 343 = .ok (.iinc 6 1, 3) := by decide +kernel
theorem dX12_sheet_346 : decode cX12_sheet 346 = .ok (.iinc 7 5, 3) := by decide +kernel
theorem dX12_sheet_349 : decode cX12_sheet 349 = .ok (.goto (-258), 3) := by decide +kernel
theorem dX12_sheet_352 : decode cX12_sheet 352 = .ok (.iload 6, 2) := by decide +kernel
theorem dX12_sheet_354 : decode cX12_sheet 354 = .ok (.ireturn, 1) := by decide +kernel
theorem dX12_by_0 : decode cX12_by 0 = .ok (.aload_n 0, 1) := by decide +kernel
theorem dX12_by_1 : decode cX12_by 1 = .ok (.iload_n 1, 1) := by decide +kernel
theorem dX12_by_2 : decode cX12_by 2 = .ok (.invokevirtual 188, 3) := by decide +kernel
theorem dX12_by_5 : decode cX12_by 5 = .ok (.ifCond .ne 9, 3) := by decide +kernel
theorem dX12_by_8 : decode cX12_by 8 = .ok (.aload_n 0, 1) := by decide +kernel
theorem dX12_by_9 : decode cX12_by 9 = .ok (.iconst (-1), 1) := by decide +kernel
theorem dX12_by_10 : decode cX12_by 10 = .ok (.invokevirtual 175, 3) := by decide +kernel
theorem dX12_by_13 : decode cX12_by 13 = .ok (.ireturn, 1) := by decide +kernel
theorem dX12_by_14 : decode cX12_by 14 = .ok (.iload_n 2, 1) := by decide +kernel
theorem dX12_by_15 : decode cX12_by 15 = .ok (.ifCond .eq 7, 3) := by decide +kernel
theorem dX12_by_18 : decode cX12_by 18 = .ok (.iconst 1, 1) := by decide +kernel
theorem dX12_by_19 : decode cX12_by 19 = .ok (.goto 4, 3) := by decide +kernel
theorem dX12_by_22 : decode cX12_by 22 = .ok (.iconst 0, 1) := by decide +kernel
theorem dX12_by_23 : decode cX12_by 23 = .ok (.istore_n 3, 1) := by decide +kernel
theorem dX12_by_24 : decode cX12_by 24 = .ok (.aload_n 0, 1) := by decide +kernel
theorem dX12_by_25 : decode cX12_by 25 = .ok (.getfield 49, 3) := by decide +kernel
theorem dX12_by_28 : decode cX12_by 28 = .ok (.iload_n 1, 1) := by decide +kernel
theorem dX12_by_29 : decode cX12_by 29 = .ok (.iaload, 1) := by decide +kernel
theorem dX12_by_30 : decode cX12_by 30 = .ok (.iload_n 3, 1) := by decide +kernel
theorem dX12_by_31 : decode cX12_by 31 = .ok (.if_icmp .ne 5, 3) := by decide +kernel
theorem dX12_by_34 : decode cX12_by 34 = .ok (.iconst 0, 1) := by decide +kernel
theorem dX12_by_35 : decode cX12_by 35 = .ok (.ireturn, 1) := by decide +kernel
theorem dX12_by_36 : decode cX12_by 36 = .ok (.aload_n 0, 1) := by decide +kernel
theorem dX12_by_37 : decode cX12_by 37 = .ok (.getfield 49, 3) := by decide +kernel
theorem dX12_by_40 : decode cX12_by 40 = .ok (.iload_n 1, 1) := by decide +kernel
theorem dX12_by_41 : decode cX12_by 41 = .ok (.iload_n 3, 1) := by decide +kernel
theorem dX12_by_42 : decode cX12_by 42 = .ok (.iastore, 1) := by decide +kernel
theorem dX12_by_43 : decode cX12_by 43 = .ok (.iconst 1, 1) := by decide +kernel
theorem dX12_by_44 : decode cX12_by 44 = .ok (.ireturn, 1) := by decide +kernel
theorem dX12_pieceOf_0 : decode cX12_pieceOf 0 = .ok (.aload_n 0, 1) := by decide +kernel
theorem dX12_pieceOf_1 : decode cX12_pieceOf 1 = .ok (.iload_n 1, 1) := by decide +kernel
theorem dX12_pieceOf_2 : decode cX12_pieceOf 2 = .ok (.invokevirtual 188, 3) := by decide +kernel
theorem dX12_pieceOf_5 : decode cX12_pieceOf 5 = .ok (.ifCond .eq 13, 3) := by decide +kernel
theorem dX12_pieceOf_8 : decode cX12_pieceOf 8 = .ok (.iload_n 2, 1) := by decide +kernel
theorem dX12_pieceOf_9 : decode cX12_pieceOf 9 = .ok (.ifCond .lt 9, 3) := by decide +kernel
theorem dX12_pieceOf_12 : decode cX12_pieceOf 12 = .ok (.iload_n 2, 1) := by decide +kernel
theorem dX12_pieceOf_13 : decode cX12_pieceOf 13 = .ok (.bipush 6, 2) := by decide +kernel
theorem dX12_pieceOf_15 : decode cX12_pieceOf 15 = .ok (.if_icmp .le 10, 3) := by decide +kernel
theorem dX12_pieceOf_18 : decode cX12_pieceOf 18 = .ok (.aload_n 0, 1) := by decide +kernel
theorem dX12_pieceOf_19 : decode cX12_pieceOf 19 = .ok (.bipush (-5), 2) := by decide +kernel
theorem dX12_pieceOf_21 : decode cX12_pieceOf 21 = .ok (.invokevirtual 175, 3) := by decide +kernel
theorem dX12_pieceOf_24 : decode cX12_pieceOf 24 = .ok (.ireturn, 1) := by decide +kernel
theorem dX12_pieceOf_25 : decode cX12_pieceOf 25 = .ok (.iload_n 2, 1) := by decide +kernel
theorem dX12_pieceOf_26 : decode cX12_pieceOf 26 = .ok (.ifCond .ne 10, 3) := by decide +kernel
theorem dX12_pieceOf_29 : decode cX12_pieceOf 29 = .ok (.aload_n 0, 1) := by decide +kernel
theorem dX12_pieceOf_30 : decode cX12_pieceOf 30 = .ok (.getfield 31, 3) := by decide +kernel
theorem dX12_pieceOf_33 : decode cX12_pieceOf 33 = .ok (.iload_n 1, 1) := by decide +kernel
theorem dX12_pieceOf_34 : decode cX12_pieceOf 34 = .ok (.iaload, 1) := by decide +kernel
theorem dX12_pieceOf_35 : decode cX12_pieceOf 35 = .ok (.ireturn, 1) := by decide +kernel
theorem dX12_pieceOf_36 : decode cX12_pieceOf 36 = .ok (.iload_n 2, 1) := by decide +kernel
theorem dX12_pieceOf_37 : decode cX12_pieceOf 37 = .ok (.iconst 1, 1) := by decide +kernel
theorem dX12_pieceOf_38 : decode cX12_pieceOf 38 = .ok (.if_icmp .ne 10, 3) := by decide +kernel
theorem dX12_pieceOf_41 : decode cX12_pieceOf 41 = .ok (.aload_n 0, 1) := by decide +kernel
theorem dX12_pieceOf_42 : decode cX12_pieceOf 42 = .ok (.getfield 34, 3) := by decide +kernel
theorem dX12_pieceOf_45 : decode cX12_pieceOf 45 = .ok (.iload_n 1, 1) := by decide +kernel
theorem dX12_pieceOf_46 : decode cX12_pieceOf 46 = .ok (.iaload, 1) := by decide +kernel
theorem dX12_pieceOf_47 : decode cX12_pieceOf 47 = .ok (.ireturn, 1) := by decide +kernel
theorem dX12_pieceOf_48 : decode cX12_pieceOf 48 = .ok (.iload_n 2, 1) := by decide +kernel
theorem dX12_pieceOf_49 : decode cX12_pieceOf 49 = .ok (.iconst 2, 1) := by decide +kernel
theorem dX12_pieceOf_50 : decode cX12_pieceOf 50 = .ok (.if_icmp .ne 10, 3) := by decide +kernel
theorem dX12_pieceOf_53 : decode cX12_pieceOf 53 = .ok (.aload_n 0, 1) := by decide +kernel
theorem dX12_pieceOf_54 : decode cX12_pieceOf 54 = .ok (.getfield 37, 3) := by decide +kernel
theorem dX12_pieceOf_57 : decode cX12_pieceOf 57 = .ok (.iload_n 1, 1) := by decide +kernel
theorem dX12_pieceOf_58 : decode cX12_pieceOf 58 = .ok (.iaload, 1) := by decide +kernel
theorem dX12_pieceOf_59 : decode cX12_pieceOf 59 = .ok (.ireturn, 1) := by decide +kernel
theorem dX12_pieceOf_60 : decode cX12_pieceOf 60 = .ok (.iload_n 2, 1) := by decide +kernel
theorem dX12_pieceOf_61 : decode cX12_pieceOf 61 = .ok (.iconst 3, 1) := by decide +kernel
theorem dX12_pieceOf_62 : decode cX12_pieceOf 62 = .ok (.if_icmp .ne 10, 3) := by decide +kernel
theorem dX12_pieceOf_65 : decode cX12_pieceOf 65 = .ok (.aload_n 0, 1) := by decide +kernel
theorem dX12_pieceOf_66 : decode cX12_pieceOf 66 = .ok (.getfield 40, 3) := by decide +kernel
theorem dX12_pieceOf_69 : decode cX12_pieceOf 69 = .ok (.iload_n 1, 1) := by decide +kernel
theorem dX12_pieceOf_70 : decode cX12_pieceOf 70 = .ok (.iaload, 1) := by decide +kernel
theorem dX12_pieceOf_71 : decode cX12_pieceOf 71 = .ok (.ireturn, 1) := by decide +kernel
theorem dX12_pieceOf_72 : decode cX12_pieceOf 72 = .ok (.iload_n 2, 1) := by decide +kernel
theorem dX12_pieceOf_73 : decode cX12_pieceOf 73 = .ok (.iconst 4, 1) := by decide +kernel
theorem dX12_pieceOf_74 : decode cX12_pieceOf 74 = .ok (.if_icmp .ne 10, 3) := by decide +kernel
theorem dX12_pieceOf_77 : decode cX12_pieceOf 77 = .ok (.aload_n 0, 1) := by decide +kernel
theorem dX12_pieceOf_78 : decode cX12_pieceOf 78 = .ok (.getfield 43, 3) := by decide +kernel
theorem dX12_pieceOf_81 : decode cX12_pieceOf 81 = .ok (.iload_n 1, 1) := by decide +kernel
theorem dX12_pieceOf_82 : decode cX12_pieceOf 82 = .ok (.iaload, 1) := by decide +kernel
theorem dX12_pieceOf_83 : decode cX12_pieceOf 83 = .ok (.ireturn, 1) := by decide +kernel
theorem dX12_pieceOf_84 : decode cX12_pieceOf 84 = .ok (.iload_n 2, 1) := by decide +kernel
theorem dX12_pieceOf_85 : decode cX12_pieceOf 85 = .ok (.iconst 5, 1) := by decide +kernel
theorem dX12_pieceOf_86 : decode cX12_pieceOf 86 = .ok (.if_icmp .ne 12, 3) := by decide +kernel
theorem dX12_pieceOf_89 : decode cX12_pieceOf 89 = .ok (.aload_n 0, 1) := by decide +kernel
theorem dX12_pieceOf_90 : decode cX12_pieceOf 90 = .ok (.getfield 46, 3) := by decide +kernel
theorem dX12_pieceOf_93 : decode cX12_pieceOf 93 = .ok (.iload_n 1, 1) := by decide +kernel
theorem dX12_pieceOf_94 : decode cX12_pieceOf 94 = .ok (.iaload, 1) := by decide +kernel
theorem dX12_pieceOf_95 : decode cX12_pieceOf 95 = .ok (.goto 9, 3) := by decide +kernel
theorem dX12_pieceOf_98 : decode cX12_pieceOf 98 = .ok (.aload_n 0, 1) := by decide +kernel
theorem dX12_pieceOf_99 : decode cX12_pieceOf 99 = .ok (.getfield 49, 3) := by decide +kernel
theorem dX12_pieceOf_102 : decode cX12_pieceOf 102 = .ok (.iload_n 1, 1) := by decide +kernel
theorem dX12_pieceOf_103 : decode cX12_pieceOf 103 = .ok (.iaload, 1) := by decide +kernel
theorem dX12_pieceOf_104 : decode cX12_pieceOf 104 = .ok (.ireturn, 1) := by decide +kernel
theorem dX12_holds__0 : decode cX12_holds_ 0 = .ok (.iconst 1, 1) := by decide +kernel
theorem dX12_holds__1 : decode cX12_holds_ 1 = .ok (.istore 4, 2) := by decide +kernel
theorem dX12_holds__3 : decode cX12_holds_ 3 = .ok (.iconst 0, 1) := by decide +kernel
theorem dX12_holds__4 : decode cX12_holds_ 4 = .ok (.istore 5, 2) := by decide +kernel
theorem dX12_holds__6 : decode cX12_holds_ 6 = .ok (.iload 5, 2) := by decide +kernel
theorem dX12_holds__8 : decode cX12_holds_ 8 = .ok (.iload_n 3, 1) := by decide +kernel
theorem dX12_holds__9 : decode cX12_holds_ 9 = .ok (.if_icmp .ge 167, 3) := by decide +kernel
theorem dX12_holds__12 : decode cX12_holds_ 12 = .ok (.aload_n 1, 1) := by decide +kernel
theorem dX12_holds__13 : decode cX12_holds_ 13 = .ok (.iload_n 2, 1) := by decide +kernel
theorem dX12_holds__14 : decode cX12_holds_ 14 = .ok (.iload 5, 2) := by decide +kernel
theorem dX12_holds__16 : decode cX12_holds_ 16 = .ok (.iadd, 1) := by decide +kernel
theorem dX12_holds__17 : decode cX12_holds_ 17 = .ok (.iaload, 1) := by decide +kernel
theorem dX12_holds__18 : decode cX12_holds_ 18 = .ok (.bipush 58, 2) := by decide +kernel
theorem dX12_holds__20 : decode cX12_holds_ 20 = .ok (.if_icmp .eq 156, 3) := by decide +kernel
theorem dX12_holds__23 : decode cX12_holds_ 23 = .ok (.aload_n 1, 1) := by decide +kernel
theorem dX12_holds__24 : decode cX12_holds_ 24 = .ok (.iload_n 2, 1) := by decide +kernel
theorem dX12_holds__25 : decode cX12_holds_ 25 = .ok (.iload 5, 2) := by decide +kernel
theorem dX12_holds__27 : decode cX12_holds_ 27 = .ok (.iadd, 1) := by decide +kernel
theorem dX12_holds__28 : decode cX12_holds_ 28 = .ok (.iaload, 1) := by decide +kernel
theorem dX12_holds__29 : decode cX12_holds_ 29 = .ok (.istore 6, 2) := by decide +kernel
theorem dX12_holds__31 : decode cX12_holds_ 31 = .ok (.iload 6, 2) := by decide +kernel
theorem dX12_holds__33 : decode cX12_holds_ 33 = .ok (.bipush 124, 2) := by decide +kernel
theorem dX12_holds__35 : decode cX12_holds_ 35 = .ok (.if_icmp .ne 19, 3) := by decide +kernel
theorem dX12_holds__38 : decode cX12_holds_ 38 = .ok (.iload 4, 2) := by decide +kernel
theorem dX12_holds__40 : decode cX12_holds_ 40 = .ok (.ifCond .eq 5, 3) := by decide +kernel
theorem dX12_holds__43 : decode cX12_holds_ 43 = .ok (.iconst 1, 1) := by decide +kernel
theorem dX12_holds__44 : decode cX12_holds_ 44 = .ok (.ireturn, 1) := by decide +kernel
theorem dX12_holds__45 : decode cX12_holds_ 45 = .ok (.iconst 1, 1) := by decide +kernel
theorem dX12_holds__46 : decode cX12_holds_ 46 = .ok (.istore 4, 2) := by decide +kernel
theorem dX12_holds__48 : decode cX12_holds_ 48 = .ok (.iinc 5 1, 3) := by decide +kernel
theorem dX12_holds__51 : decode cX12_holds_ 51 = .ok (.goto (-45), 3) := by decide +kernel
theorem dX12_holds__54 : decode cX12_holds_ 54 = .ok (.iload 6, 2) := by decide +kernel
theorem dX12_holds__56 : decode cX12_holds_ 56 = .ok (.bipush 38, 2) := by decide +kernel
theorem dX12_holds__58 : decode cX12_holds_ 58 = .ok (.if_icmp .ne 9, 3) := by decide +kernel
theorem dX12_holds__61 : decode cX12_holds_ 61 = .ok (.iinc 5 1, 3) := by decide +kernel
theorem dX12_holds__64 : decode cX12_holds_ 64 = .ok (.goto (-58), 3) := by decide +kernel
theorem dX12_holds__67 : decode cX12_holds_ 67 = .ok (.iload 6, 2) := by decide +kernel
theorem dX12_holds__69 : decode cX12_holds_ 69 = .ok (.bipush 33, 2) := by decide +kernel
theorem dX12_holds__71 : decode cX12_holds_ 71 = .ok (.if_icmp .ne 7, 3) := by decide +kernel
theorem dX12_holds__74 : decode cX12_holds_ 74 = .ok (.iconst 1, 1) := by decide +kernel
theorem dX12_holds__75 : decode cX12_holds_ 75 = .ok (.goto 4, 3) := by decide +kernel
theorem dX12_holds__78 : decode cX12_holds_ 78 = .ok (.iconst 0, 1) := by decide +kernel
theorem dX12_holds__79 : decode cX12_holds_ 79 = .ok (.istore 7, 2) := by decide +kernel
theorem dX12_holds__81 : decode cX12_holds_ 81 = .ok (.iload 7, 2) := by decide +kernel
theorem dX12_holds__83 : decode cX12_holds_ 83 = .ok (.ifCond .eq 6, 3) := by decide +kernel
theorem dX12_holds__86 : decode cX12_holds_ 86 = .ok (.iinc 5 1, 3) := by decide +kernel
theorem dX12_holds__89 : decode cX12_holds_ 89 = .ok (.aload_n 0, 1) := by decide +kernel
theorem dX12_holds__90 : decode cX12_holds_ 90 = .ok (.getfield 69, 3) := by decide +kernel
theorem dX12_holds__93 : decode cX12_holds_ 93 = .ok (.aload_n 1, 1) := by decide +kernel
theorem dX12_holds__94 : decode cX12_holds_ 94 = .ok (.iload_n 2, 1) := by decide +kernel
theorem dX12_holds__95 : decode cX12_holds_ 95 = .ok (.iload 5, 2) := by decide +kernel
theorem dX12_holds__97 : decode cX12_holds_ 97 = .ok (.iadd, 1) := by decide +kernel
theorem dX12_holds__98 : decode cX12_holds_ 98 = .ok (.iaload, 1) := by decide +kernel
theorem dX12_holds__99 : decode cX12_holds_ 99 = .ok (.bipush 48, 2) := by decide +kernel
theorem dX12_holds__101 : decode cX12_holds_ 101 = .ok (.isub, 1) := by decide +kernel
theorem dX12_holds__102 : decode cX12_holds_ 102 = .ok (.iaload, 1) := by decide +kernel
theorem dX12_holds__103 : decode cX12_holds_ 103 = .ok (.istore 8, 2) := by decide +kernel
theorem dX12_holds__105 : decode cX12_holds_ 105 = .ok (.iinc 5 1, 3) := by decide +kernel
theorem dX12_holds__108 : decode cX12_holds_ 108 = .ok (.iconst 0, 1) := by decide +kernel
theorem dX12_holds__109 : decode cX12_holds_ 109 = .ok (.istore 9, 2) := by decide +kernel
theorem dX12_holds__111 : decode cX12_holds_ 111 = .ok (.iload 5, 2) := by decide +kernel
theorem dX12_holds__113 : decode cX12_holds_ 113 = .ok (.iload_n 3, 1) := by decide +kernel
theorem dX12_holds__114 : decode cX12_holds_ 114 = .ok (.if_icmp .ge 30, 3) := by decide +kernel
theorem dX12_holds__117 : decode cX12_holds_ 117 = .ok (.aload_n 1, 1) := by decide +kernel
theorem dX12_holds__118 : decode cX12_holds_ 118 = .ok (.iload_n 2, 1) := by decide +kernel
theorem dX12_holds__119 : decode cX12_holds_ 119 = .ok (.iload 5, 2) := by decide +kernel
theorem dX12_holds__121 : decode cX12_holds_ 121 = .ok (.iadd, 1) := by decide +kernel
theorem dX12_holds__122 : decode cX12_holds_ 122 = .ok (.iaload, 1) := by decide +kernel
theorem dX12_holds__123 : decode cX12_holds_ 123 = .ok (.bipush 62, 2) := by decide +kernel
theorem dX12_holds__125 : decode cX12_holds_ 125 = .ok (.if_icmp .ne 19, 3) := by decide +kernel
theorem dX12_holds__128 : decode cX12_holds_ 128 = .ok (.aload_n 1, 1) := by decide +kernel
theorem dX12_holds__129 : decode cX12_holds_ 129 = .ok (.iload_n 2, 1) := by decide +kernel
theorem dX12_holds__130 : decode cX12_holds_ 130 = .ok (.iload 5, 2) := by decide +kernel
theorem dX12_holds__132 : decode cX12_holds_ 132 = .ok (.iadd, 1) := by decide +kernel
theorem dX12_holds__133 : decode cX12_holds_ 133 = .ok (.iconst 1, 1) := by decide +kernel
theorem dX12_holds__134 : decode cX12_holds_ 134 = .ok (.iadd, 1) := by decide +kernel
theorem dX12_holds__135 : decode cX12_holds_ 135 = .ok (.iaload, 1) := by decide +kernel
theorem dX12_holds__136 : decode cX12_holds_ 136 = .ok (.bipush 48, 2) := by decide +kernel
theorem dX12_holds__138 : decode cX12_holds_ 138 = .ok (.isub, 1) := by decide +kernel
theorem dX12_holds__139 : decode cX12_holds_ 139 = .ok (.istore 9, 2) := by decide +kernel
theorem dX12_holds__141 : decode cX12_holds_ 141 = .ok (.iinc 5 2, 3) := by decide +kernel
theorem dX12_holds__144 : decode cX12_holds_ 144 = .ok (.iload 4, 2) := by decide +kernel
theorem dX12_holds__146 : decode cX12_holds_ 146 = .ok (.ifCond .eq 24, 3) := by decide +kernel
theorem dX12_holds__149 : decode cX12_holds_ 149 = .ok (.iload 8, 2) := by decide +kernel
theorem dX12_holds__151 : decode cX12_holds_ 151 = .ok (.iload 9, 2) := by decide +kernel
theorem dX12_holds__153 : decode cX12_holds_ 153 = .ok (.if_icmp .le 7, 3) := by decide +kernel
theorem dX12_holds__156 : decode cX12_holds_ 156 = .ok (.iconst 1, 1) := by decide +kernel
theorem dX12_holds__157 : decode cX12_holds_ 157 = .ok (.goto 4, 3) := by decide +kernel
theorem dX12_holds__160 : decode cX12_holds_ 160 = .ok (.iconst 0, 1) := by decide +kernel
theorem dX12_holds__161 : decode cX12_holds_ 161 = .ok (.iload 7, 2) := by decide +kernel
theorem dX12_holds__163 : decode cX12_holds_ 163 = .ok (.if_icmp .eq 7, 3) := by decide +kernel
theorem dX12_holds__166 : decode cX12_holds_ 166 = .ok (.iconst 1, 1) := by decide +kernel
theorem dX12_holds__167 : decode cX12_holds_ 167 = .ok (.goto 4, 3) := by decide +kernel
theorem dX12_holds__170 : decode cX12_holds_ 170 = .ok (.iconst 0, 1) := by decide +kernel
theorem dX12_holds__171 : decode cX12_holds_ 171 = .ok (.istore 4, 2) := by decide +kernel
theorem dX12_holds__173 : decode cX12_holds_ 173 = .ok (.goto (-167), 3) := by decide +kernel
theorem dX12_holds__176 : decode cX12_holds_ 176 = .ok (.iload 4, 2) := by decide +kernel
theorem dX12_holds__178 : decode cX12_holds_ 178 = .ok (.ireturn, 1) := by decide +kernel
theorem dX12_thenOf_0 : decode cX12_thenOf 0 = .ok (.iload_n 2, 1) := by decide +kernel
theorem dX12_thenOf_1 : decode cX12_thenOf 1 = .ok (.istore 4, 2) := by decide +kernel
theorem dX12_thenOf_3 : decode cX12_thenOf 3 = .ok (.iload_n 3, 1) := by decide +kernel
theorem dX12_thenOf_4 : decode cX12_thenOf 4 = .ok (.istore 5, 2) := by decide +kernel
theorem dX12_thenOf_6 : decode cX12_thenOf 6 = .ok (.bipush 60, 2) := by decide +kernel
theorem dX12_thenOf_8 : decode cX12_thenOf 8 = .ok (.iload_n 1, 1) := by decide +kernel
theorem dX12_thenOf_9 : decode cX12_thenOf 9 = .ok (.imul, 1) := by decide +kernel
theorem dX12_thenOf_10 : decode cX12_thenOf 10 = .ok (.istore 6, 2) := by decide +kernel
theorem dX12_thenOf_12 : decode cX12_thenOf 12 = .ok (.iconst 0, 1) := by decide +kernel
theorem dX12_thenOf_13 : decode cX12_thenOf 13 = .ok (.istore 7, 2) := by decide +kernel
theorem dX12_thenOf_15 : decode cX12_thenOf 15 = .ok (.aload_n 0, 1) := by decide +kernel
theorem dX12_thenOf_16 : decode cX12_thenOf 16 = .ok (.getfield 22, 3) := by decide +kernel
theorem dX12_thenOf_19 : decode cX12_thenOf 19 = .ok (.iload 6, 2) := by decide +kernel
theorem dX12_thenOf_21 : decode cX12_thenOf 21 = .ok (.iload 7, 2) := by decide +kernel
theorem dX12_thenOf_23 : decode cX12_thenOf 23 = .ok (.iadd, 1) := by decide +kernel
theorem dX12_thenOf_24 : decode cX12_thenOf 24 = .ok (.iaload, 1) := by decide +kernel
theorem dX12_thenOf_25 : decode cX12_thenOf 25 = .ok (.bipush 58, 2) := by decide +kernel
theorem dX12_thenOf_27 : decode cX12_thenOf 27 = .ok (.if_icmp .eq 9, 3) := by decide +kernel
theorem dX12_thenOf_30 : decode cX12_thenOf 30 = .ok (.iinc 7 1, 3) := by decide +kernel
theorem dX12_thenOf_33 : decode cX12_thenOf 33 = .ok (.goto (-18), 3) := by decide +kernel
theorem dX12_thenOf_36 : decode cX12_thenOf 36 = .ok (.iinc 7 1, 3) := by decide +kernel
theorem dX12_thenOf_39 : decode cX12_thenOf 39 = .ok (.iload 7, 2) := by decide +kernel
theorem dX12_thenOf_41 : decode cX12_thenOf 41 = .ok (.aload_n 0, 1) := by decide +kernel
theorem dX12_thenOf_42 : decode cX12_thenOf 42 = .ok (.getfield 19, 3) := by decide +kernel
theorem dX12_thenOf_45 : decode cX12_thenOf 45 = .ok (.iload_n 1, 1) := by decide +kernel
theorem dX12_thenOf_46 : decode cX12_thenOf 46 = .ok (.iaload, 1) := by decide +kernel
theorem dX12_thenOf_47 : decode cX12_thenOf 47 = .ok (.if_icmp .ge 115, 3) := by decide +kernel
theorem dX12_thenOf_50 : decode cX12_thenOf 50 = .ok (.aload_n 0, 1) := by decide +kernel
theorem dX12_thenOf_51 : decode cX12_thenOf 51 = .ok (.getfield 22, 3) := by decide +kernel
theorem dX12_thenOf_54 : decode cX12_thenOf 54 = .ok (.iload 6, 2) := by decide +kernel
theorem dX12_thenOf_56 : decode cX12_thenOf 56 = .ok (.iload 7, 2) := by decide +kernel
theorem dX12_thenOf_58 : decode cX12_thenOf 58 = .ok (.iadd, 1) := by decide +kernel
theorem dX12_thenOf_59 : decode cX12_thenOf 59 = .ok (.iaload, 1) := by decide +kernel
theorem dX12_thenOf_60 : decode cX12_thenOf 60 = .ok (.istore 8, 2) := by decide +kernel
theorem dX12_thenOf_62 : decode cX12_thenOf 62 = .ok (.aload_n 0, 1) := by decide +kernel
theorem dX12_thenOf_63 : decode cX12_thenOf 63 = .ok (.getfield 22, 3) := by decide +kernel
theorem dX12_thenOf_66 : decode cX12_thenOf 66 = .ok (.iload 6, 2) := by decide +kernel
theorem dX12_thenOf_68 : decode cX12_thenOf 68 = .ok (.iload 7, 2) := by decide +kernel
theorem dX12_thenOf_70 : decode cX12_thenOf 70 = .ok (.iadd, 1) := by decide +kernel
theorem dX12_thenOf_71 : decode cX12_thenOf 71 = .ok (.iconst 1, 1) := by decide +kernel
theorem dX12_thenOf_72 : decode cX12_thenOf 72 = .ok (.iadd, 1) := by decide +kernel
theorem dX12_thenOf_73 : decode cX12_thenOf 73 = .ok (.iaload, 1) := by decide +kernel
theorem dX12_thenOf_74 : decode cX12_thenOf 74 = .ok (.bipush 48, 2) := by decide +kernel
theorem dX12_thenOf_76 : decode cX12_thenOf 76 = .ok (.isub, 1) := by decide +kernel
theorem dX12_thenOf_77 : decode cX12_thenOf 77 = .ok (.istore 9, 2) := by decide +kernel
theorem dX12_thenOf_79 : decode cX12_thenOf 79 = .ok (.iconst 0, 1) := by decide +kernel
theorem dX12_thenOf_80 : decode cX12_thenOf 80 = .ok (.istore 10, 2) := by decide +kernel
theorem dX12_thenOf_82 : decode cX12_thenOf 82 = .ok (.iconst 0, 1) := by decide +kernel
theorem dX12_thenOf_83 : decode cX12_thenOf 83 = .ok (.istore 11, 2) := by decide +kernel
theorem dX12_thenOf_85 : decode cX12_thenOf 85 = .ok (.iload 11, 2) := by decide +kernel
theorem dX12_thenOf_87 : decode cX12_thenOf 87 = .ok (.iload 9, 2) := by decide +kernel
theorem dX12_thenOf_89 : decode cX12_thenOf 89 = .ok (.if_icmp .ge 23, 3) := by decide +kernel
theorem dX12_thenOf_92 : decode cX12_thenOf 92 = .ok (.aload_n 0, 1) := by decide +kernel
theorem dX12_thenOf_93 : decode cX12_thenOf 93 = .ok (.getfield 7, 3) := by decide +kernel
theorem dX12_thenOf_96 : decode cX12_thenOf 96 = .ok (.iload 11, 2) := by decide +kernel
theorem dX12_thenOf_98 : decode cX12_thenOf 98 = .ok (.iaload, 1) := by decide +kernel
theorem dX12_thenOf_99 : decode cX12_thenOf 99 = .ok (.iconst 1, 1) := by decide +kernel
theorem dX12_thenOf_100 : decode cX12_thenOf 100 = .ok (.if_icmp .ne 6, 3) := by decide +kernel
theorem dX12_thenOf_103 : decode cX12_thenOf 103 = .ok (.iinc 10 1, 3) := by decide +kernel
theorem dX12_thenOf_106 : decode cX12_thenOf 106 = .ok (.iinc 11 1, 3) := by decide +kernel
theorem dX12_thenOf_109 : decode cX12_thenOf 109 = .ok (.goto (-24), 3) := by decide +kernel
theorem dX12_thenOf_112 : decode cX12_thenOf 112 = .ok (.iload 8, 2) := by decide +kernel
theorem dX12_thenOf_114 : decode cX12_thenOf 114 = .ok (.bipush 98, 2) := by decide +kernel
theorem dX12_thenOf_116 : decode cX12_thenOf 116 = .ok (.if_icmp .ne 12, 3) := by decide +kernel
theorem dX12_thenOf_119 : decode cX12_thenOf 119 = .ok (.iload 4, 2) := by decide +kernel
theorem dX12_thenOf_121 : decode cX12_thenOf 121 = .ok (.iconst 1, 1) := by decide +kernel
theorem dX12_thenOf_122 : decode cX12_thenOf 122 = .ok (.iload 10, 2) := by decide +kernel
theorem dX12_thenOf_124 : decode cX12_thenOf 124 = .ok (.ishl, 1) := by decide +kernel
theorem dX12_thenOf_125 : decode cX12_thenOf 125 = .ok (.ior, 1) := by decide +kernel
theorem dX12_thenOf_126 : decode cX12_thenOf 126 = .ok (.istore 4, 2) := by decide +kernel
theorem dX12_thenOf_128 : decode cX12_thenOf 128 = .ok (.iload 8, 2) := by decide +kernel
theorem dX12_thenOf_130 : decode cX12_thenOf 130 = .ok (.bipush 101, 2) := by decide +kernel
theorem dX12_thenOf_132 : decode cX12_thenOf 132 = .ok (.if_icmp .ne 14, 3) := by decide +kernel
theorem dX12_thenOf_135 : decode cX12_thenOf 135 = .ok (.iload 4, 2) := by decide +kernel
theorem dX12_thenOf_137 : decode cX12_thenOf 137 = .ok (.iconst 1, 1) := by decide +kernel
theorem dX12_thenOf_138 : decode cX12_thenOf 138 = .ok (.iload 10, 2) := by decide +kernel
theorem dX12_thenOf_140 : decode cX12_thenOf 140 = .ok (.ishl, 1) := by decide +kernel
theorem dX12_thenOf_141 : decode cX12_thenOf 141 = .ok (.iconst (-1), 1) := by decide +kernel
theorem dX12_thenOf_142 : decode cX12_thenOf 142 = .ok (.ixor, 1) := by decide +kernel
theorem dX12_thenOf_143 : decode cX12_thenOf 143 = .ok (.iand, 1) := by decide +kernel
theorem dX12_thenOf_144 : decode cX12_thenOf 144 = .ok (.istore 4, 2) := by decide +kernel
theorem dX12_thenOf_146 : decode cX12_thenOf 146 = .ok (.iload 8, 2) := by decide +kernel
theorem dX12_thenOf_148 : decode cX12_thenOf 148 = .ok (.bipush 122, 2) := by decide +kernel
theorem dX12_thenOf_150 : decode cX12_thenOf 150 = .ok (.if_icmp .ne 6, 3) := by decide +kernel
theorem dX12_thenOf_153 : decode cX12_thenOf 153 = .ok (.iconst 0, 1) := by decide +kernel
theorem dX12_thenOf_154 : decode cX12_thenOf 154 = .ok (.istore 5, 2) := by decide +kernel
theorem dX12_thenOf_156 : decode cX12_thenOf 156 = .ok (.iinc 7 2, 3) := by decide +kernel
theorem dX12_thenOf_159 : decode cX12_thenOf 159 = .ok (.goto (-120), 3) := by decide +kernel
theorem dX12_thenOf_162 : decode cX12_thenOf 162 = .ok (.iload 4, 2) := by decide +kernel
theorem dX12_thenOf_164 : decode cX12_thenOf 164 = .ok (.iload 5, 2) := by decide +kernel
theorem dX12_thenOf_166 : decode cX12_thenOf 166 = .ok (.iconst 5, 1) := by decide +kernel
theorem dX12_thenOf_167 : decode cX12_thenOf 167 = .ok (.ishl, 1) := by decide +kernel
theorem dX12_thenOf_168 : decode cX12_thenOf 168 = .ok (.ior, 1) := by decide +kernel
theorem dX12_thenOf_169 : decode cX12_thenOf 169 = .ok (.ireturn, 1) := by decide +kernel
theorem dX12_makeMoments_0 : decode cX12_makeMoments 0 = .ok (.aload_n 0, 1) := by decide +kernel
theorem dX12_makeMoments_1 : decode cX12_makeMoments 1 = .ok (.aload_n 0, 1) := by decide +kernel
theorem dX12_makeMoments_2 : decode cX12_makeMoments 2 = .ok (.iconst 1, 1) := by decide +kernel
theorem dX12_makeMoments_3 : decode cX12_makeMoments 3 = .ok (.invokevirtual 214, 3) := by decide +kernel
theorem dX12_makeMoments_6 : decode cX12_makeMoments 6 = .ok (.putfield 240, 3) := by decide +kernel
theorem dX12_makeMoments_9 : decode cX12_makeMoments 9 = .ok (.aload_n 0, 1) := by decide +kernel
theorem dX12_makeMoments_10 : decode cX12_makeMoments 10 = .ok (.aload_n 0, 1) := by decide +kernel
theorem dX12_makeMoments_11 : decode cX12_makeMoments 11 = .ok (.iconst 0, 1) := by decide +kernel
theorem dX12_makeMoments_12 : decode cX12_makeMoments 12 = .ok (.invokevirtual 214, 3) := by decide +kernel
theorem dX12_makeMoments_15 : decode cX12_makeMoments 15 = .ok (.putfield 243, 3) := by decide +kernel
theorem dX12_makeMoments_18 : decode cX12_makeMoments 18 = .ok (.aload_n 0, 1) := by decide +kernel
theorem dX12_makeMoments_19 : decode cX12_makeMoments 19 = .ok (.iconst (-1), 1) := by decide +kernel
theorem dX12_makeMoments_20 : decode cX12_makeMoments 20 = .ok (.putfield 246, 3) := by decide +kernel
theorem dX12_makeMoments_23 : decode cX12_makeMoments 23 = .ok (.iconst 0, 1) := by decide +kernel
theorem dX12_makeMoments_24 : decode cX12_makeMoments 24 = .ok (.istore_n 1, 1) := by decide +kernel
theorem dX12_makeMoments_25 : decode cX12_makeMoments 25 = .ok (.iload_n 1, 1) := by decide +kernel
theorem dX12_makeMoments_26 : decode cX12_makeMoments 26 = .ok (.aload_n 0, 1) := by decide +kernel
theorem dX12_makeMoments_27 : decode cX12_makeMoments 27 = .ok (.getfield 159, 3) := by decide +kernel
theorem dX12_makeMoments_30 : decode cX12_makeMoments 30 = .ok (.if_icmp .ge 24, 3) := by decide +kernel
theorem dX12_makeMoments_33 : decode cX12_makeMoments 33 = .ok (.aload_n 0, 1) := by decide +kernel
theorem dX12_makeMoments_34 : decode cX12_makeMoments 34 = .ok (.getfield 7, 3) := by decide +kernel
theorem dX12_makeMoments_37 : decode cX12_makeMoments 37 = .ok (.iload_n 1, 1) := by decide +kernel
theorem dX12_makeMoments_38 : decode cX12_makeMoments 38 = .ok (.iaload, 1) := by decide +kernel
theorem dX12_makeMoments_39 : decode cX12_makeMoments 39 = .ok (.iconst 3, 1) := by decide +kernel
theorem dX12_makeMoments_40 : decode cX12_makeMoments 40 = .ok (.if_icmp .ne 8, 3) := by decide +kernel
theorem dX12_makeMoments_43 : decode cX12_makeMoments 43 = .ok (.aload_n 0, 1) := by decide +kernel
theorem dX12_makeMoments_44 : decode cX12_makeMoments 44 = .ok (.iload_n 1, 1) := by decide +kernel
theorem dX12_makeMoments_45 : decode cX12_makeMoments 45 = .ok (.putfield 246, 3) := by decide +kernel
theorem dX12_makeMoments_48 : decode cX12_makeMoments 48 = .ok (.iinc 1 1, 3) := by decide +kernel
theorem dX12_makeMoments_51 : decode cX12_makeMoments 51 = .ok (.goto (-26), 3) := by decide +kernel
theorem dX12_makeMoments_54 : decode cX12_makeMoments 54 = .ok (.iconst 0, 1) := by decide +kernel
theorem dX12_makeMoments_55 : decode cX12_makeMoments 55 = .ok (.istore_n 1, 1) := by decide +kernel
theorem dX12_makeMoments_56 : decode cX12_makeMoments 56 = .ok (.iload_n 1, 1) := by decide +kernel
theorem dX12_makeMoments_57 : decode cX12_makeMoments 57 = .ok (.sipush 1024, 3) := by decide +kernel
theorem dX12_makeMoments_60 : decode cX12_makeMoments 60 = .ok (.if_icmp .ge 431, 3) := by decide +kernel
theorem dX12_makeMoments_63 : decode cX12_makeMoments 63 = .ok (.iload_n 1, 1) := by decide +kernel
theorem dX12_makeMoments_64 : decode cX12_makeMoments 64 = .ok (.bipush 31, 2) := by decide +kernel
theorem dX12_makeMoments_66 : decode cX12_makeMoments 66 = .ok (.iand, 1) := by decide +kernel
theorem dX12_makeMoments_67 : decode cX12_makeMoments 67 = .ok (.istore_n 2, 1) := by decide +kernel
theorem dX12_makeMoments_68 : decode cX12_makeMoments 68 = .ok (.iload_n 1, 1) := by decide +kernel
theorem dX12_makeMoments_69 : decode cX12_makeMoments 69 = .ok (.iconst 5, 1) := by decide +kernel
theorem dX12_makeMoments_70 : decode cX12_makeMoments 70 = .ok (.ishr, 1) := by decide +kernel
theorem dX12_makeMoments_71 : decode cX12_makeMoments 71 = .ok (.bipush 7, 2) := by decide +kernel
theorem dX12_makeMoments_73 : decode cX12_makeMoments 73 = .ok (.iand, 1) := by decide +kernel
theorem dX12_makeMoments_74 : decode cX12_makeMoments 74 = .ok (.istore_n 3, 1) := by decide +kernel
theorem dX12_makeMoments_75 : decode cX12_makeMoments 75 = .ok (.iload_n 1, 1) := by decide +kernel
theorem dX12_makeMoments_76 : decode cX12_makeMoments 76 = .ok (.bipush 8, 2) := by decide +kernel
theorem dX12_makeMoments_78 : decode cX12_makeMoments 78 = .ok (.ishr, 1) := by decide +kernel
theorem dX12_makeMoments_79 : decode cX12_makeMoments 79 = .ok (.istore 4, 2) := by decide +kernel
theorem dX12_makeMoments_81 : decode cX12_makeMoments 81 = .ok (.aload_n 0, 1) := by decide +kernel
theorem dX12_makeMoments_82 : decode cX12_makeMoments 82 = .ok (.getfield 72, 3) := by decide +kernel
theorem dX12_makeMoments_85 : decode cX12_makeMoments 85 = .ok (.iload_n 1, 1) := by decide +kernel
theorem dX12_makeMoments_86 : decode cX12_makeMoments 86 = .ok (.iconst (-1), 1) := by decide +kernel
theorem dX12_makeMoments_87 : decode cX12_makeMoments 87 = .ok (.iastore, 1) := by decide +kernel
theorem dX12_makeMoments_88 : decode cX12_makeMoments 88 = .ok (.iload_n 2, 1) := by decide +kernel
theorem dX12_makeMoments_89 : decode cX12_makeMoments 89 = .ok (.aload_n 0, 1) := by decide +kernel
theorem dX12_makeMoments_90 : decode cX12_makeMoments 90 = .ok (.getfield 240, 3) := by decide +kernel
theorem dX12_makeMoments_93 : decode cX12_makeMoments 93 = .ok (.ishr, 1) := by decide +kernel
theorem dX12_makeMoments_94 : decode cX12_makeMoments 94 = .ok (.ifCond .ne 391, 3) := by decide +kernel
theorem dX12_makeMoments_97 : decode cX12_makeMoments 97 = .ok (.iload 4, 2) := by decide +kernel
theorem dX12_makeMoments_99 : decode cX12_makeMoments 99 = .ok (.aload_n 0, 1) := by decide +kernel
theorem dX12_makeMoments_100 : decode cX12_makeMoments 100 = .ok (.getfield 243, 3) := by decide +kernel
theorem dX12_makeMoments_103 : decode cX12_makeMoments 103 = .ok (.ishr, 1) := by decide +kernel
theorem dX12_makeMoments_104 : decode cX12_makeMoments 104 = .ok (.ifCond .ne 381, 3) := by decide +kernel
theorem dX12_makeMoments_107 : decode cX12_makeMoments 107 = .ok (.aload_n 0, 1) := by decide +kernel
theorem dX12_makeMoments_108 : decode cX12_makeMoments 108 = .ok (.getfield 246, 3) := by decide +kernel
theorem dX12_makeMoments_111 : decode cX12_makeMoments 111 = .ok (.ifCond .ge 10, 3) := by decide +kernel
theorem dX12_makeMoments_114 : decode cX12_makeMoments 114 = .ok (.iload_n 3, 1) := by decide +kernel
theorem dX12_makeMoments_115 : decode cX12_makeMoments 115 = .ok (.ifCond .le 6, 3) := by decide +kernel
theorem dX12_makeMoments_118 : decode cX12_makeMoments 118 = .ok (.goto 367, 3) := by decide +kernel
theorem dX12_makeMoments_121 : decode cX12_makeMoments 121 = .ok (.iconst 0, 1) := by decide +kernel
theorem dX12_makeMoments_122 : decode cX12_makeMoments 122 = .ok (.istore 5, 2) := by decide +kernel
theorem dX12_makeMoments_124 : decode cX12_makeMoments 124 = .ok (.iconst 0, 1) := by decide +kernel
theorem dX12_makeMoments_125 : decode cX12_makeMoments 125 = .ok (.istore 6, 2) := by decide +kernel
theorem dX12_makeMoments_127 : decode cX12_makeMoments 127 = .ok (.iconst 0, 1) := by decide +kernel
theorem dX12_makeMoments_128 : decode cX12_makeMoments 128 = .ok (.istore 7, 2) := by decide +kernel
theorem dX12_makeMoments_130 : decode cX12_makeMoments 130 = .ok (.iconst 0, 1) := by decide +kernel
theorem dX12_makeMoments_131 : decode cX12_makeMoments 131 = .ok (.istore 8, 2) := by decide +kernel
theorem dX12_makeMoments_133 : decode cX12_makeMoments 133 = .ok (.iload 8, 2) := by decide +kernel
theorem dX12_makeMoments_135 : decode cX12_makeMoments 135 = .ok (.aload_n 0, 1) := by decide +kernel
theorem dX12_makeMoments_136 : decode cX12_makeMoments 136 = .ok (.getfield 159, 3) := by decide +kernel
theorem dX12_makeMoments_139 : decode cX12_makeMoments 139 = .ok (.if_icmp .ge 145, 3) := by decide +kernel
theorem dX12_makeMoments_142 : decode cX12_makeMoments 142 = .ok (.aload_n 0, 1) := by decide +kernel
theorem dX12_makeMoments_143 : decode cX12_makeMoments 143 = .ok (.getfield 7, 3) := by decide +kernel
theorem dX12_makeMoments_146 : decode cX12_makeMoments 146 = .ok (.iload 8, 2) := by decide +kernel
theorem dX12_makeMoments_148 : decode cX12_makeMoments 148 = .ok (.iaload, 1) := by decide +kernel
theorem dX12_makeMoments_149 : decode cX12_makeMoments 149 = .ok (.iconst 1, 1) := by decide +kernel
theorem dX12_makeMoments_150 : decode cX12_makeMoments 150 = .ok (.if_icmp .ne 22, 3) := by decide +kernel
theorem dX12_makeMoments_153 : decode cX12_makeMoments 153 = .ok (.aload_n 0, 1) := by decide +kernel
theorem dX12_makeMoments_154 : decode cX12_makeMoments 154 = .ok (.getfield 69, 3) := by decide +kernel
theorem dX12_makeMoments_157 : decode cX12_makeMoments 157 = .ok (.iload 8, 2) := by decide +kernel
theorem dX12_makeMoments_159 : decode cX12_makeMoments 159 = .ok (.iload_n 2, 1) := by decide +kernel
theorem dX12_makeMoments_160 : decode cX12_makeMoments 160 = .ok (.iload 6, 2) := by decide +kernel
theorem dX12_makeMoments_162 : decode cX12_makeMoments 162 = .ok (.ishr, 1) := by decide +kernel
theorem dX12_makeMoments_163 : decode cX12_makeMoments 163 = .ok (.iconst 1, 1) := by decide +kernel
theorem dX12_makeMoments_164 : decode cX12_makeMoments 164 = .ok (.iand, 1) := by decide +kernel
theorem dX12_makeMoments_165 : decode cX12_makeMoments 165 = .ok (.iastore, 1) := by decide +kernel
theorem dX12_makeMoments_166 : decode cX12_makeMoments 166 = .ok (.iinc 6 1, 3) := by decide +kernel
theorem dX12_makeMoments_169 : decode cX12_makeMoments 169 = .ok (.goto 90, 3) := by decide +kernel
theorem dX12_makeMoments_172 : decode cX12_makeMoments 172 = .ok (.aload_n 0, 1) := by decide +kernel
theorem dX12_makeMoments_173 : decode cX12_makeMoments 173 = .ok (.getfield 7, 3) := by decide +kernel
theorem dX12_makeMoments_176 : decode cX12_makeMoments 176 = .ok (.iload 8, 2) := by decide +kernel
theorem dX12_makeMoments_178 : decode cX12_makeMoments 178 = .ok (.iaload, 1) := by decide +kernel
theorem dX12_makeMoments_179 : decode cX12_makeMoments 179 = .ok (.ifCond .ne 23, 3) := by decide +kernel
theorem dX12_makeMoments_182 : decode cX12_makeMoments 182 = .ok (.aload_n 0, 1) := by decide +kernel
theorem dX12_makeMoments_183 : decode cX12_makeMoments 183 = .ok (.getfield 69, 3) := by decide +kernel
theorem dX12_makeMoments_186 : decode cX12_makeMoments 186 = .ok (.iload 8, 2) := by decide +kernel
theorem dX12_makeMoments_188 : decode cX12_makeMoments 188 = .ok (.iload 4, 2) := by decide +kernel
theorem dX12_makeMoments_190 : decode cX12_makeMoments 190 = .ok (.iload 7, 2) := by decide +kernel
theorem dX12_makeMoments_192 : decode cX12_makeMoments 192 = .ok (.ishr, 1) := by decide +kernel
theorem dX12_makeMoments_193 : decode cX12_makeMoments 193 = .ok (.iconst 1, 1) := by decide +kernel
theorem dX12_makeMoments_194 : decode cX12_makeMoments 194 = .ok (.iand, 1) := by decide +kernel
theorem dX12_makeMoments_195 : decode cX12_makeMoments 195 = .ok (.iastore, 1) := by decide +kernel
theorem dX12_makeMoments_196 : decode cX12_makeMoments 196 = .ok (.iinc 7 1, 3) := by decide +kernel
theorem dX12_makeMoments_199 : decode cX12_makeMoments 199 = .ok (.goto 60, 3) := by decide +kernel
theorem dX12_makeMoments_202 : decode cX12_makeMoments 202 = .ok (.aload_n 0, 1) := by decide +kernel
theorem dX12_makeMoments_203 : decode cX12_makeMoments 203 = .ok (.getfield 7, 3) := by decide +kernel
theorem dX12_makeMoments_206 : decode cX12_makeMoments 206 = .ok (.iload 8, 2) := by decide +kernel
theorem dX12_makeMoments_208 : decode cX12_makeMoments 208 = .ok (.iaload, 1) := by decide +kernel
theorem dX12_makeMoments_209 : decode cX12_makeMoments 209 = .ok (.iconst 3, 1) := by decide +kernel
theorem dX12_makeMoments_210 : decode cX12_makeMoments 210 = .ok (.if_icmp .ne 14, 3) := by decide +kernel
theorem dX12_makeMoments_213 : decode cX12_makeMoments 213 = .ok (.aload_n 0, 1) := by decide +kernel
theorem dX12_makeMoments_214 : decode cX12_makeMoments 214 = .ok (.getfield 69, 3) := by decide +kernel
theorem dX12_makeMoments_217 : decode cX12_makeMoments 217 = .ok (.iload 8, 2) := by decide +kernel
theorem dX12_makeMoments_219 : decode cX12_makeMoments 219 = .ok (.iload_n 3, 1) := by decide +kernel
theorem dX12_makeMoments_220 : decode cX12_makeMoments 220 = .ok (.iastore, 1) := by decide +kernel
theorem dX12_makeMoments_221 : decode cX12_makeMoments 221 = .ok (.goto 38, 3) := by decide +kernel
theorem dX12_makeMoments_224 : decode cX12_makeMoments 224 = .ok (.aload_n 0, 1) := by decide +kernel
theorem dX12_makeMoments_225 : decode cX12_makeMoments 225 = .ok (.getfield 69, 3) := by decide +kernel
theorem dX12_makeMoments_228 : decode cX12_makeMoments 228 = .ok (.iload 8, 2) := by decide +kernel
theorem dX12_makeMoments_230 : decode cX12_makeMoments 230 = .ok (.aload_n 0, 1) := by decide +kernel
theorem dX12_makeMoments_231 : decode cX12_makeMoments 231 = .ok (.aload_n 0, 1) := by decide +kernel
theorem dX12_makeMoments_232 : decode cX12_makeMoments 232 = .ok (.getfield 16, 3) := by decide +kernel
theorem dX12_makeMoments_235 : decode cX12_makeMoments 235 = .ok (.bipush 60, 2) := by decide +kernel
theorem dX12_makeMoments_237 : decode cX12_makeMoments 237 = .ok (.iload 8, 2) := by decide +kernel
theorem dX12_makeMoments_239 : decode cX12_makeMoments 239 = .ok (.imul, 1) := by decide +kernel
theorem dX12_makeMoments_240 : decode cX12_makeMoments 240 = .ok (.aload_n 0, 1) := by decide +kernel
theorem dX12_makeMoments_241 : decode cX12_makeMoments 241 = .ok (.getfield 13, 3) := by decide +kernel
theorem dX12_makeMoments_244 : decode cX12_makeMoments 244 = .ok (.iload 8, 2) := by decide +kernel
theorem dX12_makeMoments_246 : decode cX12_makeMoments 246 = .ok (.iaload, 1) := by decide +kernel
theorem dX12_makeMoments_247 : decode cX12_makeMoments 247 = .ok (.invokevirtual 249, 3) := by decide +kernel
theorem dX12_makeMoments_250 : decode cX12_makeMoments 250 = .ok (.ifCond .eq 7, 3) := by decide +kernel
theorem dX12_makeMoments_253 : decode cX12_makeMoments 253 = .ok (.iconst 1, 1) := by decide +kernel
theorem dX12_makeMoments_254 : decode cX12_makeMoments 254 = .ok (.goto 4, 3) := by decide +kernel
theorem dX12_makeMoments_257 : decode cX12_makeMoments 257 = .ok (.iconst 0, 1) := by decide +kernel
theorem dX12_makeMoments_258 : decode cX12_makeMoments 258 = .ok (.iastore, 1) := by decide +kernel
theorem dX12_makeMoments_259 : decode cX12_makeMoments 259 = .ok (.aload_n 0, 1) := by decide +kernel
theorem dX12_makeMoments_260 : decode cX12_makeMoments 260 = .ok (.getfield 69, 3) := by decide +kernel
theorem dX12_makeMoments_263 : decode cX12_makeMoments 263 = .ok (.iload 8, 2) := by decide +kernel
theorem dX12_makeMoments_265 : decode cX12_makeMoments 265 = .ok (.iaload, 1) := by decide +kernel
theorem dX12_makeMoments_266 : decode cX12_makeMoments 266 = .ok (.ifCond .le 12, 3) := by decide +kernel
theorem dX12_makeMoments_269 : decode cX12_makeMoments 269 = .ok (.iload 5, 2) := by decide +kernel
theorem dX12_makeMoments_271 : decode cX12_makeMoments 271 = .ok (.iconst 1, 1) := by decide +kernel
theorem dX12_makeMoments_272 : decode cX12_makeMoments 272 = .ok (.iload 8, 2) := by decide +kernel
theorem dX12_makeMoments_274 : decode cX12_makeMoments 274 = .ok (.ishl, 1) := by decide +kernel
theorem dX12_makeMoments_275 : decode cX12_makeMoments 275 = .ok (.ior, 1) := by decide +kernel
theorem dX12_makeMoments_276 : decode cX12_makeMoments 276 = .ok (.istore 5, 2) := by decide +kernel
theorem dX12_makeMoments_278 : decode cX12_makeMoments 278 = .ok (.iinc 8 1, 3) := by decide +kernel
theorem dX12_makeMoments_281 : decode cX12_makeMoments 281 = .ok (.goto (-148), 3) := by decide +kernel
theorem dX12_makeMoments_284 : decode cX12_makeMoments 284 = .ok (.aload_n 0, 1) := by decide +kernel
theorem dX12_makeMoments_285 : decode cX12_makeMoments 285 = .ok (.getfield 72, 3) := by decide +kernel
theorem dX12_makeMoments_288 : decode cX12_makeMoments 288 = .ok (.iload_n 1, 1) := by decide +kernel
theorem dX12_makeMoments_289 : decode cX12_makeMoments 289 = .ok (.iload 5, 2) := by decide +kernel
theorem dX12_makeMoments_291 : decode cX12_makeMoments 291 = .ok (.iastore, 1) := by decide +kernel
theorem dX12_makeMoments_292 : decode cX12_makeMoments 292 = .ok (.iload_n 3, 1) := by decide +kernel
theorem dX12_makeMoments_293 : decode cX12_makeMoments 293 = .ok (.istore 8, 2) := by decide +kernel
theorem dX12_makeMoments_295 : decode cX12_makeMoments 295 = .ok (.aload_n 0, 1) := by decide +kernel
theorem dX12_makeMoments_296 : decode cX12_makeMoments 296 = .ok (.getfield 246, 3) := by decide +kernel
theorem dX12_makeMoments_299 : decode cX12_makeMoments 299 = .ok (.ifCond .lt 39, 3) := by decide +kernel
theorem dX12_makeMoments_302 : decode cX12_makeMoments 302 = .ok (.iload_n 3, 1) := by decide +kernel
theorem dX12_makeMoments_303 : decode cX12_makeMoments 303 = .ok (.bipush 7, 2) := by decide +kernel
theorem dX12_makeMoments_305 : decode cX12_makeMoments 305 = .ok (.if_icmp .ge 33, 3) := by decide +kernel
theorem dX12_makeMoments_308 : decode cX12_makeMoments 308 = .ok (.aload_n 0, 1) := by decide +kernel
theorem dX12_makeMoments_309 : decode cX12_makeMoments 309 = .ok (.aload_n 0, 1) := by decide +kernel
theorem dX12_makeMoments_310 : decode cX12_makeMoments 310 = .ok (.getfield 16, 3) := by decide +kernel
theorem dX12_makeMoments_313 : decode cX12_makeMoments 313 = .ok (.bipush 60, 2) := by decide +kernel
theorem dX12_makeMoments_315 : decode cX12_makeMoments 315 = .ok (.aload_n 0, 1) := by decide +kernel
theorem dX12_makeMoments_316 : decode cX12_makeMoments 316 = .ok (.getfield 246, 3) := by decide +kernel
theorem dX12_makeMoments_319 : decode cX12_makeMoments 319 = .ok (.imul, 1) := by decide +kernel
theorem dX12_makeMoments_320 : decode cX12_makeMoments 320 = .ok (.aload_n 0, 1) := by decide +kernel
theorem dX12_makeMoments_321 : decode cX12_makeMoments 321 = .ok (.getfield 13, 3) := by decide +kernel
theorem dX12_makeMoments_324 : decode cX12_makeMoments 324 = .ok (.aload_n 0, 1) := by decide +kernel
theorem dX12_makeMoments_325 : decode cX12_makeMoments 325 = .ok (.getfield 246, 3) := by decide +kernel
theorem dX12_makeMoments_328 : decode cX12_makeMoments 328 = .ok (.iaload, 1) := by decide +kernel
theorem dX12_makeMoments_329 : decode cX12_makeMoments 329 = .ok (.invokevirtual 249, 3) := by decide +kernel
theorem dX12_makeMoments_332 : decode cX12_makeMoments 332 = .ok (.ifCond .eq 6, 3) := by decide +kernel
theorem dX12_makeMoments_335 : decode cX12_makeMoments 335 = .ok (.iinc 8 1, 3) := by decide +kernel
theorem dX12_makeMoments_338 : decode cX12_makeMoments 338 = .ok (.aload_n 0, 1) := by decide +kernel
theorem dX12_makeMoments_339 : decode cX12_makeMoments 339 = .ok (.getfield 75, 3) := by decide +kernel
theorem dX12_makeMoments_342 : decode cX12_makeMoments 342 = .ok (.iload_n 1, 1) := by decide +kernel
theorem dX12_makeMoments_343 : decode cX12_makeMoments 343 = .ok (.iconst 0, 1) := by decide +kernel
theorem dX12_makeMoments_344 : decode cX12_makeMoments 344 = .ok (.iastore, 1) := by decide +kernel
theorem dX12_makeMoments_345 : decode cX12_makeMoments 345 = .ok (.aload_n 0, 1) := by decide +kernel
theorem dX12_makeMoments_346 : decode cX12_makeMoments 346 = .ok (.getfield 78, 3) := by decide +kernel
theorem dX12_makeMoments_349 : decode cX12_makeMoments 349 = .ok (.bipush 7, 2) := by decide +kernel
theorem dX12_makeMoments_351 : decode cX12_makeMoments 351 = .ok (.iload_n 1, 1) := by decide +kernel
theorem dX12_makeMoments_352 : decode cX12_makeMoments 352 = .ok (.imul, 1) := by decide +kernel
theorem dX12_makeMoments_353 : decode cX12_makeMoments 353 = .ok (.bipush 6, 2) := by decide +kernel
theorem dX12_makeMoments_355 : decode cX12_makeMoments 355 = .ok (.iadd, 1) := by decide +kernel
theorem dX12_makeMoments_356 : decode cX12_makeMoments 356 = .ok (.iload_n 2, 1) := by decide +kernel
theorem dX12_makeMoments_357 : decode cX12_makeMoments 357 = .ok (.iload 8, 2) := by decide +kernel
theorem dX12_makeMoments_359 : decode cX12_makeMoments 359 = .ok (.iconst 5, 1) := by decide +kernel
theorem dX12_makeMoments_360 : decode cX12_makeMoments 360 = .ok (.ishl, 1) := by decide +kernel
theorem dX12_makeMoments_361 : decode cX12_makeMoments 361 = .ok (.ior, 1) := by decide +kernel
theorem dX12_makeMoments_362 : decode cX12_makeMoments 362 = .ok (.iastore, 1) := by decide +kernel
theorem dX12_makeMoments_363 : decode cX12_makeMoments 363 = .ok (.iconst 0, 1) := by decide +kernel
theorem dX12_makeMoments_364 : decode cX12_makeMoments 364 = .ok (.istore 9, 2) := by decide +kernel
theorem dX12_makeMoments_366 : decode cX12_makeMoments 366 = .ok (.iload 9, 2) := by decide +kernel
theorem dX12_makeMoments_368 : decode cX12_makeMoments 368 = .ok (.aload_n 0, 1) := by decide +kernel
theorem dX12_makeMoments_369 : decode cX12_makeMoments 369 = .ok (.getfield 162, 3) := by decide +kernel
theorem dX12_makeMoments_372 : decode cX12_makeMoments 372 = .ok (.if_icmp .ge 113, 3) := by decide +kernel
theorem dX12_makeMoments_375 : decode cX12_makeMoments 375 = .ok (.aload_n 0, 1) := by decide +kernel
theorem dX12_makeMoments_376 : decode cX12_makeMoments 376 = .ok (.getfield 22, 3) := by decide +kernel
theorem dX12_makeMoments_379 : decode cX12_makeMoments 379 = .ok (.bipush 60, 2) := by decide +kernel
theorem dX12_makeMoments_381 : decode cX12_makeMoments 381 = .ok (.iload 9, 2) := by decide +kernel
theorem dX12_makeMoments_383 : decode cX12_makeMoments 383 = .ok (.imul, 1) := by decide +kernel
theorem dX12_makeMoments_384 : decode cX12_makeMoments 384 = .ok (.iaload, 1) := by decide +kernel
theorem dX12_makeMoments_385 : decode cX12_makeMoments 385 = .ok (.bipush 58, 2) := by decide +kernel
theorem dX12_makeMoments_387 : decode cX12_makeMoments 387 = .ok (.if_icmp .eq 26, 3) := by decide +kernel
theorem dX12_makeMoments_390 : decode cX12_makeMoments 390 = .ok (.aload_n 0, 1) := by decide +kernel
theorem dX12_makeMoments_391 : decode cX12_makeMoments 391 = .ok (.aload_n 0, 1) := by decide +kernel
theorem dX12_makeMoments_392 : decode cX12_makeMoments 392 = .ok (.getfield 22, 3) := by decide +kernel
theorem dX12_makeMoments_395 : decode cX12_makeMoments 395 = .ok (.bipush 60, 2) := by decide +kernel
theorem dX12_makeMoments_397 : decode cX12_makeMoments 397 = .ok (.iload 9, 2) := by decide +kernel
theorem dX12_makeMoments_399 : decode cX12_makeMoments 399 = .ok (.imul, 1) := by decide +kernel
theorem dX12_makeMoments_400 : decode cX12_makeMoments 400 = .ok (.aload_n 0, 1) := by decide +kernel
theorem dX12_makeMoments_401 : decode cX12_makeMoments 401 = .ok (.getfield 19, 3) := by decide +kernel
theorem dX12_makeMoments_404 : decode cX12_makeMoments 404 = .ok (.iload 9, 2) := by decide +kernel
theorem dX12_makeMoments_406 : decode cX12_makeMoments 406 = .ok (.iaload, 1) := by decide +kernel
theorem dX12_makeMoments_407 : decode cX12_makeMoments 407 = .ok (.invokevirtual 249, 3) := by decide +kernel
theorem dX12_makeMoments_410 : decode cX12_makeMoments 410 = .ok (.ifCond .eq 7, 3) := by decide +kernel
theorem dX12_makeMoments_413 : decode cX12_makeMoments 413 = .ok (.iconst 1, 1) := by decide +kernel
theorem dX12_makeMoments_414 : decode cX12_makeMoments 414 = .ok (.goto 4, 3) := by decide +kernel
theorem dX12_makeMoments_417 : decode cX12_makeMoments 417 = .ok (.iconst 0, 1) := by decide +kernel
theorem dX12_makeMoments_418 : decode cX12_makeMoments 418 = .ok (.istore 10, 2) := by decide +kernel
theorem dX12_makeMoments_420 : decode cX12_makeMoments 420 = .ok (.iload 10, 2) := by decide +kernel
theorem dX12_makeMoments_422 : decode cX12_makeMoments 422 = .ok (.ifCond .eq 16, 3) := by decide +kernel
theorem dX12_makeMoments_425 : decode cX12_makeMoments 425 = .ok (.aload_n 0, 1) := by decide +kernel
theorem dX12_makeMoments_426 : decode cX12_makeMoments 426 = .ok (.getfield 75, 3) := by decide +kernel
theorem dX12_makeMoments_429 : decode cX12_makeMoments 429 = .ok (.iload_n 1, 1) := by decide +kernel
theorem dX12_makeMoments_430 : decode cX12_makeMoments 430 = .ok (.dup2, 1) := by decide +kernel
theorem dX12_makeMoments_431 : decode cX12_makeMoments 431 = .ok (.iaload, 1) := by decide +kernel
theorem dX12_makeMoments_432 : decode cX12_makeMoments 432 = .ok (.iconst 1, 1) := by decide +kernel
theorem dX12_makeMoments_433 : decode cX12_makeMoments 433 = .ok (.iload 9, 2) := by decide +kernel
theorem dX12_makeMoments_435 : decode cX12_makeMoments 435 = .ok (.ishl, 1) := by decide +kernel
theorem dX12_makeMoments_436 : decode cX12_makeMoments 436 = .ok (.ior, 1) := by decide +kernel
theorem dX12_makeMoments_437 : decode cX12_makeMoments 437 = .ok (.iastore, 1) := by decide +kernel
theorem dX12_makeMoments_438 : decode cX12_makeMoments 438 = .ok (.aload_n 0, 1) := by decide +kernel
theorem dX12_makeMoments_439 : decode cX12_makeMoments 439 = .ok (.getfield 78, 3) := by decide +kernel
theorem dX12_makeMoments_442 : decode cX12_makeMoments 442 = .ok (.bipush 7, 2) := by decide +kernel
theorem dX12_makeMoments_444 : decode cX12_makeMoments 444 = .ok (.iload_n 1, 1) := by decide +kernel
theorem dX12_makeMoments_445 : decode cX12_makeMoments 445 = .ok (.imul, 1) := by decide +kernel
theorem dX12_makeMoments_446 : decode cX12_makeMoments 446 = .ok (.iload 9, 2) := by decide +kernel
theorem dX12_makeMoments_448 : decode cX12_makeMoments 448 = .ok (.iadd, 1) := by decide +kernel
theorem dX12_makeMoments_449 : decode cX12_makeMoments 449 = .ok (.iload 10, 2) := by decide +kernel
theorem dX12_makeMoments_451 : decode cX12_makeMoments 451 = .ok (.ifCond .eq 15, 3) := by decide +kernel
theorem dX12_makeMoments_454 : decode cX12_makeMoments 454 = .ok (.aload_n 0, 1) := by decide +kernel
theorem dX12_makeMoments_455 : decode cX12_makeMoments 455 = .ok (.iload 9, 2) := by decide +kernel
theorem dX12_makeMoments_457 : decode cX12_makeMoments 457 = .ok (.iload_n 2, 1) := by decide +kernel
theorem dX12_makeMoments_458 : decode cX12_makeMoments 458 = .ok (.iload 8, 2) := by decide +kernel
theorem dX12_makeMoments_460 : decode cX12_makeMoments 460 = .ok (.invokevirtual 253, 3) := by decide +kernel
theorem dX12_makeMoments_463 : decode cX12_makeMoments 463 = .ok (.goto 15, 3) := by decide +kernel
theorem dX12_makeMoments_466 : decode cX12_makeMoments 466 = .ok (.aload_n 0, 1) := by decide +kernel
theorem dX12_makeMoments_467 : decode cX12_makeMoments 467 = .ok (.getfield 78, 3) := by decide +kernel
theorem dX12_makeMoments_470 : decode cX12_makeMoments 470 = .ok (.bipush 7, 2) := by decide +kernel
theorem dX12_makeMoments_472 : decode cX12_makeMoments 472 = .ok (.iload_n 1, 1) := by decide +kernel
theorem dX12_makeMoments_473 : decode cX12_makeMoments 473 = .ok (.imul, 1) := by decide +kernel
theorem dX12_makeMoments_474 : decode cX12_makeMoments 474 = .ok (.bipush 6, 2) := by decide +kernel
theorem dX12_makeMoments_476 : decode cX12_makeMoments 476 = .ok (.iadd, 1) := by decide +kernel
theorem dX12_makeMoments_477 : decode cX12_makeMoments 477 = .ok (.iaload, 1) := by decide +kernel
theorem dX12_makeMoments_478 : decode cX12_makeMoments 478 = .ok (.iastore, 1) := by decide +kernel
theorem dX12_makeMoments_479 : decode cX12_makeMoments 479 = .ok (.iinc 9 1, 3) := by decide +kernel
theorem dX12_makeMoments_482 : decode cX12_makeMoments 482 = .ok (.goto (-116), 3) := by decide +kernel
theorem dX12_makeMoments_485 : decode cX12_makeMoments 485 = .ok (.iinc 1 1, 3) := by decide +kernel
theorem dX12_makeMoments_488 : decode cX12_makeMoments 488 = .ok (.goto (-432), 3) := by decide +kernel
theorem dX12_makeMoments_491 : decode cX12_makeMoments 491 = .ok (.return_, 1) := by decide +kernel
theorem dX12_tell_0 : decode cX12_tell 0 = .ok (.aload_n 0, 1) := by decide +kernel
theorem dX12_tell_1 : decode cX12_tell 1 = .ok (.getfield 81, 3) := by decide +kernel
theorem dX12_tell_4 : decode cX12_tell 4 = .ok (.iload_n 1, 1) := by decide +kernel
theorem dX12_tell_5 : decode cX12_tell 5 = .ok (.aload_n 0, 1) := by decide +kernel
theorem dX12_tell_6 : decode cX12_tell 6 = .ok (.getfield 81, 3) := by decide +kernel
theorem dX12_tell_9 : decode cX12_tell 9 = .ok (.iload_n 1, 1) := by decide +kernel
theorem dX12_tell_10 : decode cX12_tell 10 = .ok (.iaload, 1) := by decide +kernel
theorem dX12_tell_11 : decode cX12_tell 11 = .ok (.iconst (-1), 1) := by decide +kernel
theorem dX12_tell_12 : decode cX12_tell 12 = .ok (.if_icmp .eq 13, 3) := by decide +kernel
theorem dX12_tell_15 : decode cX12_tell 15 = .ok (.aload_n 0, 1) := by decide +kernel
theorem dX12_tell_16 : decode cX12_tell 16 = .ok (.getfield 81, 3) := by decide +kernel
theorem dX12_tell_19 : decode cX12_tell 19 = .ok (.iload_n 1, 1) := by decide +kernel
theorem dX12_tell_20 : decode cX12_tell 20 = .ok (.iaload, 1) := by decide +kernel
theorem dX12_tell_21 : decode cX12_tell 21 = .ok (.iload_n 2, 1) := by decide +kernel
theorem dX12_tell_22 : decode cX12_tell 22 = .ok (.if_icmp .ne 7, 3) := by decide +kernel
theorem dX12_tell_25 : decode cX12_tell 25 = .ok (.iload_n 2, 1) := by decide +kernel
theorem dX12_tell_26 : decode cX12_tell 26 = .ok (.goto 5, 3) := by decide +kernel
theorem dX12_tell_29 : decode cX12_tell 29 = .ok (.bipush (-2), 2) := by decide +kernel
theorem dX12_tell_31 : decode cX12_tell 31 = .ok (.iastore, 1) := by decide +kernel
theorem dX12_tell_32 : decode cX12_tell 32 = .ok (.return_, 1) := by decide +kernel
theorem dX12_gather_0 : decode cX12_gather 0 = .ok (.aload_n 0, 1) := by decide +kernel
theorem dX12_gather_1 : decode cX12_gather 1 = .ok (.iconst 0, 1) := by decide +kernel
theorem dX12_gather_2 : decode cX12_gather 2 = .ok (.putfield 257, 3) := by decide +kernel
theorem dX12_gather_5 : decode cX12_gather 5 = .ok (.iconst 0, 1) := by decide +kernel
theorem dX12_gather_6 : decode cX12_gather 6 = .ok (.istore 4, 2) := by decide +kernel
theorem dX12_gather_8 : decode cX12_gather 8 = .ok (.iload 4, 2) := by decide +kernel
theorem dX12_gather_10 : decode cX12_gather 10 = .ok (.bipush 12, 2) := by decide +kernel
theorem dX12_gather_12 : decode cX12_gather 12 = .ok (.if_icmp .ge 49, 3) := by decide +kernel
theorem dX12_gather_15 : decode cX12_gather 15 = .ok (.aload_n 0, 1) := by decide +kernel
theorem dX12_gather_16 : decode cX12_gather 16 = .ok (.getfield 81, 3) := by decide +kernel
theorem dX12_gather_19 : decode cX12_gather 19 = .ok (.iload 4, 2) := by decide +kernel
theorem dX12_gather_21 : decode cX12_gather 21 = .ok (.iconst (-1), 1) := by decide +kernel
theorem dX12_gather_22 : decode cX12_gather 22 = .ok (.iastore, 1) := by decide +kernel
theorem dX12_gather_23 : decode cX12_gather 23 = .ok (.aload_n 0, 1) := by decide +kernel
theorem dX12_gather_24 : decode cX12_gather 24 = .ok (.getfield 84, 3) := by decide +kernel
theorem dX12_gather_27 : decode cX12_gather 27 = .ok (.iload 4, 2) := by decide +kernel
theorem dX12_gather_29 : decode cX12_gather 29 = .ok (.iconst 0, 1) := by decide +kernel
theorem dX12_gather_30 : decode cX12_gather 30 = .ok (.iastore, 1) := by decide +kernel
theorem dX12_gather_31 : decode cX12_gather 31 = .ok (.aload_n 0, 1) := by decide +kernel
theorem dX12_gather_32 : decode cX12_gather 32 = .ok (.getfield 87, 3) := by decide +kernel
theorem dX12_gather_35 : decode cX12_gather 35 = .ok (.iload 4, 2) := by decide +kernel
theorem dX12_gather_37 : decode cX12_gather 37 = .ok (.iconst 0, 1) := by decide +kernel
theorem dX12_gather_38 : decode cX12_gather 38 = .ok (.iastore, 1) := by decide +kernel
theorem dX12_gather_39 : decode cX12_gather 39 = .ok (.aload_n 0, 1) := by decide +kernel
theorem dX12_gather_40 : decode cX12_gather 40 = .ok (.getfield 90, 3) := by decide +kernel
theorem dX12_gather_43 : decode cX12_gather 43 = .ok (.iload 4, 2) := by decide +kernel
theorem dX12_gather_45 : decode cX12_gather 45 = .ok (.iconst 0, 1) := by decide +kernel
theorem dX12_gather_46 : decode cX12_gather 46 = .ok (.iastore, 1) := by decide +kernel
theorem dX12_gather_47 : decode cX12_gather 47 = .ok (.aload_n 0, 1) := by decide +kernel
theorem dX12_gather_48 : decode cX12_gather 48 = .ok (.getfield 93, 3) := by decide +kernel
theorem dX12_gather_51 : decode cX12_gather 51 = .ok (.iload 4, 2) := by decide +kernel
theorem dX12_gather_53 : decode cX12_gather 53 = .ok (.iconst (-1), 1) := by decide +kernel
theorem dX12_gather_54 : decode cX12_gather 54 = .ok (.iastore, 1) := by decide +kernel
theorem dX12_gather_55 : decode cX12_gather 55 = .ok (.iinc 4 1, 3) := by decide +kernel
theorem dX12_gather_58 : decode cX12_gather 58 = .ok (.goto (-50), 3) := by decide +kernel
theorem dX12_gather_61 : decode cX12_gather 61 = .ok (.iconst 0, 1) := by decide +kernel
theorem dX12_gather_62 : decode cX12_gather 62 = .ok (.istore 4, 2) := by decide +kernel
theorem dX12_gather_64 : decode cX12_gather 64 = .ok (.iload 4, 2) := by decide +kernel
theorem dX12_gather_66 : decode cX12_gather 66 = .ok (.aload_n 0, 1) := by decide +kernel
theorem dX12_gather_67 : decode cX12_gather 67 = .ok (.getfield 165, 3) := by decide +kernel
theorem dX12_gather_70 : decode cX12_gather 70 = .ok (.if_icmp .ge 265, 3) := by decide +kernel
theorem dX12_gather_73 : decode cX12_gather 73 = .ok (.iload_n 1, 1) := by decide +kernel
theorem dX12_gather_74 : decode cX12_gather 74 = .ok (.iload 4, 2) := by decide +kernel
theorem dX12_gather_76 : decode cX12_gather 76 = .ok (.ishr, 1) := by decide +kernel
theorem dX12_gather_77 : decode cX12_gather 77 = .ok (.iconst 1, 1) := by decide +kernel
theorem dX12_gather_78 : decode cX12_gather 78 = .ok (.iand, 1) := by decide +kernel
theorem dX12_gather_79 : decode cX12_gather 79 = .ok (.ifCond .ne 6, 3) := by decide +kernel
theorem dX12_gather_82 : decode cX12_gather 82 = .ok (.goto 247, 3) := by decide +kernel
theorem dX12_gather_85 : decode cX12_gather 85 = .ok (.aload_n 0, 1) := by decide +kernel
theorem dX12_gather_86 : decode cX12_gather 86 = .ok (.getfield 31, 3) := by decide +kernel
theorem dX12_gather_89 : decode cX12_gather 89 = .ok (.iload 4, 2) := by decide +kernel
theorem dX12_gather_91 : decode cX12_gather 91 = .ok (.iaload, 1) := by decide +kernel
theorem dX12_gather_92 : decode cX12_gather 92 = .ok (.iconst 1, 1) := by decide +kernel
theorem dX12_gather_93 : decode cX12_gather 93 = .ok (.if_icmp .ne 24, 3) := by decide +kernel
theorem dX12_gather_96 : decode cX12_gather 96 = .ok (.aload_n 0, 1) := by decide +kernel
theorem dX12_gather_97 : decode cX12_gather 97 = .ok (.getfield 96, 3) := by decide +kernel
theorem dX12_gather_100 : decode cX12_gather 100 = .ok (.aload_n 0, 1) := by decide +kernel
theorem dX12_gather_101 : decode cX12_gather 101 = .ok (.getfield 257, 3) := by decide +kernel
theorem dX12_gather_104 : decode cX12_gather 104 = .ok (.iload 4, 2) := by decide +kernel
theorem dX12_gather_106 : decode cX12_gather 106 = .ok (.iastore, 1) := by decide +kernel
theorem dX12_gather_107 : decode cX12_gather 107 = .ok (.aload_n 0, 1) := by decide +kernel
theorem dX12_gather_108 : decode cX12_gather 108 = .ok (.dup, 1) := by decide +kernel
theorem dX12_gather_109 : decode cX12_gather 109 = .ok (.getfield 257, 3) := by decide +kernel
theorem dX12_gather_112 : decode cX12_gather 112 = .ok (.iconst 1, 1) := by decide +kernel
theorem dX12_gather_113 : decode cX12_gather 113 = .ok (.iadd, 1) := by decide +kernel
theorem dX12_gather_114 : decode cX12_gather 114 = .ok (.putfield 257, 3) := by decide +kernel
theorem dX12_gather_117 : decode cX12_gather 117 = .ok (.aload_n 0, 1) := by decide +kernel
theorem dX12_gather_118 : decode cX12_gather 118 = .ok (.getfield 37, 3) := by decide +kernel
theorem dX12_gather_121 : decode cX12_gather 121 = .ok (.iload 4, 2) := by decide +kernel
theorem dX12_gather_123 : decode cX12_gather 123 = .ok (.iaload, 1) := by decide +kernel
theorem dX12_gather_124 : decode cX12_gather 124 = .ok (.istore 5, 2) := by decide +kernel
theorem dX12_gather_126 : decode cX12_gather 126 = .ok (.iload 5, 2) := by decide +kernel
theorem dX12_gather_128 : decode cX12_gather 128 = .ok (.aload_n 0, 1) := by decide +kernel
theorem dX12_gather_129 : decode cX12_gather 129 = .ok (.getfield 40, 3) := by decide +kernel
theorem dX12_gather_132 : decode cX12_gather 132 = .ok (.iload 4, 2) := by decide +kernel
theorem dX12_gather_134 : decode cX12_gather 134 = .ok (.iaload, 1) := by decide +kernel
theorem dX12_gather_135 : decode cX12_gather 135 = .ok (.if_icmp .gt 194, 3) := by decide +kernel
theorem dX12_gather_138 : decode cX12_gather 138 = .ok (.aload_n 0, 1) := by decide +kernel
theorem dX12_gather_139 : decode cX12_gather 139 = .ok (.getfield 31, 3) := by decide +kernel
theorem dX12_gather_142 : decode cX12_gather 142 = .ok (.iload 4, 2) := by decide +kernel
theorem dX12_gather_144 : decode cX12_gather 144 = .ok (.iaload, 1) := by decide +kernel
theorem dX12_gather_145 : decode cX12_gather 145 = .ok (.ifCond .ne 16, 3) := by decide +kernel
theorem dX12_gather_148 : decode cX12_gather 148 = .ok (.aload_n 0, 1) := by decide +kernel
theorem dX12_gather_149 : decode cX12_gather 149 = .ok (.iload 5, 2) := by decide +kernel
theorem dX12_gather_151 : decode cX12_gather 151 = .ok (.aload_n 0, 1) := by decide +kernel
theorem dX12_gather_152 : decode cX12_gather 152 = .ok (.getfield 34, 3) := by decide +kernel
theorem dX12_gather_155 : decode cX12_gather 155 = .ok (.iload 4, 2) := by decide +kernel
theorem dX12_gather_157 : decode cX12_gather 157 = .ok (.iaload, 1) := by decide +kernel
theorem dX12_gather_158 : decode cX12_gather 158 = .ok (.invokevirtual 260, 3) := by decide +kernel
theorem dX12_gather_161 : decode cX12_gather 161 = .ok (.aload_n 0, 1) := by decide +kernel
theorem dX12_gather_162 : decode cX12_gather 162 = .ok (.getfield 31, 3) := by decide +kernel
theorem dX12_gather_165 : decode cX12_gather 165 = .ok (.iload 4, 2) := by decide +kernel
theorem dX12_gather_167 : decode cX12_gather 167 = .ok (.iaload, 1) := by decide +kernel
theorem dX12_gather_168 : decode cX12_gather 168 = .ok (.iconst 3, 1) := by decide +kernel
theorem dX12_gather_169 : decode cX12_gather 169 = .ok (.if_icmp .ne 22, 3) := by decide +kernel
theorem dX12_gather_172 : decode cX12_gather 172 = .ok (.aload_n 0, 1) := by decide +kernel
theorem dX12_gather_173 : decode cX12_gather 173 = .ok (.getfield 84, 3) := by decide +kernel
theorem dX12_gather_176 : decode cX12_gather 176 = .ok (.iload 5, 2) := by decide +kernel
theorem dX12_gather_178 : decode cX12_gather 178 = .ok (.dup2, 1) := by decide +kernel
theorem dX12_gather_179 : decode cX12_gather 179 = .ok (.iaload, 1) := by decide +kernel
theorem dX12_gather_180 : decode cX12_gather 180 = .ok (.iconst 1, 1) := by decide +kernel
theorem dX12_gather_181 : decode cX12_gather 181 = .ok (.aload_n 0, 1) := by decide +kernel
theorem dX12_gather_182 : decode cX12_gather 182 = .ok (.getfield 34, 3) := by decide +kernel
theorem dX12_gather_185 : decode cX12_gather 185 = .ok (.iload 4, 2) := by decide +kernel
theorem dX12_gather_187 : decode cX12_gather 187 = .ok (.iaload, 1) := by decide +kernel
theorem dX12_gather_188 : decode cX12_gather 188 = .ok (.ishl, 1) := by decide +kernel
theorem dX12_gather_189 : decode cX12_gather 189 = .ok (.ior, 1) := by decide +kernel
theorem dX12_gather_190 : decode cX12_gather 190 = .ok (.iastore, 1) := by decide +kernel
theorem dX12_gather_191 : decode cX12_gather 191 = .ok (.aload_n 0, 1) := by decide +kernel
theorem dX12_gather_192 : decode cX12_gather 192 = .ok (.getfield 31, 3) := by decide +kernel
theorem dX12_gather_195 : decode cX12_gather 195 = .ok (.iload 4, 2) := by decide +kernel
theorem dX12_gather_197 : decode cX12_gather 197 = .ok (.iaload, 1) := by decide +kernel
theorem dX12_gather_198 : decode cX12_gather 198 = .ok (.iconst 2, 1) := by decide +kernel
theorem dX12_gather_199 : decode cX12_gather 199 = .ok (.if_icmp .eq 6, 3) := by decide +kernel
theorem dX12_gather_202 : decode cX12_gather 202 = .ok (.goto 121, 3) := by decide +kernel
theorem dX12_gather_205 : decode cX12_gather 205 = .ok (.aload_n 0, 1) := by decide +kernel
theorem dX12_gather_206 : decode cX12_gather 206 = .ok (.getfield 7, 3) := by decide +kernel
theorem dX12_gather_209 : decode cX12_gather 209 = .ok (.aload_n 0, 1) := by decide +kernel
theorem dX12_gather_210 : decode cX12_gather 210 = .ok (.getfield 34, 3) := by decide +kernel
theorem dX12_gather_213 : decode cX12_gather 213 = .ok (.iload 4, 2) := by decide +kernel
theorem dX12_gather_215 : decode cX12_gather 215 = .ok (.iaload, 1) := by decide +kernel
theorem dX12_gather_216 : decode cX12_gather 216 = .ok (.iaload, 1) := by decide +kernel
theorem dX12_gather_217 : decode cX12_gather 217 = .ok (.iconst 3, 1) := by decide +kernel
theorem dX12_gather_218 : decode cX12_gather 218 = .ok (.if_icmp .ne 53, 3) := by decide +kernel
theorem dX12_gather_221 : decode cX12_gather 221 = .ok (.aload_n 0, 1) := by decide +kernel
theorem dX12_gather_222 : decode cX12_gather 222 = .ok (.getfield 93, 3) := by decide +kernel
theorem dX12_gather_225 : decode cX12_gather 225 = .ok (.iload 5, 2) := by decide +kernel
theorem dX12_gather_227 : decode cX12_gather 227 = .ok (.aload_n 0, 1) := by decide +kernel
theorem dX12_gather_228 : decode cX12_gather 228 = .ok (.getfield 93, 3) := by decide +kernel
theorem dX12_gather_231 : decode cX12_gather 231 = .ok (.iload 5, 2) := by decide +kernel
theorem dX12_gather_233 : decode cX12_gather 233 = .ok (.iaload, 1) := by decide +kernel
theorem dX12_gather_234 : decode cX12_gather 234 = .ok (.iconst (-1), 1) := by decide +kernel
theorem dX12_gather_235 : decode cX12_gather 235 = .ok (.if_icmp .eq 20, 3) := by decide +kernel
theorem dX12_gather_238 : decode cX12_gather 238 = .ok (.aload_n 0, 1) := by decide +kernel
theorem dX12_gather_239 : decode cX12_gather 239 = .ok (.getfield 93, 3) := by decide +kernel
theorem dX12_gather_242 : decode cX12_gather 242 = .ok (.iload 5, 2) := by decide +kernel
theorem dX12_gather_244 : decode cX12_gather 244 = .ok (.iaload, 1) := by decide +kernel
theorem dX12_gather_245 : decode cX12_gather 245 = .ok (.aload_n 0, 1) := by decide +kernel
theorem dX12_gather_246 : decode cX12_gather 246 = .ok (.getfield 43, 3) := by decide +kernel
theorem dX12_gather_249 : decode cX12_gather 249 = .ok (.iload 4, 2) := by decide +kernel
theorem dX12_gather_251 : decode cX12_gather 251 = .ok (.iaload, 1) := by decide +kernel
theorem dX12_gather_252 : decode cX12_gather 252 = .ok (.if_icmp .ne 13, 3) := by decide +kernel
theorem dX12_gather_255 : decode cX12_gather 255 = .ok (.aload_n 0, 1) := by decide +kernel
theorem dX12_gather_256 : decode cX12_gather 256 = .ok (.getfield 43, 3) := by decide +kernel
theorem dX12_gather_259 : decode cX12_gather 259 = .ok (.iload 4, 2) := by decide +kernel
theorem dX12_gather_261 : decode cX12_gather 261 = .ok (.iaload, 1) := by decide +kernel
theorem dX12_gather_262 : decode cX12_gather 262 = .ok (.goto 5, 3) := by decide +kernel
theorem dX12_gather_265 : decode cX12_gather 265 = .ok (.bipush (-2), 2) := by decide +kernel
theorem dX12_gather_267 : decode cX12_gather 267 = .ok (.iastore, 1) := by decide +kernel
theorem dX12_gather_268 : decode cX12_gather 268 = .ok (.goto 55, 3) := by decide +kernel
theorem dX12_gather_271 : decode cX12_gather 271 = .ok (.aload_n 0, 1) := by decide +kernel
theorem dX12_gather_272 : decode cX12_gather 272 = .ok (.getfield 43, 3) := by decide +kernel
theorem dX12_gather_275 : decode cX12_gather 275 = .ok (.iload 4, 2) := by decide +kernel
theorem dX12_gather_277 : decode cX12_gather 277 = .ok (.iaload, 1) := by decide +kernel
theorem dX12_gather_278 : decode cX12_gather 278 = .ok (.iconst 1, 1) := by decide +kernel
theorem dX12_gather_279 : decode cX12_gather 279 = .ok (.if_icmp .ne 25, 3) := by decide +kernel
theorem dX12_gather_282 : decode cX12_gather 282 = .ok (.aload_n 0, 1) := by decide +kernel
theorem dX12_gather_283 : decode cX12_gather 283 = .ok (.getfield 87, 3) := by decide +kernel
theorem dX12_gather_286 : decode cX12_gather 286 = .ok (.iload 5, 2) := by decide +kernel
theorem dX12_gather_288 : decode cX12_gather 288 = .ok (.dup2, 1) := by decide +kernel
theorem dX12_gather_289 : decode cX12_gather 289 = .ok (.iaload, 1) := by decide +kernel
theorem dX12_gather_290 : decode cX12_gather 290 = .ok (.iconst 1, 1) := by decide +kernel
theorem dX12_gather_291 : decode cX12_gather 291 = .ok (.aload_n 0, 1) := by decide +kernel
theorem dX12_gather_292 : decode cX12_gather 292 = .ok (.getfield 34, 3) := by decide +kernel
theorem dX12_gather_295 : decode cX12_gather 295 = .ok (.iload 4, 2) := by decide +kernel
theorem dX12_gather_297 : decode cX12_gather 297 = .ok (.iaload, 1) := by decide +kernel
theorem dX12_gather_298 : decode cX12_gather 298 = .ok (.ishl, 1) := by decide +kernel
theorem dX12_gather_299 : decode cX12_gather 299 = .ok (.ior, 1) := by decide +kernel
theorem dX12_gather_300 : decode cX12_gather 300 = .ok (.iastore, 1) := by decide +kernel
theorem dX12_gather_301 : decode cX12_gather 301 = .ok (.goto 22, 3) := by decide +kernel
theorem dX12_gather_304 : decode cX12_gather 304 = .ok (.aload_n 0, 1) := by decide +kernel
theorem dX12_gather_305 : decode cX12_gather 305 = .ok (.getfield 90, 3) := by decide +kernel
theorem dX12_gather_308 : decode cX12_gather 308 = .ok (.iload 5, 2) := by decide +kernel
theorem dX12_gather_310 : decode cX12_gather 310 = .ok (.dup2, 1) := by decide +kernel
theorem dX12_gather_311 : decode cX12_gather 311 = .ok (.iaload, 1) := by decide +kernel
theorem dX12_gather_312 : decode cX12_gather 312 = .ok (.iconst 1, 1) := by decide +kernel
theorem dX12_gather_313 : decode cX12_gather 313 = .ok (.aload_n 0, 1) := by decide +kernel
theorem dX12_gather_314 : decode cX12_gather 314 = .ok (.getfield 34, 3) := by decide +kernel
theorem dX12_gather_317 : decode cX12_gather 317 = .ok (.iload 4, 2) := by decide +kernel
theorem dX12_gather_319 : decode cX12_gather 319 = .ok (.iaload, 1) := by decide +kernel
theorem dX12_gather_320 : decode cX12_gather 320 = .ok (.ishl, 1) := by decide +kernel
theorem dX12_gather_321 : decode cX12_gather 321 = .ok (.ior, 1) := by decide +kernel
theorem dX12_gather_322 : decode cX12_gather 322 = .ok (.iastore, 1) := by decide +kernel
theorem dX12_gather_323 : decode cX12_gather 323 = .ok (.iinc 5 1, 3) := by decide +kernel
theorem dX12_gather_326 : decode cX12_gather 326 = .ok (.goto (-200), 3) := by decide +kernel
theorem dX12_gather_329 : decode cX12_gather 329 = .ok (.iinc 4 1, 3) := by decide +kernel
theorem dX12_gather_332 : decode cX12_gather 332 = .ok (.goto (-268), 3) := by decide +kernel
theorem dX12_gather_335 : decode cX12_gather 335 = .ok (.iload_n 2, 1) := by decide +kernel
theorem dX12_gather_336 : decode cX12_gather 336 = .ok (.ifCond .lt 9, 3) := by decide +kernel
theorem dX12_gather_339 : decode cX12_gather 339 = .ok (.aload_n 0, 1) := by decide +kernel
theorem dX12_gather_340 : decode cX12_gather 340 = .ok (.iload_n 2, 1) := by decide +kernel
theorem dX12_gather_341 : decode cX12_gather 341 = .ok (.iload_n 3, 1) := by decide +kernel
theorem dX12_gather_342 : decode cX12_gather 342 = .ok (.invokevirtual 260, 3) := by decide +kernel
theorem dX12_gather_345 : decode cX12_gather 345 = .ok (.return_, 1) := by decide +kernel
theorem dX12_edgesOf_0 : decode cX12_edgesOf 0 = .ok (.aload_n 0, 1) := by decide +kernel
theorem dX12_edgesOf_1 : decode cX12_edgesOf 1 = .ok (.iconst 0, 1) := by decide +kernel
theorem dX12_edgesOf_2 : decode cX12_edgesOf 2 = .ok (.putfield 264, 3) := by decide +kernel
theorem dX12_edgesOf_5 : decode cX12_edgesOf 5 = .ok (.aload_n 0, 1) := by decide +kernel
theorem dX12_edgesOf_6 : decode cX12_edgesOf 6 = .ok (.getfield 81, 3) := by decide +kernel
theorem dX12_edgesOf_9 : decode cX12_edgesOf 9 = .ok (.iload_n 1, 1) := by decide +kernel
theorem dX12_edgesOf_10 : decode cX12_edgesOf 10 = .ok (.iaload, 1) := by decide +kernel
theorem dX12_edgesOf_11 : decode cX12_edgesOf 11 = .ok (.bipush (-2), 2) := by decide +kernel
theorem dX12_edgesOf_13 : decode cX12_edgesOf 13 = .ok (.if_icmp .ne 4, 3) := by decide +kernel
theorem dX12_edgesOf_16 : decode cX12_edgesOf 16 = .ok (.return_, 1) := by decide +kernel
theorem dX12_edgesOf_17 : decode cX12_edgesOf 17 = .ok (.iconst 0, 1) := by decide +kernel
theorem dX12_edgesOf_18 : decode cX12_edgesOf 18 = .ok (.istore_n 3, 1) := by decide +kernel
theorem dX12_edgesOf_19 : decode cX12_edgesOf 19 = .ok (.iload_n 3, 1) := by decide +kernel
theorem dX12_edgesOf_20 : decode cX12_edgesOf 20 = .ok (.iconst 1, 1) := by decide +kernel
theorem dX12_edgesOf_21 : decode cX12_edgesOf 21 = .ok (.aload_n 0, 1) := by decide +kernel
theorem dX12_edgesOf_22 : decode cX12_edgesOf 22 = .ok (.getfield 243, 3) := by decide +kernel
theorem dX12_edgesOf_25 : decode cX12_edgesOf 25 = .ok (.ishl, 1) := by decide +kernel
theorem dX12_edgesOf_26 : decode cX12_edgesOf 26 = .ok (.if_icmp .ge 409, 3) := by decide +kernel
theorem dX12_edgesOf_29 : decode cX12_edgesOf 29 = .ok (.iload_n 2, 1) := by decide +kernel
theorem dX12_edgesOf_30 : decode cX12_edgesOf 30 = .ok (.sipush 255, 3) := by decide +kernel
theorem dX12_edgesOf_33 : decode cX12_edgesOf 33 = .ok (.iand, 1) := by decide +kernel
theorem dX12_edgesOf_34 : decode cX12_edgesOf 34 = .ok (.iload_n 3, 1) := by decide +kernel
theorem dX12_edgesOf_35 : decode cX12_edgesOf 35 = .ok (.bipush 8, 2) := by decide +kernel
theorem dX12_edgesOf_37 : decode cX12_edgesOf 37 = .ok (.ishl, 1) := by decide +kernel
theorem dX12_edgesOf_38 : decode cX12_edgesOf 38 = .ok (.ior, 1) := by decide +kernel
theorem dX12_edgesOf_39 : decode cX12_edgesOf 39 = .ok (.istore 4, 2) := by decide +kernel
theorem dX12_edgesOf_41 : decode cX12_edgesOf 41 = .ok (.aload_n 0, 1) := by decide +kernel
theorem dX12_edgesOf_42 : decode cX12_edgesOf 42 = .ok (.getfield 72, 3) := by decide +kernel
theorem dX12_edgesOf_45 : decode cX12_edgesOf 45 = .ok (.iload 4, 2) := by decide +kernel
theorem dX12_edgesOf_47 : decode cX12_edgesOf 47 = .ok (.iaload, 1) := by decide +kernel
theorem dX12_edgesOf_48 : decode cX12_edgesOf 48 = .ok (.ifCond .lt 381, 3) := by decide +kernel
theorem dX12_edgesOf_51 : decode cX12_edgesOf 51 = .ok (.aload_n 0, 1) := by decide +kernel
theorem dX12_edgesOf_52 : decode cX12_edgesOf 52 = .ok (.getfield 72, 3) := by decide +kernel
theorem dX12_edgesOf_55 : decode cX12_edgesOf 55 = .ok (.iload 4, 2) := by decide +kernel
theorem dX12_edgesOf_57 : decode cX12_edgesOf 57 = .ok (.iaload, 1) := by decide +kernel
theorem dX12_edgesOf_58 : decode cX12_edgesOf 58 = .ok (.aload_n 0, 1) := by decide +kernel
theorem dX12_edgesOf_59 : decode cX12_edgesOf 59 = .ok (.getfield 87, 3) := by decide +kernel
theorem dX12_edgesOf_62 : decode cX12_edgesOf 62 = .ok (.iload_n 1, 1) := by decide +kernel
theorem dX12_edgesOf_63 : decode cX12_edgesOf 63 = .ok (.iaload, 1) := by decide +kernel
theorem dX12_edgesOf_64 : decode cX12_edgesOf 64 = .ok (.iand, 1) := by decide +kernel
theorem dX12_edgesOf_65 : decode cX12_edgesOf 65 = .ok (.aload_n 0, 1) := by decide +kernel
theorem dX12_edgesOf_66 : decode cX12_edgesOf 66 = .ok (.getfield 87, 3) := by decide +kernel
theorem dX12_edgesOf_69 : decode cX12_edgesOf 69 = .ok (.iload_n 1, 1) := by decide +kernel
theorem dX12_edgesOf_70 : decode cX12_edgesOf 70 = .ok (.iaload, 1) := by decide +kernel
theorem dX12_edgesOf_71 : decode cX12_edgesOf 71 = .ok (.if_icmp .ne 358, 3) := by decide +kernel
theorem dX12_edgesOf_74 : decode cX12_edgesOf 74 = .ok (.aload_n 0, 1) := by decide +kernel
theorem dX12_edgesOf_75 : decode cX12_edgesOf 75 = .ok (.getfield 72, 3) := by decide +kernel
theorem dX12_edgesOf_78 : decode cX12_edgesOf 78 = .ok (.iload 4, 2) := by decide +kernel
theorem dX12_edgesOf_80 : decode cX12_edgesOf 80 = .ok (.iaload, 1) := by decide +kernel
theorem dX12_edgesOf_81 : decode cX12_edgesOf 81 = .ok (.aload_n 0, 1) := by decide +kernel
theorem dX12_edgesOf_82 : decode cX12_edgesOf 82 = .ok (.getfield 90, 3) := by decide +kernel
theorem dX12_edgesOf_85 : decode cX12_edgesOf 85 = .ok (.iload_n 1, 1) := by decide +kernel
theorem dX12_edgesOf_86 : decode cX12_edgesOf 86 = .ok (.iaload, 1) := by decide +kernel
theorem dX12_edgesOf_87 : decode cX12_edgesOf 87 = .ok (.iand, 1) := by decide +kernel
theorem dX12_edgesOf_88 : decode cX12_edgesOf 88 = .ok (.ifCond .eq 6, 3) := by decide +kernel
theorem dX12_edgesOf_91 : decode cX12_edgesOf 91 = .ok (.goto 338, 3) := by decide +kernel
theorem dX12_edgesOf_94 : decode cX12_edgesOf 94 = .ok (.aload_n 0, 1) := by decide +kernel
theorem dX12_edgesOf_95 : decode cX12_edgesOf 95 = .ok (.getfield 93, 3) := by decide +kernel
theorem dX12_edgesOf_98 : decode cX12_edgesOf 98 = .ok (.iload_n 1, 1) := by decide +kernel
theorem dX12_edgesOf_99 : decode cX12_edgesOf 99 = .ok (.iaload, 1) := by decide +kernel
theorem dX12_edgesOf_100 : decode cX12_edgesOf 100 = .ok (.iconst (-1), 1) := by decide +kernel
theorem dX12_edgesOf_101 : decode cX12_edgesOf 101 = .ok (.if_icmp .eq 21, 3) := by decide +kernel
theorem dX12_edgesOf_104 : decode cX12_edgesOf 104 = .ok (.aload_n 0, 1) := by decide +kernel
theorem dX12_edgesOf_105 : decode cX12_edgesOf 105 = .ok (.getfield 93, 3) := by decide +kernel
theorem dX12_edgesOf_108 : decode cX12_edgesOf 108 = .ok (.iload_n 1, 1) := by decide +kernel
theorem dX12_edgesOf_109 : decode cX12_edgesOf 109 = .ok (.iaload, 1) := by decide +kernel
theorem dX12_edgesOf_110 : decode cX12_edgesOf 110 = .ok (.iload_n 2, 1) := by decide +kernel
theorem dX12_edgesOf_111 : decode cX12_edgesOf 111 = .ok (.iconst 5, 1) := by decide +kernel
theorem dX12_edgesOf_112 : decode cX12_edgesOf 112 = .ok (.ishr, 1) := by decide +kernel
theorem dX12_edgesOf_113 : decode cX12_edgesOf 113 = .ok (.bipush 7, 2) := by decide +kernel
theorem dX12_edgesOf_115 : decode cX12_edgesOf 115 = .ok (.iand, 1) := by decide +kernel
theorem dX12_edgesOf_116 : decode cX12_edgesOf 116 = .ok (.if_icmp .eq 6, 3) := by decide +kernel
theorem dX12_edgesOf_119 : decode cX12_edgesOf 119 = .ok (.goto 310, 3) := by decide +kernel
theorem dX12_edgesOf_122 : decode cX12_edgesOf 122 = .ok (.iconst 0, 1) := by decide +kernel
theorem dX12_edgesOf_123 : decode cX12_edgesOf 123 = .ok (.istore 5, 2) := by decide +kernel
theorem dX12_edgesOf_125 : decode cX12_edgesOf 125 = .ok (.iload 5, 2) := by decide +kernel
theorem dX12_edgesOf_127 : decode cX12_edgesOf 127 = .ok (.bipush 7, 2) := by decide +kernel
theorem dX12_edgesOf_129 : decode cX12_edgesOf 129 = .ok (.if_icmp .ge 300, 3) := by decide +kernel
theorem dX12_edgesOf_132 : decode cX12_edgesOf 132 = .ok (.iload 5, 2) := by decide +kernel
theorem dX12_edgesOf_134 : decode cX12_edgesOf 134 = .ok (.bipush 6, 2) := by decide +kernel
theorem dX12_edgesOf_136 : decode cX12_edgesOf 136 = .ok (.if_icmp .ge 12, 3) := by decide +kernel
theorem dX12_edgesOf_139 : decode cX12_edgesOf 139 = .ok (.iload 5, 2) := by decide +kernel
theorem dX12_edgesOf_141 : decode cX12_edgesOf 141 = .ok (.aload_n 0, 1) := by decide +kernel
theorem dX12_edgesOf_142 : decode cX12_edgesOf 142 = .ok (.getfield 162, 3) := by decide +kernel
theorem dX12_edgesOf_145 : decode cX12_edgesOf 145 = .ok (.if_icmp .ge 278, 3) := by decide +kernel
theorem dX12_edgesOf_148 : decode cX12_edgesOf 148 = .ok (.iload 5, 2) := by decide +kernel
theorem dX12_edgesOf_150 : decode cX12_edgesOf 150 = .ok (.bipush 6, 2) := by decide +kernel
theorem dX12_edgesOf_152 : decode cX12_edgesOf 152 = .ok (.if_icmp .ne 15, 3) := by decide +kernel
theorem dX12_edgesOf_155 : decode cX12_edgesOf 155 = .ok (.aload_n 0, 1) := by decide +kernel
theorem dX12_edgesOf_156 : decode cX12_edgesOf 156 = .ok (.getfield 81, 3) := by decide +kernel
theorem dX12_edgesOf_159 : decode cX12_edgesOf 159 = .ok (.iload_n 1, 1) := by decide +kernel
theorem dX12_edgesOf_160 : decode cX12_edgesOf 160 = .ok (.iaload, 1) := by decide +kernel
theorem dX12_edgesOf_161 : decode cX12_edgesOf 161 = .ok (.ifCond .lt 6, 3) := by decide +kernel
theorem dX12_edgesOf_164 : decode cX12_edgesOf 164 = .ok (.goto 259, 3) := by decide +kernel
theorem dX12_edgesOf_167 : decode cX12_edgesOf 167 = .ok (.iload 5, 2) := by decide +kernel
theorem dX12_edgesOf_169 : decode cX12_edgesOf 169 = .ok (.bipush 6, 2) := by decide +kernel
theorem dX12_edgesOf_171 : decode cX12_edgesOf 171 = .ok (.if_icmp .ge 26, 3) := by decide +kernel
theorem dX12_edgesOf_174 : decode cX12_edgesOf 174 = .ok (.aload_n 0, 1) := by decide +kernel
theorem dX12_edgesOf_175 : decode cX12_edgesOf 175 = .ok (.getfield 81, 3) := by decide +kernel
theorem dX12_edgesOf_178 : decode cX12_edgesOf 178 = .ok (.iload_n 1, 1) := by decide +kernel
theorem dX12_edgesOf_179 : decode cX12_edgesOf 179 = .ok (.iaload, 1) := by decide +kernel
theorem dX12_edgesOf_180 : decode cX12_edgesOf 180 = .ok (.ifCond .lt 17, 3) := by decide +kernel
theorem dX12_edgesOf_183 : decode cX12_edgesOf 183 = .ok (.iload 5, 2) := by decide +kernel
theorem dX12_edgesOf_185 : decode cX12_edgesOf 185 = .ok (.aload_n 0, 1) := by decide +kernel
theorem dX12_edgesOf_186 : decode cX12_edgesOf 186 = .ok (.getfield 81, 3) := by decide +kernel
theorem dX12_edgesOf_189 : decode cX12_edgesOf 189 = .ok (.iload_n 1, 1) := by decide +kernel
theorem dX12_edgesOf_190 : decode cX12_edgesOf 190 = .ok (.iaload, 1) := by decide +kernel
theorem dX12_edgesOf_191 : decode cX12_edgesOf 191 = .ok (.if_icmp .eq 6, 3) := by decide +kernel
theorem dX12_edgesOf_194 : decode cX12_edgesOf 194 = .ok (.goto 229, 3) := by decide +kernel
theorem dX12_edgesOf_197 : decode cX12_edgesOf 197 = .ok (.aload_n 0, 1) := by decide +kernel
theorem dX12_edgesOf_198 : decode cX12_edgesOf 198 = .ok (.getfield 84, 3) := by decide +kernel
theorem dX12_edgesOf_201 : decode cX12_edgesOf 201 = .ok (.iload_n 1, 1) := by decide +kernel
theorem dX12_edgesOf_202 : decode cX12_edgesOf 202 = .ok (.iaload, 1) := by decide +kernel
theorem dX12_edgesOf_203 : decode cX12_edgesOf 203 = .ok (.iload 5, 2) := by decide +kernel
theorem dX12_edgesOf_205 : decode cX12_edgesOf 205 = .ok (.ishr, 1) := by decide +kernel
theorem dX12_edgesOf_206 : decode cX12_edgesOf 206 = .ok (.iconst 1, 1) := by decide +kernel
theorem dX12_edgesOf_207 : decode cX12_edgesOf 207 = .ok (.iand, 1) := by decide +kernel
theorem dX12_edgesOf_208 : decode cX12_edgesOf 208 = .ok (.iconst 1, 1) := by decide +kernel
theorem dX12_edgesOf_209 : decode cX12_edgesOf 209 = .ok (.if_icmp .ne 6, 3) := by decide +kernel
theorem dX12_edgesOf_212 : decode cX12_edgesOf 212 = .ok (.goto 211, 3) := by decide +kernel
theorem dX12_edgesOf_215 : decode cX12_edgesOf 215 = .ok (.iload 5, 2) := by decide +kernel
theorem dX12_edgesOf_217 : decode cX12_edgesOf 217 = .ok (.bipush 6, 2) := by decide +kernel
theorem dX12_edgesOf_219 : decode cX12_edgesOf 219 = .ok (.if_icmp .ge 32, 3) := by decide +kernel
theorem dX12_edgesOf_222 : decode cX12_edgesOf 222 = .ok (.aload_n 0, 1) := by decide +kernel
theorem dX12_edgesOf_223 : decode cX12_edgesOf 223 = .ok (.getfield 28, 3) := by decide +kernel
theorem dX12_edgesOf_226 : decode cX12_edgesOf 226 = .ok (.iload 5, 2) := by decide +kernel
theorem dX12_edgesOf_228 : decode cX12_edgesOf 228 = .ok (.iaload, 1) := by decide +kernel
theorem dX12_edgesOf_229 : decode cX12_edgesOf 229 = .ok (.iconst 1, 1) := by decide +kernel
theorem dX12_edgesOf_230 : decode cX12_edgesOf 230 = .ok (.if_icmp .ne 21, 3) := by decide +kernel
theorem dX12_edgesOf_233 : decode cX12_edgesOf 233 = .ok (.aload_n 0, 1) := by decide +kernel
theorem dX12_edgesOf_234 : decode cX12_edgesOf 234 = .ok (.getfield 75, 3) := by decide +kernel
theorem dX12_edgesOf_237 : decode cX12_edgesOf 237 = .ok (.iload 4, 2) := by decide +kernel
theorem dX12_edgesOf_239 : decode cX12_edgesOf 239 = .ok (.iaload, 1) := by decide +kernel
theorem dX12_edgesOf_240 : decode cX12_edgesOf 240 = .ok (.iload 5, 2) := by decide +kernel
theorem dX12_edgesOf_242 : decode cX12_edgesOf 242 = .ok (.ishr, 1) := by decide +kernel
theorem dX12_edgesOf_243 : decode cX12_edgesOf 243 = .ok (.iconst 1, 1) := by decide +kernel
theorem dX12_edgesOf_244 : decode cX12_edgesOf 244 = .ok (.iand, 1) := by decide +kernel
theorem dX12_edgesOf_245 : decode cX12_edgesOf 245 = .ok (.ifCond .ne 6, 3) := by decide +kernel
theorem dX12_edgesOf_248 : decode cX12_edgesOf 248 = .ok (.goto 175, 3) := by decide +kernel
theorem dX12_edgesOf_251 : decode cX12_edgesOf 251 = .ok (.iload_n 2, 1) := by decide +kernel
theorem dX12_edgesOf_252 : decode cX12_edgesOf 252 = .ok (.bipush 8, 2) := by decide +kernel
theorem dX12_edgesOf_254 : decode cX12_edgesOf 254 = .ok (.ishr, 1) := by decide +kernel
theorem dX12_edgesOf_255 : decode cX12_edgesOf 255 = .ok (.istore 6, 2) := by decide +kernel
theorem dX12_edgesOf_257 : decode cX12_edgesOf 257 = .ok (.iconst 0, 1) := by decide +kernel
theorem dX12_edgesOf_258 : decode cX12_edgesOf 258 = .ok (.istore 7, 2) := by decide +kernel
theorem dX12_edgesOf_260 : decode cX12_edgesOf 260 = .ok (.iload 7, 2) := by decide +kernel
theorem dX12_edgesOf_262 : decode cX12_edgesOf 262 = .ok (.aload_n 0, 1) := by decide +kernel
theorem dX12_edgesOf_263 : decode cX12_edgesOf 263 = .ok (.getfield 257, 3) := by decide +kernel
theorem dX12_edgesOf_266 : decode cX12_edgesOf 266 = .ok (.if_icmp .ge 61, 3) := by decide +kernel
theorem dX12_edgesOf_269 : decode cX12_edgesOf 269 = .ok (.aload_n 0, 1) := by decide +kernel
theorem dX12_edgesOf_270 : decode cX12_edgesOf 270 = .ok (.getfield 96, 3) := by decide +kernel
theorem dX12_edgesOf_273 : decode cX12_edgesOf 273 = .ok (.iload 7, 2) := by decide +kernel
theorem dX12_edgesOf_275 : decode cX12_edgesOf 275 = .ok (.iaload, 1) := by decide +kernel
theorem dX12_edgesOf_276 : decode cX12_edgesOf 276 = .ok (.istore 8, 2) := by decide +kernel
theorem dX12_edgesOf_278 : decode cX12_edgesOf 278 = .ok (.aload_n 0, 1) := by decide +kernel
theorem dX12_edgesOf_279 : decode cX12_edgesOf 279 = .ok (.getfield 34, 3) := by decide +kernel
theorem dX12_edgesOf_282 : decode cX12_edgesOf 282 = .ok (.iload 8, 2) := by decide +kernel
theorem dX12_edgesOf_284 : decode cX12_edgesOf 284 = .ok (.iaload, 1) := by decide +kernel
theorem dX12_edgesOf_285 : decode cX12_edgesOf 285 = .ok (.iload 5, 2) := by decide +kernel
theorem dX12_edgesOf_287 : decode cX12_edgesOf 287 = .ok (.if_icmp .ne 34, 3) := by decide +kernel
theorem dX12_edgesOf_290 : decode cX12_edgesOf 290 = .ok (.iload_n 1, 1) := by decide +kernel
theorem dX12_edgesOf_291 : decode cX12_edgesOf 291 = .ok (.aload_n 0, 1) := by decide +kernel
theorem dX12_edgesOf_292 : decode cX12_edgesOf 292 = .ok (.getfield 37, 3) := by decide +kernel
theorem dX12_edgesOf_295 : decode cX12_edgesOf 295 = .ok (.iload 8, 2) := by decide +kernel
theorem dX12_edgesOf_297 : decode cX12_edgesOf 297 = .ok (.iaload, 1) := by decide +kernel
theorem dX12_edgesOf_298 : decode cX12_edgesOf 298 = .ok (.if_icmp .lt 23, 3) := by decide +kernel
theorem dX12_edgesOf_301 : decode cX12_edgesOf 301 = .ok (.iload_n 1, 1) := by decide +kernel
theorem dX12_edgesOf_302 : decode cX12_edgesOf 302 = .ok (.aload_n 0, 1) := by decide +kernel
theorem dX12_edgesOf_303 : decode cX12_edgesOf 303 = .ok (.getfield 40, 3) := by decide +kernel
theorem dX12_edgesOf_306 : decode cX12_edgesOf 306 = .ok (.iload 8, 2) := by decide +kernel
theorem dX12_edgesOf_308 : decode cX12_edgesOf 308 = .ok (.iaload, 1) := by decide +kernel
theorem dX12_edgesOf_309 : decode cX12_edgesOf 309 = .ok (.if_icmp .gt 12, 3) := by decide +kernel
theorem dX12_edgesOf_312 : decode cX12_edgesOf 312 = .ok (.iload 6, 2) := by decide +kernel
theorem dX12_edgesOf_314 : decode cX12_edgesOf 314 = .ok (.iconst 1, 1) := by decide +kernel
theorem dX12_edgesOf_315 : decode cX12_edgesOf 315 = .ok (.iload 7, 2) := by decide +kernel
theorem dX12_edgesOf_317 : decode cX12_edgesOf 317 = .ok (.ishl, 1) := by decide +kernel
theorem dX12_edgesOf_318 : decode cX12_edgesOf 318 = .ok (.ior, 1) := by decide +kernel
theorem dX12_edgesOf_319 : decode cX12_edgesOf 319 = .ok (.istore 6, 2) := by decide +kernel
theorem dX12_edgesOf_321 : decode cX12_edgesOf 321 = .ok (.iinc 7 1, 3) := by decide +kernel
theorem dX12_edgesOf_324 : decode cX12_edgesOf 324 = .ok (.goto (-64), 3) := by decide +kernel
theorem dX12_edgesOf_327 : decode cX12_edgesOf 327 = .ok (.aload_n 0, 1) := by decide +kernel
theorem dX12_edgesOf_328 : decode cX12_edgesOf 328 = .ok (.getfield 105, 3) := by decide +kernel
theorem dX12_edgesOf_331 : decode cX12_edgesOf 331 = .ok (.aload_n 0, 1) := by decide +kernel
theorem dX12_edgesOf_332 : decode cX12_edgesOf 332 = .ok (.getfield 264, 3) := by decide +kernel
theorem dX12_edgesOf_335 : decode cX12_edgesOf 335 = .ok (.iload 4, 2) := by decide +kernel
theorem dX12_edgesOf_337 : decode cX12_edgesOf 337 = .ok (.iastore, 1) := by decide +kernel
