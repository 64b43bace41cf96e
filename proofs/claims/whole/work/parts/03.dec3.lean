theorem dX12_edgesOf_338 : decode cX12_edgesOf 338 = .ok (.aload_n 0, 1) := by decide +kernel
theorem dX12_edgesOf_339 : decode cX12_edgesOf 339 = .ok (.getfield 108, 3) := by decide +kernel
theorem dX12_edgesOf_342 : decode cX12_edgesOf 342 = .ok (.aload_n 0, 1) := by decide +kernel
theorem dX12_edgesOf_343 : decode cX12_edgesOf 343 = .ok (.getfield 264, 3) := by decide +kernel
theorem dX12_edgesOf_346 : decode cX12_edgesOf 346 = .ok (.iload 5, 2) := by decide +kernel
theorem dX12_edgesOf_348 : decode cX12_edgesOf 348 = .ok (.iastore, 1) := by decide +kernel
theorem dX12_edgesOf_349 : decode cX12_edgesOf 349 = .ok (.aload_n 0, 1) := by decide +kernel
theorem dX12_edgesOf_350 : decode cX12_edgesOf 350 = .ok (.getfield 111, 3) := by decide +kernel
theorem dX12_edgesOf_353 : decode cX12_edgesOf 353 = .ok (.aload_n 0, 1) := by decide +kernel
theorem dX12_edgesOf_354 : decode cX12_edgesOf 354 = .ok (.getfield 264, 3) := by decide +kernel
theorem dX12_edgesOf_357 : decode cX12_edgesOf 357 = .ok (.aload_n 0, 1) := by decide +kernel
theorem dX12_edgesOf_358 : decode cX12_edgesOf 358 = .ok (.getfield 78, 3) := by decide +kernel
theorem dX12_edgesOf_361 : decode cX12_edgesOf 361 = .ok (.bipush 7, 2) := by decide +kernel
theorem dX12_edgesOf_363 : decode cX12_edgesOf 363 = .ok (.iload 4, 2) := by decide +kernel
theorem dX12_edgesOf_365 : decode cX12_edgesOf 365 = .ok (.imul, 1) := by decide +kernel
theorem dX12_edgesOf_366 : decode cX12_edgesOf 366 = .ok (.iload 5, 2) := by decide +kernel
theorem dX12_edgesOf_368 : decode cX12_edgesOf 368 = .ok (.iadd, 1) := by decide +kernel
theorem dX12_edgesOf_369 : decode cX12_edgesOf 369 = .ok (.iaload, 1) := by decide +kernel
theorem dX12_edgesOf_370 : decode cX12_edgesOf 370 = .ok (.iload 6, 2) := by decide +kernel
theorem dX12_edgesOf_372 : decode cX12_edgesOf 372 = .ok (.bipush 8, 2) := by decide +kernel
theorem dX12_edgesOf_374 : decode cX12_edgesOf 374 = .ok (.ishl, 1) := by decide +kernel
theorem dX12_edgesOf_375 : decode cX12_edgesOf 375 = .ok (.ior, 1) := by decide +kernel
theorem dX12_edgesOf_376 : decode cX12_edgesOf 376 = .ok (.iastore, 1) := by decide +kernel
theorem dX12_edgesOf_377 : decode cX12_edgesOf 377 = .ok (.aload_n 0, 1) := by decide +kernel
theorem dX12_edgesOf_378 : decode cX12_edgesOf 378 = .ok (.getfield 114, 3) := by decide +kernel
theorem dX12_edgesOf_381 : decode cX12_edgesOf 381 = .ok (.aload_n 0, 1) := by decide +kernel
theorem dX12_edgesOf_382 : decode cX12_edgesOf 382 = .ok (.getfield 264, 3) := by decide +kernel
theorem dX12_edgesOf_385 : decode cX12_edgesOf 385 = .ok (.iload 5, 2) := by decide +kernel
theorem dX12_edgesOf_387 : decode cX12_edgesOf 387 = .ok (.bipush 6, 2) := by decide +kernel
theorem dX12_edgesOf_389 : decode cX12_edgesOf 389 = .ok (.if_icmp .eq 12, 3) := by decide +kernel
theorem dX12_edgesOf_392 : decode cX12_edgesOf 392 = .ok (.aload_n 0, 1) := by decide +kernel
theorem dX12_edgesOf_393 : decode cX12_edgesOf 393 = .ok (.getfield 81, 3) := by decide +kernel
theorem dX12_edgesOf_396 : decode cX12_edgesOf 396 = .ok (.iload_n 1, 1) := by decide +kernel
theorem dX12_edgesOf_397 : decode cX12_edgesOf 397 = .ok (.iaload, 1) := by decide +kernel
theorem dX12_edgesOf_398 : decode cX12_edgesOf 398 = .ok (.ifCond .lt 7, 3) := by decide +kernel
theorem dX12_edgesOf_401 : decode cX12_edgesOf 401 = .ok (.iconst 0, 1) := by decide +kernel
theorem dX12_edgesOf_402 : decode cX12_edgesOf 402 = .ok (.goto 10, 3) := by decide +kernel
theorem dX12_edgesOf_405 : decode cX12_edgesOf 405 = .ok (.aload_n 0, 1) := by decide +kernel
theorem dX12_edgesOf_406 : decode cX12_edgesOf 406 = .ok (.getfield 25, 3) := by decide +kernel
theorem dX12_edgesOf_409 : decode cX12_edgesOf 409 = .ok (.iload 5, 2) := by decide +kernel
theorem dX12_edgesOf_411 : decode cX12_edgesOf 411 = .ok (.iaload, 1) := by decide +kernel
theorem dX12_edgesOf_412 : decode cX12_edgesOf 412 = .ok (.iastore, 1) := by decide +kernel
theorem dX12_edgesOf_413 : decode cX12_edgesOf 413 = .ok (.aload_n 0, 1) := by decide +kernel
theorem dX12_edgesOf_414 : decode cX12_edgesOf 414 = .ok (.dup, 1) := by decide +kernel
theorem dX12_edgesOf_415 : decode cX12_edgesOf 415 = .ok (.getfield 264, 3) := by decide +kernel
theorem dX12_edgesOf_418 : decode cX12_edgesOf 418 = .ok (.iconst 1, 1) := by decide +kernel
theorem dX12_edgesOf_419 : decode cX12_edgesOf 419 = .ok (.iadd, 1) := by decide +kernel
theorem dX12_edgesOf_420 : decode cX12_edgesOf 420 = .ok (.putfield 264, 3) := by decide +kernel
theorem dX12_edgesOf_423 : decode cX12_edgesOf 423 = .ok (.iinc 5 1, 3) := by decide +kernel
theorem dX12_edgesOf_426 : decode cX12_edgesOf 426 = .ok (.goto (-301), 3) := by decide +kernel
theorem dX12_edgesOf_429 : decode cX12_edgesOf 429 = .ok (.iinc 3 1, 3) := by decide +kernel
theorem dX12_edgesOf_432 : decode cX12_edgesOf 432 = .ok (.goto (-413), 3) := by decide +kernel
theorem dX12_edgesOf_435 : decode cX12_edgesOf 435 = .ok (.return_, 1) := by decide +kernel
theorem dX12_solve_0 : decode cX12_solve 0 = .ok (.aload_n 0, 1) := by decide +kernel
theorem dX12_solve_1 : decode cX12_solve 1 = .ok (.invokevirtual 267, 3) := by decide +kernel
theorem dX12_solve_4 : decode cX12_solve 4 = .ok (.aload_n 0, 1) := by decide +kernel
theorem dX12_solve_5 : decode cX12_solve 5 = .ok (.iload_n 1, 1) := by decide +kernel
theorem dX12_solve_6 : decode cX12_solve 6 = .ok (.iload_n 2, 1) := by decide +kernel
theorem dX12_solve_7 : decode cX12_solve 7 = .ok (.iload_n 3, 1) := by decide +kernel
theorem dX12_solve_8 : decode cX12_solve 8 = .ok (.invokevirtual 270, 3) := by decide +kernel
theorem dX12_solve_11 : decode cX12_solve 11 = .ok (.iconst 0, 1) := by decide +kernel
theorem dX12_solve_12 : decode cX12_solve 12 = .ok (.istore 4, 2) := by decide +kernel
theorem dX12_solve_14 : decode cX12_solve 14 = .ok (.iload 4, 2) := by decide +kernel
theorem dX12_solve_16 : decode cX12_solve 16 = .ok (.sipush 13312, 3) := by decide +kernel
theorem dX12_solve_19 : decode cX12_solve 19 = .ok (.if_icmp .ge 29, 3) := by decide +kernel
theorem dX12_solve_22 : decode cX12_solve 22 = .ok (.aload_n 0, 1) := by decide +kernel
theorem dX12_solve_23 : decode cX12_solve 23 = .ok (.getfield 99, 3) := by decide +kernel
theorem dX12_solve_26 : decode cX12_solve 26 = .ok (.iload 4, 2) := by decide +kernel
theorem dX12_solve_28 : decode cX12_solve 28 = .ok (.ldc_w 274, 3) := by decide +kernel
theorem dX12_solve_31 : decode cX12_solve 31 = .ok (.iastore, 1) := by decide +kernel
theorem dX12_solve_32 : decode cX12_solve 32 = .ok (.aload_n 0, 1) := by decide +kernel
theorem dX12_solve_33 : decode cX12_solve 33 = .ok (.getfield 102, 3) := by decide +kernel
theorem dX12_solve_36 : decode cX12_solve 36 = .ok (.iload 4, 2) := by decide +kernel
theorem dX12_solve_38 : decode cX12_solve 38 = .ok (.ldc_w 274, 3) := by decide +kernel
theorem dX12_solve_41 : decode cX12_solve 41 = .ok (.iastore, 1) := by decide +kernel
theorem dX12_solve_42 : decode cX12_solve 42 = .ok (.iinc 4 1, 3) := by decide +kernel
theorem dX12_solve_45 : decode cX12_solve 45 = .ok (.goto (-31), 3) := by decide +kernel
theorem dX12_solve_48 : decode cX12_solve 48 = .ok (.iconst 0, 1) := by decide +kernel
theorem dX12_solve_49 : decode cX12_solve 49 = .ok (.istore 4, 2) := by decide +kernel
theorem dX12_solve_51 : decode cX12_solve 51 = .ok (.iload 4, 2) := by decide +kernel
theorem dX12_solve_53 : decode cX12_solve 53 = .ok (.iconst 1, 1) := by decide +kernel
theorem dX12_solve_54 : decode cX12_solve 54 = .ok (.aload_n 0, 1) := by decide +kernel
theorem dX12_solve_55 : decode cX12_solve 55 = .ok (.getfield 240, 3) := by decide +kernel
theorem dX12_solve_58 : decode cX12_solve 58 = .ok (.ishl, 1) := by decide +kernel
theorem dX12_solve_59 : decode cX12_solve 59 = .ok (.if_icmp .ge 17, 3) := by decide +kernel
theorem dX12_solve_62 : decode cX12_solve 62 = .ok (.aload_n 0, 1) := by decide +kernel
theorem dX12_solve_63 : decode cX12_solve 63 = .ok (.getfield 99, 3) := by decide +kernel
theorem dX12_solve_66 : decode cX12_solve 66 = .ok (.iload 4, 2) := by decide +kernel
theorem dX12_solve_68 : decode cX12_solve 68 = .ok (.iconst 0, 1) := by decide +kernel
theorem dX12_solve_69 : decode cX12_solve 69 = .ok (.iastore, 1) := by decide +kernel
theorem dX12_solve_70 : decode cX12_solve 70 = .ok (.iinc 4 1, 3) := by decide +kernel
theorem dX12_solve_73 : decode cX12_solve 73 = .ok (.goto (-22), 3) := by decide +kernel
theorem dX12_solve_76 : decode cX12_solve 76 = .ok (.iconst 0, 1) := by decide +kernel
theorem dX12_solve_77 : decode cX12_solve 77 = .ok (.istore 4, 2) := by decide +kernel
theorem dX12_solve_79 : decode cX12_solve 79 = .ok (.iload 4, 2) := by decide +kernel
theorem dX12_solve_81 : decode cX12_solve 81 = .ok (.bipush 12, 2) := by decide +kernel
theorem dX12_solve_83 : decode cX12_solve 83 = .ok (.if_icmp .ge 124, 3) := by decide +kernel
theorem dX12_solve_86 : decode cX12_solve 86 = .ok (.iconst 0, 1) := by decide +kernel
theorem dX12_solve_87 : decode cX12_solve 87 = .ok (.istore 5, 2) := by decide +kernel
theorem dX12_solve_89 : decode cX12_solve 89 = .ok (.iload 5, 2) := by decide +kernel
theorem dX12_solve_91 : decode cX12_solve 91 = .ok (.sipush 1024, 3) := by decide +kernel
theorem dX12_solve_94 : decode cX12_solve 94 = .ok (.if_icmp .ge 107, 3) := by decide +kernel
theorem dX12_solve_97 : decode cX12_solve 97 = .ok (.aload_n 0, 1) := by decide +kernel
theorem dX12_solve_98 : decode cX12_solve 98 = .ok (.getfield 99, 3) := by decide +kernel
theorem dX12_solve_101 : decode cX12_solve 101 = .ok (.sipush 1024, 3) := by decide +kernel
theorem dX12_solve_104 : decode cX12_solve 104 = .ok (.iload 4, 2) := by decide +kernel
theorem dX12_solve_106 : decode cX12_solve 106 = .ok (.imul, 1) := by decide +kernel
theorem dX12_solve_107 : decode cX12_solve 107 = .ok (.iload 5, 2) := by decide +kernel
theorem dX12_solve_109 : decode cX12_solve 109 = .ok (.iadd, 1) := by decide +kernel
theorem dX12_solve_110 : decode cX12_solve 110 = .ok (.iaload, 1) := by decide +kernel
theorem dX12_solve_111 : decode cX12_solve 111 = .ok (.istore 6, 2) := by decide +kernel
theorem dX12_solve_113 : decode cX12_solve 113 = .ok (.iload 6, 2) := by decide +kernel
theorem dX12_solve_115 : decode cX12_solve 115 = .ok (.ldc_w 274, 3) := by decide +kernel
theorem dX12_solve_118 : decode cX12_solve 118 = .ok (.if_icmp .ne 6, 3) := by decide +kernel
theorem dX12_solve_121 : decode cX12_solve 121 = .ok (.goto 74, 3) := by decide +kernel
theorem dX12_solve_124 : decode cX12_solve 124 = .ok (.aload_n 0, 1) := by decide +kernel
theorem dX12_solve_125 : decode cX12_solve 125 = .ok (.iload 4, 2) := by decide +kernel
theorem dX12_solve_127 : decode cX12_solve 127 = .ok (.iload 5, 2) := by decide +kernel
theorem dX12_solve_129 : decode cX12_solve 129 = .ok (.invokevirtual 275, 3) := by decide +kernel
theorem dX12_solve_132 : decode cX12_solve 132 = .ok (.iconst 0, 1) := by decide +kernel
theorem dX12_solve_133 : decode cX12_solve 133 = .ok (.istore 7, 2) := by decide +kernel
theorem dX12_solve_135 : decode cX12_solve 135 = .ok (.iload 7, 2) := by decide +kernel
theorem dX12_solve_137 : decode cX12_solve 137 = .ok (.aload_n 0, 1) := by decide +kernel
theorem dX12_solve_138 : decode cX12_solve 138 = .ok (.getfield 264, 3) := by decide +kernel
theorem dX12_solve_141 : decode cX12_solve 141 = .ok (.if_icmp .ge 54, 3) := by decide +kernel
theorem dX12_solve_144 : decode cX12_solve 144 = .ok (.sipush 1024, 3) := by decide +kernel
theorem dX12_solve_147 : decode cX12_solve 147 = .ok (.iload 4, 2) := by decide +kernel
theorem dX12_solve_149 : decode cX12_solve 149 = .ok (.iconst 1, 1) := by decide +kernel
theorem dX12_solve_150 : decode cX12_solve 150 = .ok (.iadd, 1) := by decide +kernel
theorem dX12_solve_151 : decode cX12_solve 151 = .ok (.imul, 1) := by decide +kernel
theorem dX12_solve_152 : decode cX12_solve 152 = .ok (.aload_n 0, 1) := by decide +kernel
theorem dX12_solve_153 : decode cX12_solve 153 = .ok (.getfield 111, 3) := by decide +kernel
theorem dX12_solve_156 : decode cX12_solve 156 = .ok (.iload 7, 2) := by decide +kernel
theorem dX12_solve_158 : decode cX12_solve 158 = .ok (.iaload, 1) := by decide +kernel
theorem dX12_solve_159 : decode cX12_solve 159 = .ok (.iadd, 1) := by decide +kernel
theorem dX12_solve_160 : decode cX12_solve 160 = .ok (.istore 8, 2) := by decide +kernel
theorem dX12_solve_162 : decode cX12_solve 162 = .ok (.aload_n 0, 1) := by decide +kernel
theorem dX12_solve_163 : decode cX12_solve 163 = .ok (.getfield 99, 3) := by decide +kernel
theorem dX12_solve_166 : decode cX12_solve 166 = .ok (.iload 8, 2) := by decide +kernel
theorem dX12_solve_168 : decode cX12_solve 168 = .ok (.aload_n 0, 1) := by decide +kernel
theorem dX12_solve_169 : decode cX12_solve 169 = .ok (.getfield 99, 3) := by decide +kernel
theorem dX12_solve_172 : decode cX12_solve 172 = .ok (.iload 8, 2) := by decide +kernel
theorem dX12_solve_174 : decode cX12_solve 174 = .ok (.iaload, 1) := by decide +kernel
theorem dX12_solve_175 : decode cX12_solve 175 = .ok (.iload 6, 2) := by decide +kernel
theorem dX12_solve_177 : decode cX12_solve 177 = .ok (.aload_n 0, 1) := by decide +kernel
theorem dX12_solve_178 : decode cX12_solve 178 = .ok (.getfield 114, 3) := by decide +kernel
theorem dX12_solve_181 : decode cX12_solve 181 = .ok (.iload 7, 2) := by decide +kernel
theorem dX12_solve_183 : decode cX12_solve 183 = .ok (.iaload, 1) := by decide +kernel
theorem dX12_solve_184 : decode cX12_solve 184 = .ok (.iadd, 1) := by decide +kernel
theorem dX12_solve_185 : decode cX12_solve 185 = .ok (.invokestatic 278, 3) := by decide +kernel
theorem dX12_solve_188 : decode cX12_solve 188 = .ok (.iastore, 1) := by decide +kernel
theorem dX12_solve_189 : decode cX12_solve 189 = .ok (.iinc 7 1, 3) := by decide +kernel
theorem dX12_solve_192 : decode cX12_solve 192 = .ok (.goto (-57), 3) := by decide +kernel
theorem dX12_solve_195 : decode cX12_solve 195 = .ok (.iinc 5 1, 3) := by decide +kernel
theorem dX12_solve_198 : decode cX12_solve 198 = .ok (.goto (-109), 3) := by decide +kernel
theorem dX12_solve_201 : decode cX12_solve 201 = .ok (.iinc 4 1, 3) := by decide +kernel
theorem dX12_solve_204 : decode cX12_solve 204 = .ok (.goto (-125), 3) := by decide +kernel
theorem dX12_solve_207 : decode cX12_solve 207 = .ok (.aload_n 0, 1) := by decide +kernel
theorem dX12_solve_208 : decode cX12_solve 208 = .ok (.ldc_w 274, 3) := by decide +kernel
theorem dX12_solve_211 : decode cX12_solve 211 = .ok (.putfield 283, 3) := by decide +kernel
theorem dX12_solve_214 : decode cX12_solve 214 = .ok (.iconst 1, 1) := by decide +kernel
theorem dX12_solve_215 : decode cX12_solve 215 = .ok (.aload_n 0, 1) := by decide +kernel
theorem dX12_solve_216 : decode cX12_solve 216 = .ok (.getfield 257, 3) := by decide +kernel
theorem dX12_solve_219 : decode cX12_solve 219 = .ok (.ishl, 1) := by decide +kernel
theorem dX12_solve_220 : decode cX12_solve 220 = .ok (.iconst 1, 1) := by decide +kernel
theorem dX12_solve_221 : decode cX12_solve 221 = .ok (.isub, 1) := by decide +kernel
theorem dX12_solve_222 : decode cX12_solve 222 = .ok (.istore 4, 2) := by decide +kernel
theorem dX12_solve_224 : decode cX12_solve 224 = .ok (.iconst 0, 1) := by decide +kernel
theorem dX12_solve_225 : decode cX12_solve 225 = .ok (.istore 5, 2) := by decide +kernel
theorem dX12_solve_227 : decode cX12_solve 227 = .ok (.iload 5, 2) := by decide +kernel
theorem dX12_solve_229 : decode cX12_solve 229 = .ok (.sipush 1024, 3) := by decide +kernel
theorem dX12_solve_232 : decode cX12_solve 232 = .ok (.if_icmp .ge 56, 3) := by decide +kernel
theorem dX12_solve_235 : decode cX12_solve 235 = .ok (.iload 5, 2) := by decide +kernel
theorem dX12_solve_237 : decode cX12_solve 237 = .ok (.bipush 8, 2) := by decide +kernel
theorem dX12_solve_239 : decode cX12_solve 239 = .ok (.ishr, 1) := by decide +kernel
theorem dX12_solve_240 : decode cX12_solve 240 = .ok (.iload 4, 2) := by decide +kernel
theorem dX12_solve_242 : decode cX12_solve 242 = .ok (.if_icmp .eq 6, 3) := by decide +kernel
theorem dX12_solve_245 : decode cX12_solve 245 = .ok (.goto 37, 3) := by decide +kernel
theorem dX12_solve_248 : decode cX12_solve 248 = .ok (.aload_n 0, 1) := by decide +kernel
theorem dX12_solve_249 : decode cX12_solve 249 = .ok (.getfield 102, 3) := by decide +kernel
theorem dX12_solve_252 : decode cX12_solve 252 = .ok (.sipush 12288, 3) := by decide +kernel
theorem dX12_solve_255 : decode cX12_solve 255 = .ok (.iload 5, 2) := by decide +kernel
theorem dX12_solve_257 : decode cX12_solve 257 = .ok (.iadd, 1) := by decide +kernel
theorem dX12_solve_258 : decode cX12_solve 258 = .ok (.iconst 0, 1) := by decide +kernel
theorem dX12_solve_259 : decode cX12_solve 259 = .ok (.iastore, 1) := by decide +kernel
theorem dX12_solve_260 : decode cX12_solve 260 = .ok (.aload_n 0, 1) := by decide +kernel
theorem dX12_solve_261 : decode cX12_solve 261 = .ok (.aload_n 0, 1) := by decide +kernel
theorem dX12_solve_262 : decode cX12_solve 262 = .ok (.getfield 283, 3) := by decide +kernel
theorem dX12_solve_265 : decode cX12_solve 265 = .ok (.aload_n 0, 1) := by decide +kernel
theorem dX12_solve_266 : decode cX12_solve 266 = .ok (.getfield 99, 3) := by decide +kernel
theorem dX12_solve_269 : decode cX12_solve 269 = .ok (.sipush 12288, 3) := by decide +kernel
theorem dX12_solve_272 : decode cX12_solve 272 = .ok (.iload 5, 2) := by decide +kernel
theorem dX12_solve_274 : decode cX12_solve 274 = .ok (.iadd, 1) := by decide +kernel
theorem dX12_solve_275 : decode cX12_solve 275 = .ok (.iaload, 1) := by decide +kernel
theorem dX12_solve_276 : decode cX12_solve 276 = .ok (.invokestatic 278, 3) := by decide +kernel
theorem dX12_solve_279 : decode cX12_solve 279 = .ok (.putfield 283, 3) := by decide +kernel
theorem dX12_solve_282 : decode cX12_solve 282 = .ok (.iinc 5 1, 3) := by decide +kernel
theorem dX12_solve_285 : decode cX12_solve 285 = .ok (.goto (-58), 3) := by decide +kernel
theorem dX12_solve_288 : decode cX12_solve 288 = .ok (.aload_n 0, 1) := by decide +kernel
theorem dX12_solve_289 : decode cX12_solve 289 = .ok (.getfield 283, 3) := by decide +kernel
theorem dX12_solve_292 : decode cX12_solve 292 = .ok (.ldc_w 274, 3) := by decide +kernel
theorem dX12_solve_295 : decode cX12_solve 295 = .ok (.if_icmp .ne 5, 3) := by decide +kernel
theorem dX12_solve_298 : decode cX12_solve 298 = .ok (.iconst 0, 1) := by decide +kernel
theorem dX12_solve_299 : decode cX12_solve 299 = .ok (.ireturn, 1) := by decide +kernel
theorem dX12_solve_300 : decode cX12_solve 300 = .ok (.bipush 11, 2) := by decide +kernel
theorem dX12_solve_302 : decode cX12_solve 302 = .ok (.istore 5, 2) := by decide +kernel
theorem dX12_solve_304 : decode cX12_solve 304 = .ok (.iload 5, 2) := by decide +kernel
theorem dX12_solve_306 : decode cX12_solve 306 = .ok (.ifCond .lt 141, 3) := by decide +kernel
theorem dX12_solve_309 : decode cX12_solve 309 = .ok (.iconst 0, 1) := by decide +kernel
theorem dX12_solve_310 : decode cX12_solve 310 = .ok (.istore 6, 2) := by decide +kernel
theorem dX12_solve_312 : decode cX12_solve 312 = .ok (.iload 6, 2) := by decide +kernel
theorem dX12_solve_314 : decode cX12_solve 314 = .ok (.sipush 1024, 3) := by decide +kernel
theorem dX12_solve_317 : decode cX12_solve 317 = .ok (.if_icmp .ge 124, 3) := by decide +kernel
theorem dX12_solve_320 : decode cX12_solve 320 = .ok (.aload_n 0, 1) := by decide +kernel
theorem dX12_solve_321 : decode cX12_solve 321 = .ok (.getfield 99, 3) := by decide +kernel
theorem dX12_solve_324 : decode cX12_solve 324 = .ok (.sipush 1024, 3) := by decide +kernel
theorem dX12_solve_327 : decode cX12_solve 327 = .ok (.iload 5, 2) := by decide +kernel
theorem dX12_solve_329 : decode cX12_solve 329 = .ok (.imul, 1) := by decide +kernel
theorem dX12_solve_330 : decode cX12_solve 330 = .ok (.iload 6, 2) := by decide +kernel
theorem dX12_solve_332 : decode cX12_solve 332 = .ok (.iadd, 1) := by decide +kernel
theorem dX12_solve_333 : decode cX12_solve 333 = .ok (.iaload, 1) := by decide +kernel
theorem dX12_solve_334 : decode cX12_solve 334 = .ok (.ldc_w 274, 3) := by decide +kernel
theorem dX12_solve_337 : decode cX12_solve 337 = .ok (.if_icmp .ne 6, 3) := by decide +kernel
theorem dX12_solve_340 : decode cX12_solve 340 = .ok (.goto 95, 3) := by decide +kernel
theorem dX12_solve_343 : decode cX12_solve 343 = .ok (.aload_n 0, 1) := by decide +kernel
theorem dX12_solve_344 : decode cX12_solve 344 = .ok (.iload 5, 2) := by decide +kernel
theorem dX12_solve_346 : decode cX12_solve 346 = .ok (.iload 6, 2) := by decide +kernel
theorem dX12_solve_348 : decode cX12_solve 348 = .ok (.invokevirtual 275, 3) := by decide +kernel
theorem dX12_solve_351 : decode cX12_solve 351 = .ok (.iconst 0, 1) := by decide +kernel
theorem dX12_solve_352 : decode cX12_solve 352 = .ok (.istore 7, 2) := by decide +kernel
theorem dX12_solve_354 : decode cX12_solve 354 = .ok (.iload 7, 2) := by decide +kernel
theorem dX12_solve_356 : decode cX12_solve 356 = .ok (.aload_n 0, 1) := by decide +kernel
theorem dX12_solve_357 : decode cX12_solve 357 = .ok (.getfield 264, 3) := by decide +kernel
theorem dX12_solve_360 : decode cX12_solve 360 = .ok (.if_icmp .ge 75, 3) := by decide +kernel
theorem dX12_solve_363 : decode cX12_solve 363 = .ok (.aload_n 0, 1) := by decide +kernel
theorem dX12_solve_364 : decode cX12_solve 364 = .ok (.getfield 102, 3) := by decide +kernel
theorem dX12_solve_367 : decode cX12_solve 367 = .ok (.sipush 1024, 3) := by decide +kernel
theorem dX12_solve_370 : decode cX12_solve 370 = .ok (.iload 5, 2) := by decide +kernel
theorem dX12_solve_372 : decode cX12_solve 372 = .ok (.iconst 1, 1) := by decide +kernel
theorem dX12_solve_373 : decode cX12_solve 373 = .ok (.iadd, 1) := by decide +kernel
theorem dX12_solve_374 : decode cX12_solve 374 = .ok (.imul, 1) := by decide +kernel
theorem dX12_solve_375 : decode cX12_solve 375 = .ok (.aload_n 0, 1) := by decide +kernel
theorem dX12_solve_376 : decode cX12_solve 376 = .ok (.getfield 111, 3) := by decide +kernel
theorem dX12_solve_379 : decode cX12_solve 379 = .ok (.iload 7, 2) := by decide +kernel
theorem dX12_solve_381 : decode cX12_solve 381 = .ok (.iaload, 1) := by decide +kernel
theorem dX12_solve_382 : decode cX12_solve 382 = .ok (.iadd, 1) := by decide +kernel
theorem dX12_solve_383 : decode cX12_solve 383 = .ok (.iaload, 1) := by decide +kernel
theorem dX12_solve_384 : decode cX12_solve 384 = .ok (.aload_n 0, 1) := by decide +kernel
theorem dX12_solve_385 : decode cX12_solve 385 = .ok (.getfield 114, 3) := by decide +kernel
theorem dX12_solve_388 : decode cX12_solve 388 = .ok (.iload 7, 2) := by decide +kernel
theorem dX12_solve_390 : decode cX12_solve 390 = .ok (.iaload, 1) := by decide +kernel
theorem dX12_solve_391 : decode cX12_solve 391 = .ok (.iadd, 1) := by decide +kernel
theorem dX12_solve_392 : decode cX12_solve 392 = .ok (.istore 8, 2) := by decide +kernel
theorem dX12_solve_394 : decode cX12_solve 394 = .ok (.iload 8, 2) := by decide +kernel
theorem dX12_solve_396 : decode cX12_solve 396 = .ok (.aload_n 0, 1) := by decide +kernel
theorem dX12_solve_397 : decode cX12_solve 397 = .ok (.getfield 102, 3) := by decide +kernel
theorem dX12_solve_400 : decode cX12_solve 400 = .ok (.sipush 1024, 3) := by decide +kernel
theorem dX12_solve_403 : decode cX12_solve 403 = .ok (.iload 5, 2) := by decide +kernel
theorem dX12_solve_405 : decode cX12_solve 405 = .ok (.imul, 1) := by decide +kernel
theorem dX12_solve_406 : decode cX12_solve 406 = .ok (.iload 6, 2) := by decide +kernel
theorem dX12_solve_408 : decode cX12_solve 408 = .ok (.iadd, 1) := by decide +kernel
theorem dX12_solve_409 : decode cX12_solve 409 = .ok (.iaload, 1) := by decide +kernel
theorem dX12_solve_410 : decode cX12_solve 410 = .ok (.if_icmp .ge 19, 3) := by decide +kernel
theorem dX12_solve_413 : decode cX12_solve 413 = .ok (.aload_n 0, 1) := by decide +kernel
theorem dX12_solve_414 : decode cX12_solve 414 = .ok (.getfield 102, 3) := by decide +kernel
theorem dX12_solve_417 : decode cX12_solve 417 = .ok (.sipush 1024, 3) := by decide +kernel
theorem dX12_solve_420 : decode cX12_solve 420 = .ok (.iload 5, 2) := by decide +kernel
theorem dX12_solve_422 : decode cX12_solve 422 = .ok (.imul, 1) := by decide +kernel
theorem dX12_solve_423 : decode cX12_solve 423 = .ok (.iload 6, 2) := by decide +kernel
theorem dX12_solve_425 : decode cX12_solve 425 = .ok (.iadd, 1) := by decide +kernel
theorem dX12_solve_426 : decode cX12_solve 426 = .ok (.iload 8, 2) := by decide +kernel
theorem dX12_solve_428 : decode cX12_solve 428 = .ok (.iastore, 1) := by decide +kernel
theorem dX12_solve_429 : decode cX12_solve 429 = .ok (.iinc 7 1, 3) := by decide +kernel
theorem dX12_solve_432 : decode cX12_solve 432 = .ok (.goto (-78), 3) := by decide +kernel
theorem dX12_solve_435 : decode cX12_solve 435 = .ok (.iinc 6 1, 3) := by decide +kernel
theorem dX12_solve_438 : decode cX12_solve 438 = .ok (.goto (-126), 3) := by decide +kernel
theorem dX12_solve_441 : decode cX12_solve 441 = .ok (.iinc 5 (-1), 3) := by decide +kernel
theorem dX12_solve_444 : decode cX12_solve 444 = .ok (.goto (-140), 3) := by decide +kernel
theorem dX12_solve_447 : decode cX12_solve 447 = .ok (.iconst 1, 1) := by decide +kernel
theorem dX12_solve_448 : decode cX12_solve 448 = .ok (.ireturn, 1) := by decide +kernel
theorem dX12_isLeast_0 : decode cX12_isLeast 0 = .ok (.aload_n 0, 1) := by decide +kernel
theorem dX12_isLeast_1 : decode cX12_isLeast 1 = .ok (.getfield 99, 3) := by decide +kernel
theorem dX12_isLeast_4 : decode cX12_isLeast 4 = .ok (.sipush 1024, 3) := by decide +kernel
theorem dX12_isLeast_7 : decode cX12_isLeast 7 = .ok (.iload_n 1, 1) := by decide +kernel
theorem dX12_isLeast_8 : decode cX12_isLeast 8 = .ok (.imul, 1) := by decide +kernel
theorem dX12_isLeast_9 : decode cX12_isLeast 9 = .ok (.iload_n 2, 1) := by decide +kernel
theorem dX12_isLeast_10 : decode cX12_isLeast 10 = .ok (.iadd, 1) := by decide +kernel
theorem dX12_isLeast_11 : decode cX12_isLeast 11 = .ok (.iaload, 1) := by decide +kernel
theorem dX12_isLeast_12 : decode cX12_isLeast 12 = .ok (.aload_n 0, 1) := by decide +kernel
theorem dX12_isLeast_13 : decode cX12_isLeast 13 = .ok (.getfield 114, 3) := by decide +kernel
theorem dX12_isLeast_16 : decode cX12_isLeast 16 = .ok (.iload_n 3, 1) := by decide +kernel
theorem dX12_isLeast_17 : decode cX12_isLeast 17 = .ok (.iaload, 1) := by decide +kernel
theorem dX12_isLeast_18 : decode cX12_isLeast 18 = .ok (.iadd, 1) := by decide +kernel
theorem dX12_isLeast_19 : decode cX12_isLeast 19 = .ok (.aload_n 0, 1) := by decide +kernel
theorem dX12_isLeast_20 : decode cX12_isLeast 20 = .ok (.getfield 102, 3) := by decide +kernel
theorem dX12_isLeast_23 : decode cX12_isLeast 23 = .ok (.sipush 1024, 3) := by decide +kernel
theorem dX12_isLeast_26 : decode cX12_isLeast 26 = .ok (.iload_n 1, 1) := by decide +kernel
theorem dX12_isLeast_27 : decode cX12_isLeast 27 = .ok (.iconst 1, 1) := by decide +kernel
theorem dX12_isLeast_28 : decode cX12_isLeast 28 = .ok (.iadd, 1) := by decide +kernel
theorem dX12_isLeast_29 : decode cX12_isLeast 29 = .ok (.imul, 1) := by decide +kernel
theorem dX12_isLeast_30 : decode cX12_isLeast 30 = .ok (.aload_n 0, 1) := by decide +kernel
theorem dX12_isLeast_31 : decode cX12_isLeast 31 = .ok (.getfield 111, 3) := by decide +kernel
theorem dX12_isLeast_34 : decode cX12_isLeast 34 = .ok (.iload_n 3, 1) := by decide +kernel
theorem dX12_isLeast_35 : decode cX12_isLeast 35 = .ok (.iaload, 1) := by decide +kernel
theorem dX12_isLeast_36 : decode cX12_isLeast 36 = .ok (.iadd, 1) := by decide +kernel
theorem dX12_isLeast_37 : decode cX12_isLeast 37 = .ok (.iaload, 1) := by decide +kernel
theorem dX12_isLeast_38 : decode cX12_isLeast 38 = .ok (.iadd, 1) := by decide +kernel
theorem dX12_isLeast_39 : decode cX12_isLeast 39 = .ok (.aload_n 0, 1) := by decide +kernel
theorem dX12_isLeast_40 : decode cX12_isLeast 40 = .ok (.getfield 283, 3) := by decide +kernel
theorem dX12_isLeast_43 : decode cX12_isLeast 43 = .ok (.if_icmp .ne 7, 3) := by decide +kernel
theorem dX12_isLeast_46 : decode cX12_isLeast 46 = .ok (.iconst 1, 1) := by decide +kernel
theorem dX12_isLeast_47 : decode cX12_isLeast 47 = .ok (.goto 4, 3) := by decide +kernel
theorem dX12_isLeast_50 : decode cX12_isLeast 50 = .ok (.iconst 0, 1) := by decide +kernel
theorem dX12_isLeast_51 : decode cX12_isLeast 51 = .ok (.ireturn, 1) := by decide +kernel
theorem dX12_all_0 : decode cX12_all 0 = .ok (.iconst 0, 1) := by decide +kernel
theorem dX12_all_1 : decode cX12_all 1 = .ok (.istore_n 1, 1) := by decide +kernel
theorem dX12_all_2 : decode cX12_all 2 = .ok (.iconst 0, 1) := by decide +kernel
theorem dX12_all_3 : decode cX12_all 3 = .ok (.istore_n 2, 1) := by decide +kernel
theorem dX12_all_4 : decode cX12_all 4 = .ok (.iload_n 2, 1) := by decide +kernel
theorem dX12_all_5 : decode cX12_all 5 = .ok (.aload_n 0, 1) := by decide +kernel
theorem dX12_all_6 : decode cX12_all 6 = .ok (.getfield 165, 3) := by decide +kernel
theorem dX12_all_9 : decode cX12_all 9 = .ok (.if_icmp .ge 24, 3) := by decide +kernel
theorem dX12_all_12 : decode cX12_all 12 = .ok (.aload_n 0, 1) := by decide +kernel
theorem dX12_all_13 : decode cX12_all 13 = .ok (.getfield 49, 3) := by decide +kernel
theorem dX12_all_16 : decode cX12_all 16 = .ok (.iload_n 2, 1) := by decide +kernel
theorem dX12_all_17 : decode cX12_all 17 = .ok (.iaload, 1) := by decide +kernel
theorem dX12_all_18 : decode cX12_all 18 = .ok (.ifCond .ne 9, 3) := by decide +kernel
theorem dX12_all_21 : decode cX12_all 21 = .ok (.iload_n 1, 1) := by decide +kernel
theorem dX12_all_22 : decode cX12_all 22 = .ok (.iconst 1, 1) := by decide +kernel
theorem dX12_all_23 : decode cX12_all 23 = .ok (.iload_n 2, 1) := by decide +kernel
theorem dX12_all_24 : decode cX12_all 24 = .ok (.ishl, 1) := by decide +kernel
theorem dX12_all_25 : decode cX12_all 25 = .ok (.ior, 1) := by decide +kernel
theorem dX12_all_26 : decode cX12_all 26 = .ok (.istore_n 1, 1) := by decide +kernel
theorem dX12_all_27 : decode cX12_all 27 = .ok (.iinc 2 1, 3) := by decide +kernel
theorem dX12_all_30 : decode cX12_all 30 = .ok (.goto (-26), 3) := by decide +kernel
theorem dX12_all_33 : decode cX12_all 33 = .ok (.iload_n 1, 1) := by decide +kernel
theorem dX12_all_34 : decode cX12_all 34 = .ok (.ireturn, 1) := by decide +kernel
theorem dX12_least_0 : decode cX12_least 0 = .ok (.aload_n 0, 1) := by decide +kernel
theorem dX12_least_1 : decode cX12_least 1 = .ok (.aload_n 0, 1) := by decide +kernel
theorem dX12_least_2 : decode cX12_least 2 = .ok (.invokevirtual 286, 3) := by decide +kernel
theorem dX12_least_5 : decode cX12_least 5 = .ok (.iconst (-1), 1) := by decide +kernel
theorem dX12_least_6 : decode cX12_least 6 = .ok (.iconst (-1), 1) := by decide +kernel
theorem dX12_least_7 : decode cX12_least 7 = .ok (.invokevirtual 289, 3) := by decide +kernel
theorem dX12_least_10 : decode cX12_least 10 = .ok (.ifCond .eq 10, 3) := by decide +kernel
theorem dX12_least_13 : decode cX12_least 13 = .ok (.aload_n 0, 1) := by decide +kernel
theorem dX12_least_14 : decode cX12_least 14 = .ok (.getfield 283, 3) := by decide +kernel
theorem dX12_least_17 : decode cX12_least 17 = .ok (.goto 4, 3) := by decide +kernel
theorem dX12_least_20 : decode cX12_least 20 = .ok (.iconst (-1), 1) := by decide +kernel
theorem dX12_least_21 : decode cX12_least 21 = .ok (.ireturn, 1) := by decide +kernel
theorem dX12_courses_0 : decode cX12_courses 0 = .ok (.aload_n 0, 1) := by decide +kernel
theorem dX12_courses_1 : decode cX12_courses 1 = .ok (.aload_n 0, 1) := by decide +kernel
theorem dX12_courses_2 : decode cX12_courses 2 = .ok (.invokevirtual 286, 3) := by decide +kernel
theorem dX12_courses_5 : decode cX12_courses 5 = .ok (.iconst (-1), 1) := by decide +kernel
theorem dX12_courses_6 : decode cX12_courses 6 = .ok (.iconst (-1), 1) := by decide +kernel
theorem dX12_courses_7 : decode cX12_courses 7 = .ok (.invokevirtual 289, 3) := by decide +kernel
theorem dX12_courses_10 : decode cX12_courses 10 = .ok (.ifCond .ne 5, 3) := by decide +kernel
theorem dX12_courses_13 : decode cX12_courses 13 = .ok (.lconst 0, 1) := by decide +kernel
theorem dX12_courses_14 : decode cX12_courses 14 = .ok (.lreturn, 1) := by decide +kernel
theorem dX12_courses_15 : decode cX12_courses 15 = .ok (.ldc2_w 293, 3) := by decide +kernel
theorem dX12_courses_18 : decode cX12_courses 18 = .ok (.lstore_n 1, 1) := by decide +kernel
theorem dX12_courses_19 : decode cX12_courses 19 = .ok (.iconst 0, 1) := by decide +kernel
theorem dX12_courses_20 : decode cX12_courses 20 = .ok (.istore_n 3, 1) := by decide +kernel
theorem dX12_courses_21 : decode cX12_courses 21 = .ok (.iload_n 3, 1) := by decide +kernel
theorem dX12_courses_22 : decode cX12_courses 22 = .ok (.sipush 1024, 3) := by decide +kernel
theorem dX12_courses_25 : decode cX12_courses 25 = .ok (.if_icmp .ge 35, 3) := by decide +kernel
theorem dX12_courses_28 : decode cX12_courses 28 = .ok (.aload_n 0, 1) := by decide +kernel
theorem dX12_courses_29 : decode cX12_courses 29 = .ok (.getfield 129, 3) := by decide +kernel
theorem dX12_courses_32 : decode cX12_courses 32 = .ok (.iload_n 3, 1) := by decide +kernel
theorem dX12_courses_33 : decode cX12_courses 33 = .ok (.aload_n 0, 1) := by decide +kernel
theorem dX12_courses_34 : decode cX12_courses 34 = .ok (.getfield 99, 3) := by decide +kernel
theorem dX12_courses_37 : decode cX12_courses 37 = .ok (.iload_n 3, 1) := by decide +kernel
theorem dX12_courses_38 : decode cX12_courses 38 = .ok (.iaload, 1) := by decide +kernel
theorem dX12_courses_39 : decode cX12_courses 39 = .ok (.ifCond .ne 13, 3) := by decide +kernel
theorem dX12_courses_42 : decode cX12_courses 42 = .ok (.iload_n 3, 1) := by decide +kernel
theorem dX12_courses_43 : decode cX12_courses 43 = .ok (.bipush 32, 2) := by decide +kernel
theorem dX12_courses_45 : decode cX12_courses 45 = .ok (.if_icmp .ge 7, 3) := by decide +kernel
theorem dX12_courses_48 : decode cX12_courses 48 = .ok (.lconst 1, 1) := by decide +kernel
theorem dX12_courses_49 : decode cX12_courses 49 = .ok (.goto 4, 3) := by decide +kernel
theorem dX12_courses_52 : decode cX12_courses 52 = .ok (.lconst 0, 1) := by decide +kernel
theorem dX12_courses_53 : decode cX12_courses 53 = .ok (.lastore, 1) := by decide +kernel
theorem dX12_courses_54 : decode cX12_courses 54 = .ok (.iinc 3 1, 3) := by decide +kernel
theorem dX12_courses_57 : decode cX12_courses 57 = .ok (.goto (-36), 3) := by decide +kernel
theorem dX12_courses_60 : decode cX12_courses 60 = .ok (.iconst 0, 1) := by decide +kernel
theorem dX12_courses_61 : decode cX12_courses 61 = .ok (.istore_n 3, 1) := by decide +kernel
theorem dX12_courses_62 : decode cX12_courses 62 = .ok (.iload_n 3, 1) := by decide +kernel
theorem dX12_courses_63 : decode cX12_courses 63 = .ok (.bipush 12, 2) := by decide +kernel
theorem dX12_courses_65 : decode cX12_courses 65 = .ok (.if_icmp .ge 173, 3) := by decide +kernel
theorem dX12_courses_68 : decode cX12_courses 68 = .ok (.iconst 0, 1) := by decide +kernel
theorem dX12_courses_69 : decode cX12_courses 69 = .ok (.istore 4, 2) := by decide +kernel
theorem dX12_courses_71 : decode cX12_courses 71 = .ok (.iload 4, 2) := by decide +kernel
theorem dX12_courses_73 : decode cX12_courses 73 = .ok (.sipush 1024, 3) := by decide +kernel
theorem dX12_courses_76 : decode cX12_courses 76 = .ok (.if_icmp .ge 17, 3) := by decide +kernel
theorem dX12_courses_79 : decode cX12_courses 79 = .ok (.aload_n 0, 1) := by decide +kernel
theorem dX12_courses_80 : decode cX12_courses 80 = .ok (.getfield 132, 3) := by decide +kernel
theorem dX12_courses_83 : decode cX12_courses 83 = .ok (.iload 4, 2) := by decide +kernel
theorem dX12_courses_85 : decode cX12_courses 85 = .ok (.lconst 0, 1) := by decide +kernel
theorem dX12_courses_86 : decode cX12_courses 86 = .ok (.lastore, 1) := by decide +kernel
theorem dX12_courses_87 : decode cX12_courses 87 = .ok (.iinc 4 1, 3) := by decide +kernel
theorem dX12_courses_90 : decode cX12_courses 90 = .ok (.goto (-19), 3) := by decide +kernel
theorem dX12_courses_93 : decode cX12_courses 93 = .ok (.iconst 0, 1) := by decide +kernel
theorem dX12_courses_94 : decode cX12_courses 94 = .ok (.istore 4, 2) := by decide +kernel
theorem dX12_courses_96 : decode cX12_courses 96 = .ok (.iload 4, 2) := by decide +kernel
theorem dX12_courses_98 : decode cX12_courses 98 = .ok (.sipush 1024, 3) := by decide +kernel
theorem dX12_courses_101 : decode cX12_courses 101 = .ok (.if_icmp .ge 100, 3) := by decide +kernel
theorem dX12_courses_104 : decode cX12_courses 104 = .ok (.aload_n 0, 1) := by decide +kernel
theorem dX12_courses_105 : decode cX12_courses 105 = .ok (.getfield 129, 3) := by decide +kernel
theorem dX12_courses_108 : decode cX12_courses 108 = .ok (.iload 4, 2) := by decide +kernel
theorem dX12_courses_110 : decode cX12_courses 110 = .ok (.laload, 1) := by decide +kernel
theorem dX12_courses_111 : decode cX12_courses 111 = .ok (.lconst 0, 1) := by decide +kernel
theorem dX12_courses_112 : decode cX12_courses 112 = .ok (.lcmp, 1) := by decide +kernel
theorem dX12_courses_113 : decode cX12_courses 113 = .ok (.ifCond .ne 6, 3) := by decide +kernel
theorem dX12_courses_116 : decode cX12_courses 116 = .ok (.goto 79, 3) := by decide +kernel
theorem dX12_courses_119 : decode cX12_courses 119 = .ok (.aload_n 0, 1) := by decide +kernel
theorem dX12_courses_120 : decode cX12_courses 120 = .ok (.iload_n 3, 1) := by decide +kernel
theorem dX12_courses_121 : decode cX12_courses 121 = .ok (.iload 4, 2) := by decide +kernel
theorem dX12_courses_123 : decode cX12_courses 123 = .ok (.invokevirtual 275, 3) := by decide +kernel
theorem dX12_courses_126 : decode cX12_courses 126 = .ok (.iconst 0, 1) := by decide +kernel
theorem dX12_courses_127 : decode cX12_courses 127 = .ok (.istore 5, 2) := by decide +kernel
theorem dX12_courses_129 : decode cX12_courses 129 = .ok (.iload 5, 2) := by decide +kernel
theorem dX12_courses_131 : decode cX12_courses 131 = .ok (.aload_n 0, 1) := by decide +kernel
theorem dX12_courses_132 : decode cX12_courses 132 = .ok (.getfield 264, 3) := by decide +kernel
theorem dX12_courses_135 : decode cX12_courses 135 = .ok (.if_icmp .ge 60, 3) := by decide +kernel
theorem dX12_courses_138 : decode cX12_courses 138 = .ok (.aload_n 0, 1) := by decide +kernel
theorem dX12_courses_139 : decode cX12_courses 139 = .ok (.iload_n 3, 1) := by decide +kernel
theorem dX12_courses_140 : decode cX12_courses 140 = .ok (.iload 4, 2) := by decide +kernel
theorem dX12_courses_142 : decode cX12_courses 142 = .ok (.iload 5, 2) := by decide +kernel
theorem dX12_courses_144 : decode cX12_courses 144 = .ok (.invokevirtual 295, 3) := by decide +kernel
theorem dX12_courses_147 : decode cX12_courses 147 = .ok (.ifCond .ne 6, 3) := by decide +kernel
theorem dX12_courses_150 : decode cX12_courses 150 = .ok (.goto 39, 3) := by decide +kernel
theorem dX12_courses_153 : decode cX12_courses 153 = .ok (.aload_n 0, 1) := by decide +kernel
theorem dX12_courses_154 : decode cX12_courses 154 = .ok (.getfield 132, 3) := by decide +kernel
theorem dX12_courses_157 : decode cX12_courses 157 = .ok (.aload_n 0, 1) := by decide +kernel
theorem dX12_courses_158 : decode cX12_courses 158 = .ok (.getfield 111, 3) := by decide +kernel
theorem dX12_courses_161 : decode cX12_courses 161 = .ok (.iload 5, 2) := by decide +kernel
theorem dX12_courses_163 : decode cX12_courses 163 = .ok (.iaload, 1) := by decide +kernel
theorem dX12_courses_164 : decode cX12_courses 164 = .ok (.lload_n 1, 1) := by decide +kernel
theorem dX12_courses_165 : decode cX12_courses 165 = .ok (.aload_n 0, 1) := by decide +kernel
theorem dX12_courses_166 : decode cX12_courses 166 = .ok (.getfield 132, 3) := by decide +kernel
theorem dX12_courses_169 : decode cX12_courses 169 = .ok (.aload_n 0, 1) := by decide +kernel
theorem dX12_courses_170 : decode cX12_courses 170 = .ok (.getfield 111, 3) := by decide +kernel
theorem dX12_courses_173 : decode cX12_courses 173 = .ok (.iload 5, 2) := by decide +kernel
theorem dX12_courses_175 : decode cX12_courses 175 = .ok (.iaload, 1) := by decide +kernel
theorem dX12_courses_176 : decode cX12_courses 176 = .ok (.laload, 1) := by decide +kernel
theorem dX12_courses_177 : decode cX12_courses 177 = .ok (.aload_n 0, 1) := by decide +kernel
theorem dX12_courses_178 : decode cX12_courses 178 = .ok (.getfield 129, 3) := by decide +kernel
theorem dX12_courses_181 : decode cX12_courses 181 = .ok (.iload 4, 2) := by decide +kernel
theorem dX12_courses_183 : decode cX12_courses 183 = .ok (.laload, 1) := by decide +kernel
theorem dX12_courses_184 : decode cX12_courses 184 = .ok (.ladd, 1) := by decide +kernel
theorem dX12_courses_185 : decode cX12_courses 185 = .ok (.invokestatic 298, 3) := by decide +kernel
theorem dX12_courses_188 : decode cX12_courses 188 = .ok (.lastore, 1) := by decide +kernel
theorem dX12_courses_189 : decode cX12_courses 189 = .ok (.iinc 5 1, 3) := by decide +kernel
theorem dX12_courses_192 : decode cX12_courses 192 = .ok (.goto (-63), 3) := by decide +kernel
theorem dX12_courses_195 : decode cX12_courses 195 = .ok (.iinc 4 1, 3) := by decide +kernel
theorem dX12_courses_198 : decode cX12_courses 198 = .ok (.goto (-102), 3) := by decide +kernel
theorem dX12_courses_201 : decode cX12_courses 201 = .ok (.iconst 0, 1) := by decide +kernel
theorem dX12_courses_202 : decode cX12_courses 202 = .ok (.istore 4, 2) := by decide +kernel
theorem dX12_courses_204 : decode cX12_courses 204 = .ok (.iload 4, 2) := by decide +kernel
theorem dX12_courses_206 : decode cX12_courses 206 = .ok (.sipush 1024, 3) := by decide +kernel
theorem dX12_courses_209 : decode cX12_courses 209 = .ok (.if_icmp .ge 23, 3) := by decide +kernel
theorem dX12_courses_212 : decode cX12_courses 212 = .ok (.aload_n 0, 1) := by decide +kernel
theorem dX12_courses_213 : decode cX12_courses 213 = .ok (.getfield 129, 3) := by decide +kernel
theorem dX12_courses_216 : decode cX12_courses 216 = .ok (.iload 4, 2) := by decide +kernel
theorem dX12_courses_218 : decode cX12_courses 218 = .ok (.aload_n 0, 1) := by decide +kernel
theorem dX12_courses_219 : decode cX12_courses 219 = .ok (.getfield 132, 3) := by decide +kernel
theorem dX12_courses_222 : decode cX12_courses 222 = .ok (.iload 4, 2) := by decide +kernel
theorem dX12_courses_224 : decode cX12_courses 224 = .ok (.laload, 1) := by decide +kernel
theorem dX12_courses_225 : decode cX12_courses 225 = .ok (.lastore, 1) := by decide +kernel
theorem dX12_courses_226 : decode cX12_courses 226 = .ok (.iinc 4 1, 3) := by decide +kernel
theorem dX12_courses_229 : decode cX12_courses 229 = .ok (.goto (-25), 3) := by decide +kernel
theorem dX12_courses_232 : decode cX12_courses 232 = .ok (.iinc 3 1, 3) := by decide +kernel
theorem dX12_courses_235 : decode cX12_courses 235 = .ok (.goto (-173), 3) := by decide +kernel
theorem dX12_courses_238 : decode cX12_courses 238 = .ok (.lconst 0, 1) := by decide +kernel
theorem dX12_courses_239 : decode cX12_courses 239 = .ok (.lstore_n 3, 1) := by decide +kernel
theorem dX12_courses_240 : decode cX12_courses 240 = .ok (.iconst 0, 1) := by decide +kernel
theorem dX12_courses_241 : decode cX12_courses 241 = .ok (.istore 5, 2) := by decide +kernel
theorem dX12_courses_243 : decode cX12_courses 243 = .ok (.iload 5, 2) := by decide +kernel
theorem dX12_courses_245 : decode cX12_courses 245 = .ok (.sipush 1024, 3) := by decide +kernel
theorem dX12_courses_248 : decode cX12_courses 248 = .ok (.if_icmp .ge 39, 3) := by decide +kernel
theorem dX12_courses_251 : decode cX12_courses 251 = .ok (.iload 5, 2) := by decide +kernel
theorem dX12_courses_253 : decode cX12_courses 253 = .ok (.bipush 8, 2) := by decide +kernel
theorem dX12_courses_255 : decode cX12_courses 255 = .ok (.ishr, 1) := by decide +kernel
theorem dX12_courses_256 : decode cX12_courses 256 = .ok (.iconst 1, 1) := by decide +kernel
theorem dX12_courses_257 : decode cX12_courses 257 = .ok (.aload_n 0, 1) := by decide +kernel
theorem dX12_courses_258 : decode cX12_courses 258 = .ok (.getfield 257, 3) := by decide +kernel
theorem dX12_courses_261 : decode cX12_courses 261 = .ok (.ishl, 1) := by decide +kernel
theorem dX12_courses_262 : decode cX12_courses 262 = .ok (.iconst 1, 1) := by decide +kernel
theorem dX12_courses_263 : decode cX12_courses 263 = .ok (.isub, 1) := by decide +kernel
theorem dX12_courses_264 : decode cX12_courses 264 = .ok (.if_icmp .ne 17, 3) := by decide +kernel
theorem dX12_courses_267 : decode cX12_courses 267 = .ok (.lload_n 1, 1) := by decide +kernel
theorem dX12_courses_268 : decode cX12_courses 268 = .ok (.lload_n 3, 1) := by decide +kernel
theorem dX12_courses_269 : decode cX12_courses 269 = .ok (.aload_n 0, 1) := by decide +kernel
theorem dX12_courses_270 : decode cX12_courses 270 = .ok (.getfield 129, 3) := by decide +kernel
theorem dX12_courses_273 : decode cX12_courses 273 = .ok (.iload 5, 2) := by decide +kernel
theorem dX12_courses_275 : decode cX12_courses 275 = .ok (.laload, 1) := by decide +kernel
theorem dX12_courses_276 : decode cX12_courses 276 = .ok (.ladd, 1) := by decide +kernel
theorem dX12_courses_277 : decode cX12_courses 277 = .ok (.invokestatic 298, 3) := by decide +kernel
theorem dX12_courses_280 : decode cX12_courses 280 = .ok (.lstore_n 3, 1) := by decide +kernel
theorem dX12_courses_281 : decode cX12_courses 281 = .ok (.iinc 5 1, 3) := by decide +kernel
theorem dX12_courses_284 : decode cX12_courses 284 = .ok (.goto (-41), 3) := by decide +kernel
theorem dX12_courses_287 : decode cX12_courses 287 = .ok (.lload_n 3, 1) := by decide +kernel
theorem dX12_courses_288 : decode cX12_courses 288 = .ok (.lreturn, 1) := by decide +kernel
theorem dX12_doIn_0 : decode cX12_doIn 0 = .ok (.iconst 0, 1) := by decide +kernel
theorem dX12_doIn_1 : decode cX12_doIn 1 = .ok (.istore_n 3, 1) := by decide +kernel
theorem dX12_doIn_2 : decode cX12_doIn 2 = .ok (.iconst 0, 1) := by decide +kernel
theorem dX12_doIn_3 : decode cX12_doIn 3 = .ok (.istore 4, 2) := by decide +kernel
theorem dX12_doIn_5 : decode cX12_doIn 5 = .ok (.iload 4, 2) := by decide +kernel
theorem dX12_doIn_7 : decode cX12_doIn 7 = .ok (.sipush 1024, 3) := by decide +kernel
theorem dX12_doIn_10 : decode cX12_doIn 10 = .ok (.if_icmp .ge 96, 3) := by decide +kernel
theorem dX12_doIn_13 : decode cX12_doIn 13 = .ok (.aload_n 0, 1) := by decide +kernel
theorem dX12_doIn_14 : decode cX12_doIn 14 = .ok (.getfield 99, 3) := by decide +kernel
theorem dX12_doIn_17 : decode cX12_doIn 17 = .ok (.sipush 1024, 3) := by decide +kernel
theorem dX12_doIn_20 : decode cX12_doIn 20 = .ok (.iload_n 2, 1) := by decide +kernel
theorem dX12_doIn_21 : decode cX12_doIn 21 = .ok (.imul, 1) := by decide +kernel
theorem dX12_doIn_22 : decode cX12_doIn 22 = .ok (.iload 4, 2) := by decide +kernel
theorem dX12_doIn_24 : decode cX12_doIn 24 = .ok (.iadd, 1) := by decide +kernel
theorem dX12_doIn_25 : decode cX12_doIn 25 = .ok (.iaload, 1) := by decide +kernel
theorem dX12_doIn_26 : decode cX12_doIn 26 = .ok (.ldc_w 274, 3) := by decide +kernel
theorem dX12_doIn_29 : decode cX12_doIn 29 = .ok (.if_icmp .ne 6, 3) := by decide +kernel
theorem dX12_doIn_32 : decode cX12_doIn 32 = .ok (.goto 68, 3) := by decide +kernel
theorem dX12_doIn_35 : decode cX12_doIn 35 = .ok (.aload_n 0, 1) := by decide +kernel
theorem dX12_doIn_36 : decode cX12_doIn 36 = .ok (.iload_n 2, 1) := by decide +kernel
theorem dX12_doIn_37 : decode cX12_doIn 37 = .ok (.iload 4, 2) := by decide +kernel
theorem dX12_doIn_39 : decode cX12_doIn 39 = .ok (.invokevirtual 275, 3) := by decide +kernel
theorem dX12_doIn_42 : decode cX12_doIn 42 = .ok (.iconst 0, 1) := by decide +kernel
theorem dX12_doIn_43 : decode cX12_doIn 43 = .ok (.istore 5, 2) := by decide +kernel
theorem dX12_doIn_45 : decode cX12_doIn 45 = .ok (.iload 5, 2) := by decide +kernel
theorem dX12_doIn_47 : decode cX12_doIn 47 = .ok (.aload_n 0, 1) := by decide +kernel
theorem dX12_doIn_48 : decode cX12_doIn 48 = .ok (.getfield 264, 3) := by decide +kernel
theorem dX12_doIn_51 : decode cX12_doIn 51 = .ok (.if_icmp .ge 49, 3) := by decide +kernel
theorem dX12_doIn_54 : decode cX12_doIn 54 = .ok (.aload_n 0, 1) := by decide +kernel
theorem dX12_doIn_55 : decode cX12_doIn 55 = .ok (.iload_n 2, 1) := by decide +kernel
theorem dX12_doIn_56 : decode cX12_doIn 56 = .ok (.iload 4, 2) := by decide +kernel
theorem dX12_doIn_58 : decode cX12_doIn 58 = .ok (.iload 5, 2) := by decide +kernel
theorem dX12_doIn_60 : decode cX12_doIn 60 = .ok (.invokevirtual 295, 3) := by decide +kernel
theorem dX12_doIn_63 : decode cX12_doIn 63 = .ok (.ifCond .eq 31, 3) := by decide +kernel
theorem dX12_doIn_66 : decode cX12_doIn 66 = .ok (.iload_n 3, 1) := by decide +kernel
theorem dX12_doIn_67 : decode cX12_doIn 67 = .ok (.aload_n 0, 1) := by decide +kernel
theorem dX12_doIn_68 : decode cX12_doIn 68 = .ok (.getfield 72, 3) := by decide +kernel
theorem dX12_doIn_71 : decode cX12_doIn 71 = .ok (.aload_n 0, 1) := by decide +kernel
theorem dX12_doIn_72 : decode cX12_doIn 72 = .ok (.getfield 105, 3) := by decide +kernel
theorem dX12_doIn_75 : decode cX12_doIn 75 = .ok (.iload 5, 2) := by decide +kernel
theorem dX12_doIn_77 : decode cX12_doIn 77 = .ok (.iaload, 1) := by decide +kernel
theorem dX12_doIn_78 : decode cX12_doIn 78 = .ok (.iaload, 1) := by decide +kernel
theorem dX12_doIn_79 : decode cX12_doIn 79 = .ok (.iload_n 1, 1) := by decide +kernel
theorem dX12_doIn_80 : decode cX12_doIn 80 = .ok (.ishr, 1) := by decide +kernel
theorem dX12_doIn_81 : decode cX12_doIn 81 = .ok (.iconst 1, 1) := by decide +kernel
theorem dX12_doIn_82 : decode cX12_doIn 82 = .ok (.iand, 1) := by decide +kernel
theorem dX12_doIn_83 : decode cX12_doIn 83 = .ok (.iconst 1, 1) := by decide +kernel
theorem dX12_doIn_84 : decode cX12_doIn 84 = .ok (.if_icmp .ne 7, 3) := by decide +kernel
theorem dX12_doIn_87 : decode cX12_doIn 87 = .ok (.iconst 2, 1) := by decide +kernel
theorem dX12_doIn_88 : decode cX12_doIn 88 = .ok (.goto 4, 3) := by decide +kernel
theorem dX12_doIn_91 : decode cX12_doIn 91 = .ok (.iconst 1, 1) := by decide +kernel
theorem dX12_doIn_92 : decode cX12_doIn 92 = .ok (.ior, 1) := by decide +kernel
theorem dX12_doIn_93 : decode cX12_doIn 93 = .ok (.istore_n 3, 1) := by decide +kernel
theorem dX12_doIn_94 : decode cX12_doIn 94 = .ok (.iinc 5 1, 3) := by decide +kernel
theorem dX12_doIn_97 : decode cX12_doIn 97 = .ok (.goto (-52), 3) := by decide +kernel
theorem dX12_doIn_100 : decode cX12_doIn 100 = .ok (.iinc 4 1, 3) := by decide +kernel
theorem dX12_doIn_103 : decode cX12_doIn 103 = .ok (.goto (-98), 3) := by decide +kernel
theorem dX12_doIn_106 : decode cX12_doIn 106 = .ok (.iload_n 3, 1) := by decide +kernel
theorem dX12_doIn_107 : decode cX12_doIn 107 = .ok (.ireturn, 1) := by decide +kernel
theorem dX12_isOf_0 : decode cX12_isOf 0 = .ok (.aload_n 0, 1) := by decide +kernel
theorem dX12_isOf_1 : decode cX12_isOf 1 = .ok (.iload_n 1, 1) := by decide +kernel
theorem dX12_isOf_2 : decode cX12_isOf 2 = .ok (.iload_n 2, 1) := by decide +kernel
theorem dX12_isOf_3 : decode cX12_isOf 3 = .ok (.invokevirtual 301, 3) := by decide +kernel
theorem dX12_isOf_6 : decode cX12_isOf 6 = .ok (.istore_n 3, 1) := by decide +kernel
theorem dX12_isOf_7 : decode cX12_isOf 7 = .ok (.iload_n 3, 1) := by decide +kernel
theorem dX12_isOf_8 : decode cX12_isOf 8 = .ok (.iconst 3, 1) := by decide +kernel
theorem dX12_isOf_9 : decode cX12_isOf 9 = .ok (.if_icmp .ne 7, 3) := by decide +kernel
theorem dX12_isOf_12 : decode cX12_isOf 12 = .ok (.iconst 2, 1) := by decide +kernel
theorem dX12_isOf_13 : decode cX12_isOf 13 = .ok (.goto 13, 3) := by decide +kernel
theorem dX12_isOf_16 : decode cX12_isOf 16 = .ok (.iload_n 3, 1) := by decide +kernel
theorem dX12_isOf_17 : decode cX12_isOf 17 = .ok (.iconst 2, 1) := by decide +kernel
theorem dX12_isOf_18 : decode cX12_isOf 18 = .ok (.if_icmp .ne 7, 3) := by decide +kernel
theorem dX12_isOf_21 : decode cX12_isOf 21 = .ok (.iconst 1, 1) := by decide +kernel
theorem dX12_isOf_22 : decode cX12_isOf 22 = .ok (.goto 4, 3) := by decide +kernel
theorem dX12_isOf_25 : decode cX12_isOf 25 = .ok (.iconst 0, 1) := by decide +kernel
theorem dX12_isOf_26 : decode cX12_isOf 26 = .ok (.ireturn, 1) := by decide +kernel
theorem dX12_is_0 : decode cX12_is 0 = .ok (.aload_n 0, 1) := by decide +kernel
theorem dX12_is_1 : decode cX12_is 1 = .ok (.iload_n 1, 1) := by decide +kernel
theorem dX12_is_2 : decode cX12_is 2 = .ok (.invokevirtual 191, 3) := by decide +kernel
theorem dX12_is_5 : decode cX12_is 5 = .ok (.ifCond .eq 24, 3) := by decide +kernel
theorem dX12_is_8 : decode cX12_is 8 = .ok (.aload_n 0, 1) := by decide +kernel
theorem dX12_is_9 : decode cX12_is 9 = .ok (.iload_n 2, 1) := by decide +kernel
theorem dX12_is_10 : decode cX12_is 10 = .ok (.invokevirtual 168, 3) := by decide +kernel
theorem dX12_is_13 : decode cX12_is 13 = .ok (.ifCond .eq 16, 3) := by decide +kernel
theorem dX12_is_16 : decode cX12_is 16 = .ok (.aload_n 0, 1) := by decide +kernel
theorem dX12_is_17 : decode cX12_is 17 = .ok (.aload_n 0, 1) := by decide +kernel
theorem dX12_is_18 : decode cX12_is 18 = .ok (.invokevirtual 286, 3) := by decide +kernel
theorem dX12_is_21 : decode cX12_is 21 = .ok (.iconst (-1), 1) := by decide +kernel
theorem dX12_is_22 : decode cX12_is 22 = .ok (.iconst (-1), 1) := by decide +kernel
theorem dX12_is_23 : decode cX12_is 23 = .ok (.invokevirtual 289, 3) := by decide +kernel
theorem dX12_is_26 : decode cX12_is 26 = .ok (.ifCond .ne 5, 3) := by decide +kernel
theorem dX12_is_29 : decode cX12_is 29 = .ok (.iconst (-1), 1) := by decide +kernel
theorem dX12_is_30 : decode cX12_is 30 = .ok (.ireturn, 1) := by decide +kernel
theorem dX12_is_31 : decode cX12_is 31 = .ok (.aload_n 0, 1) := by decide +kernel
theorem dX12_is_32 : decode cX12_is 32 = .ok (.iload_n 1, 1) := by decide +kernel
theorem dX12_is_33 : decode cX12_is 33 = .ok (.iload_n 2, 1) := by decide +kernel
theorem dX12_is_34 : decode cX12_is 34 = .ok (.invokevirtual 304, 3) := by decide +kernel
theorem dX12_is_37 : decode cX12_is 37 = .ok (.ireturn, 1) := by decide +kernel
theorem dX12_value_0 : decode cX12_value 0 = .ok (.aload_n 0, 1) := by decide +kernel
theorem dX12_value_1 : decode cX12_value 1 = .ok (.iload_n 1, 1) := by decide +kernel
theorem dX12_value_2 : decode cX12_value 2 = .ok (.invokevirtual 191, 3) := by decide +kernel
theorem dX12_value_5 : decode cX12_value 5 = .ok (.ifCond .eq 34, 3) := by decide +kernel
theorem dX12_value_8 : decode cX12_value 8 = .ok (.aload_n 0, 1) := by decide +kernel
theorem dX12_value_9 : decode cX12_value 9 = .ok (.getfield 7, 3) := by decide +kernel
theorem dX12_value_12 : decode cX12_value 12 = .ok (.iload_n 1, 1) := by decide +kernel
theorem dX12_value_13 : decode cX12_value 13 = .ok (.iaload, 1) := by decide +kernel
theorem dX12_value_14 : decode cX12_value 14 = .ok (.iconst 3, 1) := by decide +kernel
theorem dX12_value_15 : decode cX12_value 15 = .ok (.if_icmp .ne 24, 3) := by decide +kernel
theorem dX12_value_18 : decode cX12_value 18 = .ok (.aload_n 0, 1) := by decide +kernel
theorem dX12_value_19 : decode cX12_value 19 = .ok (.iload_n 2, 1) := by decide +kernel
theorem dX12_value_20 : decode cX12_value 20 = .ok (.invokevirtual 168, 3) := by decide +kernel
theorem dX12_value_23 : decode cX12_value 23 = .ok (.ifCond .eq 16, 3) := by decide +kernel
theorem dX12_value_26 : decode cX12_value 26 = .ok (.aload_n 0, 1) := by decide +kernel
theorem dX12_value_27 : decode cX12_value 27 = .ok (.aload_n 0, 1) := by decide +kernel
theorem dX12_value_28 : decode cX12_value 28 = .ok (.invokevirtual 286, 3) := by decide +kernel
theorem dX12_value_31 : decode cX12_value 31 = .ok (.iconst (-1), 1) := by decide +kernel
theorem dX12_value_32 : decode cX12_value 32 = .ok (.iconst (-1), 1) := by decide +kernel
theorem dX12_value_33 : decode cX12_value 33 = .ok (.invokevirtual 289, 3) := by decide +kernel
theorem dX12_value_36 : decode cX12_value 36 = .ok (.ifCond .ne 5, 3) := by decide +kernel
theorem dX12_value_39 : decode cX12_value 39 = .ok (.iconst (-1), 1) := by decide +kernel
theorem dX12_value_40 : decode cX12_value 40 = .ok (.ireturn, 1) := by decide +kernel
theorem dX12_value_41 : decode cX12_value 41 = .ok (.iconst (-1), 1) := by decide +kernel
theorem dX12_value_42 : decode cX12_value 42 = .ok (.istore_n 3, 1) := by decide +kernel
theorem dX12_value_43 : decode cX12_value 43 = .ok (.bipush 9, 2) := by decide +kernel
theorem dX12_value_45 : decode cX12_value 45 = .ok (.istore 4, 2) := by decide +kernel
theorem dX12_value_47 : decode cX12_value 47 = .ok (.iconst 0, 1) := by decide +kernel
theorem dX12_value_48 : decode cX12_value 48 = .ok (.istore 5, 2) := by decide +kernel
theorem dX12_value_50 : decode cX12_value 50 = .ok (.iload 5, 2) := by decide +kernel
theorem dX12_value_52 : decode cX12_value 52 = .ok (.sipush 1024, 3) := by decide +kernel
theorem dX12_value_55 : decode cX12_value 55 = .ok (.if_icmp .ge 91, 3) := by decide +kernel
theorem dX12_value_58 : decode cX12_value 58 = .ok (.aload_n 0, 1) := by decide +kernel
theorem dX12_value_59 : decode cX12_value 59 = .ok (.getfield 99, 3) := by decide +kernel
theorem dX12_value_62 : decode cX12_value 62 = .ok (.sipush 1024, 3) := by decide +kernel
theorem dX12_value_65 : decode cX12_value 65 = .ok (.iload_n 2, 1) := by decide +kernel
theorem dX12_value_66 : decode cX12_value 66 = .ok (.imul, 1) := by decide +kernel
theorem dX12_value_67 : decode cX12_value 67 = .ok (.iload 5, 2) := by decide +kernel
theorem dX12_value_69 : decode cX12_value 69 = .ok (.iadd, 1) := by decide +kernel
theorem dX12_value_70 : decode cX12_value 70 = .ok (.iaload, 1) := by decide +kernel
theorem dX12_value_71 : decode cX12_value 71 = .ok (.ldc_w 274, 3) := by decide +kernel
theorem dX12_value_74 : decode cX12_value 74 = .ok (.if_icmp .eq 66, 3) := by decide +kernel
theorem dX12_value_77 : decode cX12_value 77 = .ok (.aload_n 0, 1) := by decide +kernel
theorem dX12_value_78 : decode cX12_value 78 = .ok (.getfield 99, 3) := by decide +kernel
theorem dX12_value_81 : decode cX12_value 81 = .ok (.sipush 1024, 3) := by decide +kernel
theorem dX12_value_84 : decode cX12_value 84 = .ok (.iload_n 2, 1) := by decide +kernel
theorem dX12_value_85 : decode cX12_value 85 = .ok (.imul, 1) := by decide +kernel
theorem dX12_value_86 : decode cX12_value 86 = .ok (.iload 5, 2) := by decide +kernel
theorem dX12_value_88 : decode cX12_value 88 = .ok (.iadd, 1) := by decide +kernel
theorem dX12_value_89 : decode cX12_value 89 = .ok (.iaload, 1) := by decide +kernel
theorem dX12_value_90 : decode cX12_value 90 = .ok (.aload_n 0, 1) := by decide +kernel
theorem dX12_value_91 : decode cX12_value 91 = .ok (.getfield 102, 3) := by decide +kernel
theorem dX12_value_94 : decode cX12_value 94 = .ok (.sipush 1024, 3) := by decide +kernel
theorem dX12_value_97 : decode cX12_value 97 = .ok (.iload_n 2, 1) := by decide +kernel
theorem dX12_value_98 : decode cX12_value 98 = .ok (.imul, 1) := by decide +kernel
theorem dX12_value_99 : decode cX12_value 99 = .ok (.iload 5, 2) := by decide +kernel
theorem dX12_value_101 : decode cX12_value 101 = .ok (.iadd, 1) := by decide +kernel
theorem dX12_value_102 : decode cX12_value 102 = .ok (.iaload, 1) := by decide +kernel
theorem dX12_value_103 : decode cX12_value 103 = .ok (.iadd, 1) := by decide +kernel
theorem dX12_value_104 : decode cX12_value 104 = .ok (.aload_n 0, 1) := by decide +kernel
theorem dX12_value_105 : decode cX12_value 105 = .ok (.getfield 283, 3) := by decide +kernel
theorem dX12_value_108 : decode cX12_value 108 = .ok (.if_icmp .eq 6, 3) := by decide +kernel
theorem dX12_value_111 : decode cX12_value 111 = .ok (.goto 29, 3) := by decide +kernel
theorem dX12_value_114 : decode cX12_value 114 = .ok (.iload_n 3, 1) := by decide +kernel
theorem dX12_value_115 : decode cX12_value 115 = .ok (.iload 5, 2) := by decide +kernel
theorem dX12_value_117 : decode cX12_value 117 = .ok (.iconst 5, 1) := by decide +kernel
theorem dX12_value_118 : decode cX12_value 118 = .ok (.ishr, 1) := by decide +kernel
theorem dX12_value_119 : decode cX12_value 119 = .ok (.bipush 7, 2) := by decide +kernel
theorem dX12_value_121 : decode cX12_value 121 = .ok (.iand, 1) := by decide +kernel
theorem dX12_value_122 : decode cX12_value 122 = .ok (.invokestatic 307, 3) := by decide +kernel
theorem dX12_value_125 : decode cX12_value 125 = .ok (.istore_n 3, 1) := by decide +kernel
theorem dX12_value_126 : decode cX12_value 126 = .ok (.iload 4, 2) := by decide +kernel
theorem dX12_value_128 : decode cX12_value 128 = .ok (.iload 5, 2) := by decide +kernel
theorem dX12_value_130 : decode cX12_value 130 = .ok (.iconst 5, 1) := by decide +kernel
theorem dX12_value_131 : decode cX12_value 131 = .ok (.ishr, 1) := by decide +kernel
theorem dX12_value_132 : decode cX12_value 132 = .ok (.bipush 7, 2) := by decide +kernel
theorem dX12_value_134 : decode cX12_value 134 = .ok (.iand, 1) := by decide +kernel
theorem dX12_value_135 : decode cX12_value 135 = .ok (.invokestatic 278, 3) := by decide +kernel
theorem dX12_value_138 : decode cX12_value 138 = .ok (.istore 4, 2) := by decide +kernel
theorem dX12_value_140 : decode cX12_value 140 = .ok (.iinc 5 1, 3) := by decide +kernel
theorem dX12_value_143 : decode cX12_value 143 = .ok (.goto (-93), 3) := by decide +kernel
theorem dX12_value_146 : decode cX12_value 146 = .ok (.bipush 10, 2) := by decide +kernel
theorem dX12_value_148 : decode cX12_value 148 = .ok (.iload_n 3, 1) := by decide +kernel
theorem dX12_value_149 : decode cX12_value 149 = .ok (.imul, 1) := by decide +kernel
theorem dX12_value_150 : decode cX12_value 150 = .ok (.iload 4, 2) := by decide +kernel
theorem dX12_value_152 : decode cX12_value 152 = .ok (.iadd, 1) := by decide +kernel
theorem dX12_value_153 : decode cX12_value 153 = .ok (.ireturn, 1) := by decide +kernel
theorem dX12_why_0 : decode cX12_why 0 = .ok (.aload_n 0, 1) := by decide +kernel
theorem dX12_why_1 : decode cX12_why 1 = .ok (.iload_n 1, 1) := by decide +kernel
theorem dX12_why_2 : decode cX12_why 2 = .ok (.iload_n 2, 1) := by decide +kernel
theorem dX12_why_3 : decode cX12_why 3 = .ok (.invokevirtual 310, 3) := by decide +kernel
theorem dX12_why_6 : decode cX12_why 6 = .ok (.istore_n 3, 1) := by decide +kernel
theorem dX12_why_7 : decode cX12_why 7 = .ok (.iload_n 3, 1) := by decide +kernel
theorem dX12_why_8 : decode cX12_why 8 = .ok (.ifCond .lt 8, 3) := by decide +kernel
theorem dX12_why_11 : decode cX12_why 11 = .ok (.iload_n 3, 1) := by decide +kernel
theorem dX12_why_12 : decode cX12_why 12 = .ok (.iconst 2, 1) := by decide +kernel
theorem dX12_why_13 : decode cX12_why 13 = .ok (.if_icmp .ne 5, 3) := by decide +kernel
theorem dX12_why_16 : decode cX12_why 16 = .ok (.iconst (-1), 1) := by decide +kernel
theorem dX12_why_17 : decode cX12_why 17 = .ok (.ireturn, 1) := by decide +kernel
theorem dX12_why_18 : decode cX12_why 18 = .ok (.aload_n 0, 1) := by decide +kernel
theorem dX12_why_19 : decode cX12_why 19 = .ok (.invokevirtual 286, 3) := by decide +kernel
theorem dX12_why_22 : decode cX12_why 22 = .ok (.istore 4, 2) := by decide +kernel
theorem dX12_why_24 : decode cX12_why 24 = .ok (.iconst 0, 1) := by decide +kernel
theorem dX12_why_25 : decode cX12_why 25 = .ok (.istore 5, 2) := by decide +kernel
theorem dX12_why_27 : decode cX12_why 27 = .ok (.iload 5, 2) := by decide +kernel
theorem dX12_why_29 : decode cX12_why 29 = .ok (.aload_n 0, 1) := by decide +kernel
theorem dX12_why_30 : decode cX12_why 30 = .ok (.getfield 165, 3) := by decide +kernel
theorem dX12_why_33 : decode cX12_why 33 = .ok (.if_icmp .ge 58, 3) := by decide +kernel
theorem dX12_why_36 : decode cX12_why 36 = .ok (.iload 4, 2) := by decide +kernel
theorem dX12_why_38 : decode cX12_why 38 = .ok (.iload 5, 2) := by decide +kernel
theorem dX12_why_40 : decode cX12_why 40 = .ok (.ishr, 1) := by decide +kernel
theorem dX12_why_41 : decode cX12_why 41 = .ok (.iconst 1, 1) := by decide +kernel
theorem dX12_why_42 : decode cX12_why 42 = .ok (.iand, 1) := by decide +kernel
theorem dX12_why_43 : decode cX12_why 43 = .ok (.ifCond .ne 6, 3) := by decide +kernel
theorem dX12_why_46 : decode cX12_why 46 = .ok (.goto 39, 3) := by decide +kernel
theorem dX12_why_49 : decode cX12_why 49 = .ok (.iload 4, 2) := by decide +kernel
theorem dX12_why_51 : decode cX12_why 51 = .ok (.iconst 1, 1) := by decide +kernel
theorem dX12_why_52 : decode cX12_why 52 = .ok (.iload 5, 2) := by decide +kernel
theorem dX12_why_54 : decode cX12_why 54 = .ok (.ishl, 1) := by decide +kernel
theorem dX12_why_55 : decode cX12_why 55 = .ok (.iconst (-1), 1) := by decide +kernel
theorem dX12_why_56 : decode cX12_why 56 = .ok (.ixor, 1) := by decide +kernel
theorem dX12_why_57 : decode cX12_why 57 = .ok (.iand, 1) := by decide +kernel
theorem dX12_why_58 : decode cX12_why 58 = .ok (.istore 6, 2) := by decide +kernel
theorem dX12_why_60 : decode cX12_why 60 = .ok (.aload_n 0, 1) := by decide +kernel
theorem dX12_why_61 : decode cX12_why 61 = .ok (.iload 6, 2) := by decide +kernel
theorem dX12_why_63 : decode cX12_why 63 = .ok (.iconst (-1), 1) := by decide +kernel
theorem dX12_why_64 : decode cX12_why 64 = .ok (.iconst (-1), 1) := by decide +kernel
theorem dX12_why_65 : decode cX12_why 65 = .ok (.invokevirtual 289, 3) := by decide +kernel
theorem dX12_why_68 : decode cX12_why 68 = .ok (.ifCond .eq 17, 3) := by decide +kernel
theorem dX12_why_71 : decode cX12_why 71 = .ok (.aload_n 0, 1) := by decide +kernel
theorem dX12_why_72 : decode cX12_why 72 = .ok (.iload_n 1, 1) := by decide +kernel
theorem dX12_why_73 : decode cX12_why 73 = .ok (.iload_n 2, 1) := by decide +kernel
theorem dX12_why_74 : decode cX12_why 74 = .ok (.invokevirtual 304, 3) := by decide +kernel
theorem dX12_why_77 : decode cX12_why 77 = .ok (.iload_n 3, 1) := by decide +kernel
theorem dX12_why_78 : decode cX12_why 78 = .ok (.if_icmp .ne 7, 3) := by decide +kernel
theorem dX12_why_81 : decode cX12_why 81 = .ok (.iload 6, 2) := by decide +kernel
theorem dX12_why_83 : decode cX12_why 83 = .ok (.istore 4, 2) := by decide +kernel
theorem dX12_why_85 : decode cX12_why 85 = .ok (.iinc 5 1, 3) := by decide +kernel
theorem dX12_why_88 : decode cX12_why 88 = .ok (.goto (-61), 3) := by decide +kernel
theorem dX12_why_91 : decode cX12_why 91 = .ok (.iload 4, 2) := by decide +kernel
theorem dX12_why_93 : decode cX12_why 93 = .ok (.ireturn, 1) := by decide +kernel
theorem dX12_quarrel_0 : decode cX12_quarrel 0 = .ok (.aload_n 0, 1) := by decide +kernel
theorem dX12_quarrel_1 : decode cX12_quarrel 1 = .ok (.invokevirtual 286, 3) := by decide +kernel
theorem dX12_quarrel_4 : decode cX12_quarrel 4 = .ok (.istore_n 1, 1) := by decide +kernel
theorem dX12_quarrel_5 : decode cX12_quarrel 5 = .ok (.aload_n 0, 1) := by decide +kernel
theorem dX12_quarrel_6 : decode cX12_quarrel 6 = .ok (.iload_n 1, 1) := by decide +kernel
theorem dX12_quarrel_7 : decode cX12_quarrel 7 = .ok (.iconst (-1), 1) := by decide +kernel
theorem dX12_quarrel_8 : decode cX12_quarrel 8 = .ok (.iconst (-1), 1) := by decide +kernel
theorem dX12_quarrel_9 : decode cX12_quarrel 9 = .ok (.invokevirtual 289, 3) := by decide +kernel
theorem dX12_quarrel_12 : decode cX12_quarrel 12 = .ok (.ifCond .eq 5, 3) := by decide +kernel
theorem dX12_quarrel_15 : decode cX12_quarrel 15 = .ok (.iconst 0, 1) := by decide +kernel
theorem dX12_quarrel_16 : decode cX12_quarrel 16 = .ok (.ireturn, 1) := by decide +kernel
theorem dX12_quarrel_17 : decode cX12_quarrel 17 = .ok (.iconst 0, 1) := by decide +kernel
theorem dX12_quarrel_18 : decode cX12_quarrel 18 = .ok (.istore_n 2, 1) := by decide +kernel
theorem dX12_quarrel_19 : decode cX12_quarrel 19 = .ok (.iload_n 2, 1) := by decide +kernel
theorem dX12_quarrel_20 : decode cX12_quarrel 20 = .ok (.aload_n 0, 1) := by decide +kernel
theorem dX12_quarrel_21 : decode cX12_quarrel 21 = .ok (.getfield 165, 3) := by decide +kernel
theorem dX12_quarrel_24 : decode cX12_quarrel 24 = .ok (.if_icmp .ge 40, 3) := by decide +kernel
theorem dX12_quarrel_27 : decode cX12_quarrel 27 = .ok (.iload_n 1, 1) := by decide +kernel
theorem dX12_quarrel_28 : decode cX12_quarrel 28 = .ok (.iload_n 2, 1) := by decide +kernel
theorem dX12_quarrel_29 : decode cX12_quarrel 29 = .ok (.ishr, 1) := by decide +kernel
theorem dX12_quarrel_30 : decode cX12_quarrel 30 = .ok (.iconst 1, 1) := by decide +kernel
theorem dX12_quarrel_31 : decode cX12_quarrel 31 = .ok (.iand, 1) := by decide +kernel
theorem dX12_quarrel_32 : decode cX12_quarrel 32 = .ok (.ifCond .ne 6, 3) := by decide +kernel
theorem dX12_quarrel_35 : decode cX12_quarrel 35 = .ok (.goto 23, 3) := by decide +kernel
theorem dX12_quarrel_38 : decode cX12_quarrel 38 = .ok (.iload_n 1, 1) := by decide +kernel
theorem dX12_quarrel_39 : decode cX12_quarrel 39 = .ok (.iconst 1, 1) := by decide +kernel
theorem dX12_quarrel_40 : decode cX12_quarrel 40 = .ok (.iload_n 2, 1) := by decide +kernel
theorem dX12_quarrel_41 : decode cX12_quarrel 41 = .ok (.ishl, 1) := by decide +kernel
theorem dX12_quarrel_42 : decode cX12_quarrel 42 = .ok (.iconst (-1), 1) := by decide +kernel
theorem dX12_quarrel_43 : decode cX12_quarrel 43 = .ok (.ixor, 1) := by decide +kernel
theorem dX12_quarrel_44 : decode cX12_quarrel 44 = .ok (.iand, 1) := by decide +kernel
theorem dX12_quarrel_45 : decode cX12_quarrel 45 = .ok (.istore_n 3, 1) := by decide +kernel
theorem dX12_quarrel_46 : decode cX12_quarrel 46 = .ok (.aload_n 0, 1) := by decide +kernel
theorem dX12_quarrel_47 : decode cX12_quarrel 47 = .ok (.iload_n 3, 1) := by decide +kernel
theorem dX12_quarrel_48 : decode cX12_quarrel 48 = .ok (.iconst (-1), 1) := by decide +kernel
theorem dX12_quarrel_49 : decode cX12_quarrel 49 = .ok (.iconst (-1), 1) := by decide +kernel
theorem dX12_quarrel_50 : decode cX12_quarrel 50 = .ok (.invokevirtual 289, 3) := by decide +kernel
theorem dX12_quarrel_53 : decode cX12_quarrel 53 = .ok (.ifCond .ne 5, 3) := by decide +kernel
theorem dX12_quarrel_56 : decode cX12_quarrel 56 = .ok (.iload_n 3, 1) := by decide +kernel
theorem dX12_quarrel_57 : decode cX12_quarrel 57 = .ok (.istore_n 1, 1) := by decide +kernel
theorem dX12_quarrel_58 : decode cX12_quarrel 58 = .ok (.iinc 2 1, 3) := by decide +kernel
theorem dX12_quarrel_61 : decode cX12_quarrel 61 = .ok (.goto (-42), 3) := by decide +kernel
theorem dX12_quarrel_64 : decode cX12_quarrel 64 = .ok (.iload_n 1, 1) := by decide +kernel
theorem dX12_quarrel_65 : decode cX12_quarrel 65 = .ok (.ireturn, 1) := by decide +kernel
theorem dX12_out_0 : decode cX12_out 0 = .ok (.aload_n 0, 1) := by decide +kernel
theorem dX12_out_1 : decode cX12_out 1 = .ok (.invokevirtual 286, 3) := by decide +kernel
theorem dX12_out_4 : decode cX12_out 4 = .ok (.istore_n 1, 1) := by decide +kernel
theorem dX12_out_5 : decode cX12_out 5 = .ok (.aload_n 0, 1) := by decide +kernel
theorem dX12_out_6 : decode cX12_out 6 = .ok (.iload_n 1, 1) := by decide +kernel
theorem dX12_out_7 : decode cX12_out 7 = .ok (.iconst (-1), 1) := by decide +kernel
theorem dX12_out_8 : decode cX12_out 8 = .ok (.iconst (-1), 1) := by decide +kernel
theorem dX12_out_9 : decode cX12_out 9 = .ok (.invokevirtual 289, 3) := by decide +kernel
theorem dX12_out_12 : decode cX12_out 12 = .ok (.ifCond .eq 5, 3) := by decide +kernel
theorem dX12_out_15 : decode cX12_out 15 = .ok (.iconst (-1), 1) := by decide +kernel
theorem dX12_out_16 : decode cX12_out 16 = .ok (.ireturn, 1) := by decide +kernel
theorem dX12_out_17 : decode cX12_out 17 = .ok (.iconst (-1), 1) := by decide +kernel
theorem dX12_out_18 : decode cX12_out 18 = .ok (.istore_n 2, 1) := by decide +kernel
theorem dX12_out_19 : decode cX12_out 19 = .ok (.iconst 0, 1) := by decide +kernel
theorem dX12_out_20 : decode cX12_out 20 = .ok (.istore_n 3, 1) := by decide +kernel
theorem dX12_out_21 : decode cX12_out 21 = .ok (.iload_n 3, 1) := by decide +kernel
theorem dX12_out_22 : decode cX12_out 22 = .ok (.aload_n 0, 1) := by decide +kernel
theorem dX12_out_23 : decode cX12_out 23 = .ok (.getfield 165, 3) := by decide +kernel
theorem dX12_out_26 : decode cX12_out 26 = .ok (.if_icmp .ge 67, 3) := by decide +kernel
theorem dX12_out_29 : decode cX12_out 29 = .ok (.iload_n 1, 1) := by decide +kernel
theorem dX12_out_30 : decode cX12_out 30 = .ok (.iload_n 3, 1) := by decide +kernel
theorem dX12_out_31 : decode cX12_out 31 = .ok (.ishr, 1) := by decide +kernel
theorem dX12_out_32 : decode cX12_out 32 = .ok (.iconst 1, 1) := by decide +kernel
theorem dX12_out_33 : decode cX12_out 33 = .ok (.iand, 1) := by decide +kernel
theorem dX12_out_34 : decode cX12_out 34 = .ok (.ifCond .eq 53, 3) := by decide +kernel
theorem dX12_out_37 : decode cX12_out 37 = .ok (.iload_n 2, 1) := by decide +kernel
theorem dX12_out_38 : decode cX12_out 38 = .ok (.ifCond .lt 31, 3) := by decide +kernel
theorem dX12_out_41 : decode cX12_out 41 = .ok (.aload_n 0, 1) := by decide +kernel
theorem dX12_out_42 : decode cX12_out 42 = .ok (.getfield 52, 3) := by decide +kernel
theorem dX12_out_45 : decode cX12_out 45 = .ok (.aload_n 0, 1) := by decide +kernel
theorem dX12_out_46 : decode cX12_out 46 = .ok (.getfield 46, 3) := by decide +kernel
theorem dX12_out_49 : decode cX12_out 49 = .ok (.iload_n 3, 1) := by decide +kernel
theorem dX12_out_50 : decode cX12_out 50 = .ok (.iaload, 1) := by decide +kernel
theorem dX12_out_51 : decode cX12_out 51 = .ok (.iaload, 1) := by decide +kernel
theorem dX12_out_52 : decode cX12_out 52 = .ok (.aload_n 0, 1) := by decide +kernel
theorem dX12_out_53 : decode cX12_out 53 = .ok (.getfield 52, 3) := by decide +kernel
theorem dX12_out_56 : decode cX12_out 56 = .ok (.aload_n 0, 1) := by decide +kernel
theorem dX12_out_57 : decode cX12_out 57 = .ok (.getfield 46, 3) := by decide +kernel
theorem dX12_out_60 : decode cX12_out 60 = .ok (.iload_n 2, 1) := by decide +kernel
theorem dX12_out_61 : decode cX12_out 61 = .ok (.iaload, 1) := by decide +kernel
theorem dX12_out_62 : decode cX12_out 62 = .ok (.iaload, 1) := by decide +kernel
theorem dX12_out_63 : decode cX12_out 63 = .ok (.if_icmp .lt 6, 3) := by decide +kernel
theorem dX12_out_66 : decode cX12_out 66 = .ok (.goto 21, 3) := by decide +kernel
theorem dX12_out_69 : decode cX12_out 69 = .ok (.aload_n 0, 1) := by decide +kernel
theorem dX12_out_70 : decode cX12_out 70 = .ok (.iload_n 1, 1) := by decide +kernel
theorem dX12_out_71 : decode cX12_out 71 = .ok (.iconst 1, 1) := by decide +kernel
theorem dX12_out_72 : decode cX12_out 72 = .ok (.iload_n 3, 1) := by decide +kernel
theorem dX12_out_73 : decode cX12_out 73 = .ok (.ishl, 1) := by decide +kernel
theorem dX12_out_74 : decode cX12_out 74 = .ok (.iconst (-1), 1) := by decide +kernel
theorem dX12_out_75 : decode cX12_out 75 = .ok (.ixor, 1) := by decide +kernel
theorem dX12_out_76 : decode cX12_out 76 = .ok (.iand, 1) := by decide +kernel
theorem dX12_out_77 : decode cX12_out 77 = .ok (.iconst (-1), 1) := by decide +kernel
theorem dX12_out_78 : decode cX12_out 78 = .ok (.iconst (-1), 1) := by decide +kernel
theorem dX12_out_79 : decode cX12_out 79 = .ok (.invokevirtual 289, 3) := by decide +kernel
theorem dX12_out_82 : decode cX12_out 82 = .ok (.ifCond .eq 5, 3) := by decide +kernel
theorem dX12_out_85 : decode cX12_out 85 = .ok (.iload_n 3, 1) := by decide +kernel
theorem dX12_out_86 : decode cX12_out 86 = .ok (.istore_n 2, 1) := by decide +kernel
theorem dX12_out_87 : decode cX12_out 87 = .ok (.iinc 3 1, 3) := by decide +kernel
theorem dX12_out_90 : decode cX12_out 90 = .ok (.goto (-69), 3) := by decide +kernel
theorem dX12_out_93 : decode cX12_out 93 = .ok (.iload_n 2, 1) := by decide +kernel
theorem dX12_out_94 : decode cX12_out 94 = .ok (.ireturn, 1) := by decide +kernel
theorem dX12_often_0 : decode cX12_often 0 = .ok (.iconst 0, 1) := by decide +kernel
theorem dX12_often_1 : decode cX12_often 1 = .ok (.istore 5, 2) := by decide +kernel
theorem dX12_often_3 : decode cX12_often 3 = .ok (.iload 5, 2) := by decide +kernel
theorem dX12_often_5 : decode cX12_often 5 = .ok (.sipush 1024, 3) := by decide +kernel
theorem dX12_often_8 : decode cX12_often 8 = .ok (.if_icmp .ge 69, 3) := by decide +kernel
theorem dX12_often_11 : decode cX12_often 11 = .ok (.aload_n 0, 1) := by decide +kernel
theorem dX12_often_12 : decode cX12_often 12 = .ok (.getfield 99, 3) := by decide +kernel
theorem dX12_often_15 : decode cX12_often 15 = .ok (.iload 5, 2) := by decide +kernel
theorem dX12_often_17 : decode cX12_often 17 = .ok (.iaload, 1) := by decide +kernel
theorem dX12_often_18 : decode cX12_often 18 = .ok (.ifCond .ne 14, 3) := by decide +kernel
theorem dX12_often_21 : decode cX12_often 21 = .ok (.iload 5, 2) := by decide +kernel
theorem dX12_often_23 : decode cX12_often 23 = .ok (.bipush 32, 2) := by decide +kernel
theorem dX12_often_25 : decode cX12_often 25 = .ok (.if_icmp .ge 7, 3) := by decide +kernel
theorem dX12_often_28 : decode cX12_often 28 = .ok (.iconst 1, 1) := by decide +kernel
theorem dX12_often_29 : decode cX12_often 29 = .ok (.goto 4, 3) := by decide +kernel
theorem dX12_often_32 : decode cX12_often 32 = .ok (.iconst 0, 1) := by decide +kernel
theorem dX12_often_33 : decode cX12_often 33 = .ok (.istore 6, 2) := by decide +kernel
theorem dX12_often_35 : decode cX12_often 35 = .ok (.aload_n 0, 1) := by decide +kernel
theorem dX12_often_36 : decode cX12_often 36 = .ok (.getfield 117, 3) := by decide +kernel
theorem dX12_often_39 : decode cX12_often 39 = .ok (.iload 5, 2) := by decide +kernel
theorem dX12_often_41 : decode cX12_often 41 = .ok (.iload 6, 2) := by decide +kernel
theorem dX12_often_43 : decode cX12_often 43 = .ok (.ifCond .eq 7, 3) := by decide +kernel
theorem dX12_often_46 : decode cX12_often 46 = .ok (.iconst 0, 1) := by decide +kernel
theorem dX12_often_47 : decode cX12_often 47 = .ok (.goto 6, 3) := by decide +kernel
theorem dX12_often_50 : decode cX12_often 50 = .ok (.ldc_w 274, 3) := by decide +kernel
theorem dX12_often_53 : decode cX12_often 53 = .ok (.iastore, 1) := by decide +kernel
theorem dX12_often_54 : decode cX12_often 54 = .ok (.aload_n 0, 1) := by decide +kernel
theorem dX12_often_55 : decode cX12_often 55 = .ok (.getfield 120, 3) := by decide +kernel
theorem dX12_often_58 : decode cX12_often 58 = .ok (.iload 5, 2) := by decide +kernel
theorem dX12_often_60 : decode cX12_often 60 = .ok (.iload 6, 2) := by decide +kernel
theorem dX12_often_62 : decode cX12_often 62 = .ok (.ifCond .eq 7, 3) := by decide +kernel
theorem dX12_often_65 : decode cX12_often 65 = .ok (.iconst 0, 1) := by decide +kernel
theorem dX12_often_66 : decode cX12_often 66 = .ok (.goto 4, 3) := by decide +kernel
theorem dX12_often_69 : decode cX12_often 69 = .ok (.iconst (-1), 1) := by decide +kernel
theorem dX12_often_70 : decode cX12_often 70 = .ok (.iastore, 1) := by decide +kernel
theorem dX12_often_71 : decode cX12_often 71 = .ok (.iinc 5 1, 3) := by decide +kernel
theorem dX12_often_74 : decode cX12_often 74 = .ok (.goto (-71), 3) := by decide +kernel
theorem dX12_often_77 : decode cX12_often 77 = .ok (.iconst 0, 1) := by decide +kernel
theorem dX12_often_78 : decode cX12_often 78 = .ok (.istore 5, 2) := by decide +kernel
theorem dX12_often_80 : decode cX12_often 80 = .ok (.iload 5, 2) := by decide +kernel
theorem dX12_often_82 : decode cX12_often 82 = .ok (.bipush 12, 2) := by decide +kernel
theorem dX12_often_84 : decode cX12_often 84 = .ok (.if_icmp .ge 310, 3) := by decide +kernel
theorem dX12_often_87 : decode cX12_often 87 = .ok (.iconst 0, 1) := by decide +kernel
theorem dX12_often_88 : decode cX12_often 88 = .ok (.istore 6, 2) := by decide +kernel
theorem dX12_often_90 : decode cX12_often 90 = .ok (.iload 6, 2) := by decide +kernel
theorem dX12_often_92 : decode cX12_often 92 = .ok (.sipush 1024, 3) := by decide +kernel
theorem dX12_often_95 : decode cX12_often 95 = .ok (.if_icmp .ge 27, 3) := by decide +kernel
theorem dX12_often_98 : decode cX12_often 98 = .ok (.aload_n 0, 1) := by decide +kernel
theorem dX12_often_99 : decode cX12_often 99 = .ok (.getfield 123, 3) := by decide +kernel
theorem dX12_often_102 : decode cX12_often 102 = .ok (.iload 6, 2) := by decide +kernel
theorem dX12_often_104 : decode cX12_often 104 = .ok (.ldc_w 274, 3) := by decide +kernel
theorem dX12_often_107 : decode cX12_often 107 = .ok (.iastore, 1) := by decide +kernel
theorem dX12_often_108 : decode cX12_often 108 = .ok (.aload_n 0, 1) := by decide +kernel
theorem dX12_often_109 : decode cX12_often 109 = .ok (.getfield 126, 3) := by decide +kernel
theorem dX12_often_112 : decode cX12_often 112 = .ok (.iload 6, 2) := by decide +kernel
theorem dX12_often_114 : decode cX12_often 114 = .ok (.iconst (-1), 1) := by decide +kernel
theorem dX12_often_115 : decode cX12_often 115 = .ok (.iastore, 1) := by decide +kernel
theorem dX12_often_116 : decode cX12_often 116 = .ok (.iinc 6 1, 3) := by decide +kernel
theorem dX12_often_119 : decode cX12_often 119 = .ok (.goto (-29), 3) := by decide +kernel
theorem dX12_often_122 : decode cX12_often 122 = .ok (.iconst 0, 1) := by decide +kernel
theorem dX12_often_123 : decode cX12_often 123 = .ok (.istore 6, 2) := by decide +kernel
theorem dX12_often_125 : decode cX12_often 125 = .ok (.iload 6, 2) := by decide +kernel
theorem dX12_often_127 : decode cX12_often 127 = .ok (.sipush 1024, 3) := by decide +kernel
theorem dX12_often_130 : decode cX12_often 130 = .ok (.if_icmp .ge 213, 3) := by decide +kernel
theorem dX12_often_133 : decode cX12_often 133 = .ok (.aload_n 0, 1) := by decide +kernel
theorem dX12_often_134 : decode cX12_often 134 = .ok (.getfield 120, 3) := by decide +kernel
theorem dX12_often_137 : decode cX12_often 137 = .ok (.iload 6, 2) := by decide +kernel
theorem dX12_often_139 : decode cX12_often 139 = .ok (.iaload, 1) := by decide +kernel
theorem dX12_often_140 : decode cX12_often 140 = .ok (.ifCond .ge 6, 3) := by decide +kernel
theorem dX12_often_143 : decode cX12_often 143 = .ok (.goto 194, 3) := by decide +kernel
theorem dX12_often_146 : decode cX12_often 146 = .ok (.aload_n 0, 1) := by decide +kernel
theorem dX12_often_147 : decode cX12_often 147 = .ok (.iload 5, 2) := by decide +kernel
theorem dX12_often_149 : decode cX12_often 149 = .ok (.iload 6, 2) := by decide +kernel
theorem dX12_often_151 : decode cX12_often 151 = .ok (.invokevirtual 275, 3) := by decide +kernel
theorem dX12_often_154 : decode cX12_often 154 = .ok (.iconst 0, 1) := by decide +kernel
theorem dX12_often_155 : decode cX12_often 155 = .ok (.istore 7, 2) := by decide +kernel
theorem dX12_often_157 : decode cX12_often 157 = .ok (.iload 7, 2) := by decide +kernel
theorem dX12_often_159 : decode cX12_often 159 = .ok (.aload_n 0, 1) := by decide +kernel
theorem dX12_often_160 : decode cX12_often 160 = .ok (.getfield 264, 3) := by decide +kernel
theorem dX12_often_163 : decode cX12_often 163 = .ok (.if_icmp .ge 174, 3) := by decide +kernel
theorem dX12_often_166 : decode cX12_often 166 = .ok (.aload_n 0, 1) := by decide +kernel
theorem dX12_often_167 : decode cX12_often 167 = .ok (.iload 5, 2) := by decide +kernel
theorem dX12_often_169 : decode cX12_often 169 = .ok (.iload 6, 2) := by decide +kernel
theorem dX12_often_171 : decode cX12_often 171 = .ok (.iload 7, 2) := by decide +kernel
theorem dX12_often_173 : decode cX12_often 173 = .ok (.invokevirtual 295, 3) := by decide +kernel
theorem dX12_often_176 : decode cX12_often 176 = .ok (.ifCond .ne 6, 3) := by decide +kernel
theorem dX12_often_179 : decode cX12_often 179 = .ok (.goto 152, 3) := by decide +kernel
theorem dX12_often_182 : decode cX12_often 182 = .ok (.iload_n 1, 1) := by decide +kernel
theorem dX12_often_183 : decode cX12_often 183 = .ok (.ifCond .lt 31, 3) := by decide +kernel
theorem dX12_often_186 : decode cX12_often 186 = .ok (.aload_n 0, 1) := by decide +kernel
theorem dX12_often_187 : decode cX12_often 187 = .ok (.getfield 72, 3) := by decide +kernel
theorem dX12_often_190 : decode cX12_often 190 = .ok (.aload_n 0, 1) := by decide +kernel
theorem dX12_often_191 : decode cX12_often 191 = .ok (.getfield 105, 3) := by decide +kernel
theorem dX12_often_194 : decode cX12_often 194 = .ok (.iload 7, 2) := by decide +kernel
theorem dX12_often_196 : decode cX12_often 196 = .ok (.iaload, 1) := by decide +kernel
theorem dX12_often_197 : decode cX12_often 197 = .ok (.iaload, 1) := by decide +kernel
theorem dX12_often_198 : decode cX12_often 198 = .ok (.iload_n 1, 1) := by decide +kernel
theorem dX12_often_199 : decode cX12_often 199 = .ok (.ishr, 1) := by decide +kernel
theorem dX12_often_200 : decode cX12_often 200 = .ok (.iconst 1, 1) := by decide +kernel
theorem dX12_often_201 : decode cX12_often 201 = .ok (.iand, 1) := by decide +kernel
theorem dX12_often_202 : decode cX12_often 202 = .ok (.iconst 1, 1) := by decide +kernel
theorem dX12_often_203 : decode cX12_often 203 = .ok (.if_icmp .ne 7, 3) := by decide +kernel
theorem dX12_often_206 : decode cX12_often 206 = .ok (.iconst 1, 1) := by decide +kernel
theorem dX12_often_207 : decode cX12_often 207 = .ok (.goto 23, 3) := by decide +kernel
theorem dX12_often_210 : decode cX12_often 210 = .ok (.iconst 0, 1) := by decide +kernel
theorem dX12_often_211 : decode cX12_often 211 = .ok (.goto 19, 3) := by decide +kernel
theorem dX12_often_214 : decode cX12_often 214 = .ok (.aload_n 0, 1) := by decide +kernel
theorem dX12_often_215 : decode cX12_often 215 = .ok (.getfield 108, 3) := by decide +kernel
theorem dX12_often_218 : decode cX12_often 218 = .ok (.iload 7, 2) := by decide +kernel
theorem dX12_often_220 : decode cX12_often 220 = .ok (.iaload, 1) := by decide +kernel
theorem dX12_often_221 : decode cX12_often 221 = .ok (.iload_n 2, 1) := by decide +kernel
theorem dX12_often_222 : decode cX12_often 222 = .ok (.if_icmp .ne 7, 3) := by decide +kernel
theorem dX12_often_225 : decode cX12_often 225 = .ok (.iconst 1, 1) := by decide +kernel
theorem dX12_often_226 : decode cX12_often 226 = .ok (.goto 4, 3) := by decide +kernel
theorem dX12_often_229 : decode cX12_often 229 = .ok (.iconst 0, 1) := by decide +kernel
theorem dX12_often_230 : decode cX12_often 230 = .ok (.istore 8, 2) := by decide +kernel
theorem dX12_often_232 : decode cX12_often 232 = .ok (.iload 8, 2) := by decide +kernel
theorem dX12_often_234 : decode cX12_often 234 = .ok (.ifCond .eq 20, 3) := by decide +kernel
theorem dX12_often_237 : decode cX12_often 237 = .ok (.iload 5, 2) := by decide +kernel
theorem dX12_often_239 : decode cX12_often 239 = .ok (.iload_n 3, 1) := by decide +kernel
theorem dX12_often_240 : decode cX12_often 240 = .ok (.if_icmp .lt 14, 3) := by decide +kernel
theorem dX12_often_243 : decode cX12_often 243 = .ok (.iload 5, 2) := by decide +kernel
theorem dX12_often_245 : decode cX12_often 245 = .ok (.iload 4, 2) := by decide +kernel
theorem dX12_often_247 : decode cX12_often 247 = .ok (.if_icmp .gt 7, 3) := by decide +kernel
theorem dX12_often_250 : decode cX12_often 250 = .ok (.iconst 1, 1) := by decide +kernel
theorem dX12_often_251 : decode cX12_often 251 = .ok (.goto 4, 3) := by decide +kernel
theorem dX12_often_254 : decode cX12_often 254 = .ok (.iconst 0, 1) := by decide +kernel
theorem dX12_often_255 : decode cX12_often 255 = .ok (.istore 9, 2) := by decide +kernel
theorem dX12_often_257 : decode cX12_often 257 = .ok (.aload_n 0, 1) := by decide +kernel
theorem dX12_often_258 : decode cX12_often 258 = .ok (.getfield 123, 3) := by decide +kernel
theorem dX12_often_261 : decode cX12_often 261 = .ok (.aload_n 0, 1) := by decide +kernel
theorem dX12_often_262 : decode cX12_often 262 = .ok (.getfield 111, 3) := by decide +kernel
theorem dX12_often_265 : decode cX12_often 265 = .ok (.iload 7, 2) := by decide +kernel
theorem dX12_often_267 : decode cX12_often 267 = .ok (.iaload, 1) := by decide +kernel
theorem dX12_often_268 : decode cX12_often 268 = .ok (.aload_n 0, 1) := by decide +kernel
theorem dX12_often_269 : decode cX12_often 269 = .ok (.getfield 123, 3) := by decide +kernel
theorem dX12_often_272 : decode cX12_often 272 = .ok (.aload_n 0, 1) := by decide +kernel
theorem dX12_often_273 : decode cX12_often 273 = .ok (.getfield 111, 3) := by decide +kernel
theorem dX12_often_276 : decode cX12_often 276 = .ok (.iload 7, 2) := by decide +kernel
theorem dX12_often_278 : decode cX12_often 278 = .ok (.iaload, 1) := by decide +kernel
theorem dX12_often_279 : decode cX12_often 279 = .ok (.iaload, 1) := by decide +kernel
theorem dX12_often_280 : decode cX12_often 280 = .ok (.aload_n 0, 1) := by decide +kernel
theorem dX12_often_281 : decode cX12_often 281 = .ok (.getfield 117, 3) := by decide +kernel
theorem dX12_often_284 : decode cX12_often 284 = .ok (.iload 6, 2) := by decide +kernel
theorem dX12_often_286 : decode cX12_often 286 = .ok (.iaload, 1) := by decide +kernel
theorem dX12_often_287 : decode cX12_often 287 = .ok (.iload 9, 2) := by decide +kernel
theorem dX12_often_289 : decode cX12_often 289 = .ok (.iadd, 1) := by decide +kernel
theorem dX12_often_290 : decode cX12_often 290 = .ok (.invokestatic 278, 3) := by decide +kernel
theorem dX12_often_293 : decode cX12_often 293 = .ok (.iastore, 1) := by decide +kernel
theorem dX12_often_294 : decode cX12_often 294 = .ok (.aload_n 0, 1) := by decide +kernel
theorem dX12_often_295 : decode cX12_often 295 = .ok (.getfield 126, 3) := by decide +kernel
theorem dX12_often_298 : decode cX12_often 298 = .ok (.aload_n 0, 1) := by decide +kernel
theorem dX12_often_299 : decode cX12_often 299 = .ok (.getfield 111, 3) := by decide +kernel
theorem dX12_often_302 : decode cX12_often 302 = .ok (.iload 7, 2) := by decide +kernel
theorem dX12_often_304 : decode cX12_often 304 = .ok (.iaload, 1) := by decide +kernel
theorem dX12_often_305 : decode cX12_often 305 = .ok (.aload_n 0, 1) := by decide +kernel
theorem dX12_often_306 : decode cX12_often 306 = .ok (.getfield 126, 3) := by decide +kernel
theorem dX12_often_309 : decode cX12_often 309 = .ok (.aload_n 0, 1) := by decide +kernel
theorem dX12_often_310 : decode cX12_often 310 = .ok (.getfield 111, 3) := by decide +kernel
theorem dX12_often_313 : decode cX12_often 313 = .ok (.iload 7, 2) := by decide +kernel
theorem dX12_often_315 : decode cX12_often 315 = .ok (.iaload, 1) := by decide +kernel
theorem dX12_often_316 : decode cX12_often 316 = .ok (.iaload, 1) := by decide +kernel
theorem dX12_often_317 : decode cX12_often 317 = .ok (.aload_n 0, 1) := by decide +kernel
theorem dX12_often_318 : decode cX12_often 318 = .ok (.getfield 120, 3) := by decide +kernel
theorem dX12_often_321 : decode cX12_often 321 = .ok (.iload 6, 2) := by decide +kernel
theorem dX12_often_323 : decode cX12_often 323 = .ok (.iaload, 1) := by decide +kernel
theorem dX12_often_324 : decode cX12_often 324 = .ok (.iload 9, 2) := by decide +kernel
theorem dX12_often_326 : decode cX12_often 326 = .ok (.iadd, 1) := by decide +kernel
theorem dX12_often_327 : decode cX12_often 327 = .ok (.invokestatic 307, 3) := by decide +kernel
theorem dX12_often_330 : decode cX12_often 330 = .ok (.iastore, 1) := by decide +kernel
theorem dX12_often_331 : decode cX12_often 331 = .ok (.iinc 7 1, 3) := by decide +kernel
theorem dX12_often_334 : decode cX12_often 334 = .ok (.goto (-177), 3) := by decide +kernel
theorem dX12_often_337 : decode cX12_often 337 = .ok (.iinc 6 1, 3) := by decide +kernel
theorem dX12_often_340 : decode cX12_often 340 = .ok (.goto (-215), 3) := by decide +kernel
theorem dX12_often_343 : decode cX12_often 343 = .ok (.iconst 0, 1) := by decide +kernel
theorem dX12_often_344 : decode cX12_often 344 = .ok (.istore 6, 2) := by decide +kernel
theorem dX12_often_346 : decode cX12_often 346 = .ok (.iload 6, 2) := by decide +kernel
theorem dX12_often_348 : decode cX12_often 348 = .ok (.sipush 1024, 3) := by decide +kernel
theorem dX12_often_351 : decode cX12_often 351 = .ok (.if_icmp .ge 37, 3) := by decide +kernel
theorem dX12_often_354 : decode cX12_often 354 = .ok (.aload_n 0, 1) := by decide +kernel
theorem dX12_often_355 : decode cX12_often 355 = .ok (.getfield 117, 3) := by decide +kernel
theorem dX12_often_358 : decode cX12_often 358 = .ok (.iload 6, 2) := by decide +kernel
theorem dX12_often_360 : decode cX12_often 360 = .ok (.aload_n 0, 1) := by decide +kernel
theorem dX12_often_361 : decode cX12_often 361 = .ok (.getfield 123, 3) := by decide +kernel
theorem dX12_often_364 : decode cX12_often 364 = .ok (.iload 6, 2) := by decide +kernel
theorem dX12_often_366 : decode cX12_often 366 = .ok (.iaload, 1) := by decide +kernel
theorem dX12_often_367 : decode cX12_often 367 = .ok (.iastore, 1) := by decide +kernel
theorem dX12_often_368 : decode cX12_often 368 = .ok (.aload_n 0, 1) := by decide +kernel
theorem dX12_often_369 : decode cX12_often 369 = .ok (.getfield 120, 3) := by decide +kernel
theorem dX12_often_372 : decode cX12_often 372 = .ok (.iload 6, 2) := by decide +kernel
theorem dX12_often_374 : decode cX12_often 374 = .ok (.aload_n 0, 1) := by decide +kernel
theorem dX12_often_375 : decode cX12_often 375 = .ok (.getfield 126, 3) := by decide +kernel
theorem dX12_often_378 : decode cX12_often 378 = .ok (.iload 6, 2) := by decide +kernel
theorem dX12_often_380 : decode cX12_often 380 = .ok (.iaload, 1) := by decide +kernel
theorem dX12_often_381 : decode cX12_often 381 = .ok (.iastore, 1) := by decide +kernel
theorem dX12_often_382 : decode cX12_often 382 = .ok (.iinc 6 1, 3) := by decide +kernel
theorem dX12_often_385 : decode cX12_often 385 = .ok (.goto (-39), 3) := by decide +kernel
theorem dX12_often_388 : decode cX12_often 388 = .ok (.iinc 5 1, 3) := by decide +kernel
theorem dX12_often_391 : decode cX12_often 391 = .ok (.goto (-311), 3) := by decide +kernel
theorem dX12_often_394 : decode cX12_often 394 = .ok (.ldc_w 274, 3) := by decide +kernel
theorem dX12_often_397 : decode cX12_often 397 = .ok (.istore 5, 2) := by decide +kernel
theorem dX12_often_399 : decode cX12_often 399 = .ok (.iconst (-1), 1) := by decide +kernel
theorem dX12_often_400 : decode cX12_often 400 = .ok (.istore 6, 2) := by decide +kernel
theorem dX12_often_402 : decode cX12_often 402 = .ok (.iconst 0, 1) := by decide +kernel
theorem dX12_often_403 : decode cX12_often 403 = .ok (.istore 7, 2) := by decide +kernel
theorem dX12_often_405 : decode cX12_often 405 = .ok (.iload 7, 2) := by decide +kernel
theorem dX12_often_407 : decode cX12_often 407 = .ok (.sipush 1024, 3) := by decide +kernel
theorem dX12_often_410 : decode cX12_often 410 = .ok (.if_icmp .ge 56, 3) := by decide +kernel
theorem dX12_often_413 : decode cX12_often 413 = .ok (.iload 7, 2) := by decide +kernel
theorem dX12_often_415 : decode cX12_often 415 = .ok (.bipush 8, 2) := by decide +kernel
theorem dX12_often_417 : decode cX12_often 417 = .ok (.ishr, 1) := by decide +kernel
theorem dX12_often_418 : decode cX12_often 418 = .ok (.iconst 1, 1) := by decide +kernel
theorem dX12_often_419 : decode cX12_often 419 = .ok (.aload_n 0, 1) := by decide +kernel
theorem dX12_often_420 : decode cX12_often 420 = .ok (.getfield 257, 3) := by decide +kernel
theorem dX12_often_423 : decode cX12_often 423 = .ok (.ishl, 1) := by decide +kernel
theorem dX12_often_424 : decode cX12_often 424 = .ok (.iconst 1, 1) := by decide +kernel
theorem dX12_often_425 : decode cX12_often 425 = .ok (.isub, 1) := by decide +kernel
theorem dX12_often_426 : decode cX12_often 426 = .ok (.if_icmp .eq 6, 3) := by decide +kernel
theorem dX12_often_429 : decode cX12_often 429 = .ok (.goto 31, 3) := by decide +kernel
theorem dX12_often_432 : decode cX12_often 432 = .ok (.iload 5, 2) := by decide +kernel
theorem dX12_often_434 : decode cX12_often 434 = .ok (.aload_n 0, 1) := by decide +kernel
theorem dX12_often_435 : decode cX12_often 435 = .ok (.getfield 117, 3) := by decide +kernel
theorem dX12_often_438 : decode cX12_often 438 = .ok (.iload 7, 2) := by decide +kernel
theorem dX12_often_440 : decode cX12_often 440 = .ok (.iaload, 1) := by decide +kernel
theorem dX12_often_441 : decode cX12_often 441 = .ok (.invokestatic 278, 3) := by decide +kernel
theorem dX12_often_444 : decode cX12_often 444 = .ok (.istore 5, 2) := by decide +kernel
theorem dX12_often_446 : decode cX12_often 446 = .ok (.iload 6, 2) := by decide +kernel
theorem dX12_often_448 : decode cX12_often 448 = .ok (.aload_n 0, 1) := by decide +kernel
theorem dX12_often_449 : decode cX12_often 449 = .ok (.getfield 120, 3) := by decide +kernel
theorem dX12_often_452 : decode cX12_often 452 = .ok (.iload 7, 2) := by decide +kernel
theorem dX12_often_454 : decode cX12_often 454 = .ok (.iaload, 1) := by decide +kernel
theorem dX12_often_455 : decode cX12_often 455 = .ok (.invokestatic 307, 3) := by decide +kernel
theorem dX12_often_458 : decode cX12_often 458 = .ok (.istore 6, 2) := by decide +kernel
theorem dX12_often_460 : decode cX12_often 460 = .ok (.iinc 7 1, 3) := by decide +kernel
theorem dX12_often_463 : decode cX12_often 463 = .ok (.goto (-58), 3) := by decide +kernel
theorem dX12_often_466 : decode cX12_often 466 = .ok (.bipush 100, 2) := by decide +kernel
theorem dX12_often_468 : decode cX12_often 468 = .ok (.iload 6, 2) := by decide +kernel
theorem dX12_often_470 : decode cX12_often 470 = .ok (.imul, 1) := by decide +kernel
theorem dX12_often_471 : decode cX12_often 471 = .ok (.iload 5, 2) := by decide +kernel
theorem dX12_often_473 : decode cX12_often 473 = .ok (.iadd, 1) := by decide +kernel
theorem dX12_often_474 : decode cX12_often 474 = .ok (.ireturn, 1) := by decide +kernel
theorem dX12_told_0 : decode cX12_told 0 = .ok (.iload_n 1, 1) := by decide +kernel
theorem dX12_told_1 : decode cX12_told 1 = .ok (.bipush 100, 2) := by decide +kernel
theorem dX12_told_3 : decode cX12_told 3 = .ok (.idiv, 1) := by decide +kernel
theorem dX12_told_4 : decode cX12_told 4 = .ok (.ifCond .ne 7, 3) := by decide +kernel
theorem dX12_told_7 : decode cX12_told 7 = .ok (.iconst 0, 1) := by decide +kernel
theorem dX12_told_8 : decode cX12_told 8 = .ok (.goto 15, 3) := by decide +kernel
theorem dX12_told_11 : decode cX12_told 11 = .ok (.iload_n 1, 1) := by decide +kernel
theorem dX12_told_12 : decode cX12_told 12 = .ok (.bipush 100, 2) := by decide +kernel
theorem dX12_told_14 : decode cX12_told 14 = .ok (.irem, 1) := by decide +kernel
theorem dX12_told_15 : decode cX12_told 15 = .ok (.ifCond .le 7, 3) := by decide +kernel
theorem dX12_told_18 : decode cX12_told 18 = .ok (.iconst 1, 1) := by decide +kernel
theorem dX12_told_19 : decode cX12_told 19 = .ok (.goto 4, 3) := by decide +kernel
theorem dX12_told_22 : decode cX12_told 22 = .ok (.iconst 2, 1) := by decide +kernel
theorem dX12_told_23 : decode cX12_told 23 = .ok (.ireturn, 1) := by decide +kernel
theorem dX12_must_0 : decode cX12_must 0 = .ok (.aload_n 0, 1) := by decide +kernel
theorem dX12_must_1 : decode cX12_must 1 = .ok (.iload_n 1, 1) := by decide +kernel
theorem dX12_must_2 : decode cX12_must 2 = .ok (.invokevirtual 220, 3) := by decide +kernel
theorem dX12_must_5 : decode cX12_must 5 = .ok (.ifCond .eq 25, 3) := by decide +kernel
theorem dX12_must_8 : decode cX12_must 8 = .ok (.aload_n 0, 1) := by decide +kernel
theorem dX12_must_9 : decode cX12_must 9 = .ok (.iload_n 2, 1) := by decide +kernel
theorem dX12_must_10 : decode cX12_must 10 = .ok (.iload_n 3, 1) := by decide +kernel
theorem dX12_must_11 : decode cX12_must 11 = .ok (.invokevirtual 230, 3) := by decide +kernel
theorem dX12_must_14 : decode cX12_must 14 = .ok (.ifCond .eq 16, 3) := by decide +kernel
theorem dX12_must_17 : decode cX12_must 17 = .ok (.aload_n 0, 1) := by decide +kernel
theorem dX12_must_18 : decode cX12_must 18 = .ok (.aload_n 0, 1) := by decide +kernel
theorem dX12_must_19 : decode cX12_must 19 = .ok (.invokevirtual 286, 3) := by decide +kernel
theorem dX12_must_22 : decode cX12_must 22 = .ok (.iconst (-1), 1) := by decide +kernel
theorem dX12_must_23 : decode cX12_must 23 = .ok (.iconst (-1), 1) := by decide +kernel
theorem dX12_must_24 : decode cX12_must 24 = .ok (.invokevirtual 289, 3) := by decide +kernel
theorem dX12_must_27 : decode cX12_must 27 = .ok (.ifCond .ne 5, 3) := by decide +kernel
theorem dX12_must_30 : decode cX12_must 30 = .ok (.iconst (-1), 1) := by decide +kernel
theorem dX12_must_31 : decode cX12_must 31 = .ok (.ireturn, 1) := by decide +kernel
theorem dX12_must_32 : decode cX12_must 32 = .ok (.aload_n 0, 1) := by decide +kernel
theorem dX12_must_33 : decode cX12_must 33 = .ok (.aload_n 0, 1) := by decide +kernel
theorem dX12_must_34 : decode cX12_must 34 = .ok (.iconst (-1), 1) := by decide +kernel
theorem dX12_must_35 : decode cX12_must 35 = .ok (.iload_n 1, 1) := by decide +kernel
theorem dX12_must_36 : decode cX12_must 36 = .ok (.iload_n 2, 1) := by decide +kernel
theorem dX12_must_37 : decode cX12_must 37 = .ok (.iload_n 3, 1) := by decide +kernel
theorem dX12_must_38 : decode cX12_must 38 = .ok (.invokevirtual 313, 3) := by decide +kernel
theorem dX12_must_41 : decode cX12_must 41 = .ok (.invokevirtual 317, 3) := by decide +kernel
theorem dX12_must_44 : decode cX12_must 44 = .ok (.ireturn, 1) := by decide +kernel
theorem dX12_could_0 : decode cX12_could 0 = .ok (.aload_n 0, 1) := by decide +kernel
theorem dX12_could_1 : decode cX12_could 1 = .ok (.iload_n 1, 1) := by decide +kernel
theorem dX12_could_2 : decode cX12_could 2 = .ok (.invokevirtual 168, 3) := by decide +kernel
theorem dX12_could_5 : decode cX12_could 5 = .ok (.ifCond .eq 16, 3) := by decide +kernel
theorem dX12_could_8 : decode cX12_could 8 = .ok (.aload_n 0, 1) := by decide +kernel
theorem dX12_could_9 : decode cX12_could 9 = .ok (.aload_n 0, 1) := by decide +kernel
theorem dX12_could_10 : decode cX12_could 10 = .ok (.invokevirtual 286, 3) := by decide +kernel
theorem dX12_could_13 : decode cX12_could 13 = .ok (.iconst (-1), 1) := by decide +kernel
theorem dX12_could_14 : decode cX12_could 14 = .ok (.iconst (-1), 1) := by decide +kernel
theorem dX12_could_15 : decode cX12_could 15 = .ok (.invokevirtual 289, 3) := by decide +kernel
theorem dX12_could_18 : decode cX12_could 18 = .ok (.ifCond .ne 5, 3) := by decide +kernel
theorem dX12_could_21 : decode cX12_could 21 = .ok (.iconst (-1), 1) := by decide +kernel
theorem dX12_could_22 : decode cX12_could 22 = .ok (.ireturn, 1) := by decide +kernel
theorem dX12_could_23 : decode cX12_could 23 = .ok (.iconst 0, 1) := by decide +kernel
theorem dX12_could_24 : decode cX12_could 24 = .ok (.istore_n 2, 1) := by decide +kernel
theorem dX12_could_25 : decode cX12_could 25 = .ok (.iconst 0, 1) := by decide +kernel
theorem dX12_could_26 : decode cX12_could 26 = .ok (.istore_n 3, 1) := by decide +kernel
theorem dX12_could_27 : decode cX12_could 27 = .ok (.iload_n 3, 1) := by decide +kernel
theorem dX12_could_28 : decode cX12_could 28 = .ok (.sipush 1024, 3) := by decide +kernel
theorem dX12_could_31 : decode cX12_could 31 = .ok (.if_icmp .ge 77, 3) := by decide +kernel
theorem dX12_could_34 : decode cX12_could 34 = .ok (.aload_n 0, 1) := by decide +kernel
theorem dX12_could_35 : decode cX12_could 35 = .ok (.getfield 99, 3) := by decide +kernel
theorem dX12_could_38 : decode cX12_could 38 = .ok (.sipush 1024, 3) := by decide +kernel
theorem dX12_could_41 : decode cX12_could 41 = .ok (.iload_n 1, 1) := by decide +kernel
theorem dX12_could_42 : decode cX12_could 42 = .ok (.imul, 1) := by decide +kernel
theorem dX12_could_43 : decode cX12_could 43 = .ok (.iload_n 3, 1) := by decide +kernel
theorem dX12_could_44 : decode cX12_could 44 = .ok (.iadd, 1) := by decide +kernel
theorem dX12_could_45 : decode cX12_could 45 = .ok (.iaload, 1) := by decide +kernel
theorem dX12_could_46 : decode cX12_could 46 = .ok (.ldc_w 274, 3) := by decide +kernel
theorem dX12_could_49 : decode cX12_could 49 = .ok (.if_icmp .ne 6, 3) := by decide +kernel
theorem dX12_could_52 : decode cX12_could 52 = .ok (.goto 50, 3) := by decide +kernel
theorem dX12_could_55 : decode cX12_could 55 = .ok (.aload_n 0, 1) := by decide +kernel
theorem dX12_could_56 : decode cX12_could 56 = .ok (.iload_n 1, 1) := by decide +kernel
theorem dX12_could_57 : decode cX12_could 57 = .ok (.iload_n 3, 1) := by decide +kernel
theorem dX12_could_58 : decode cX12_could 58 = .ok (.invokevirtual 275, 3) := by decide +kernel
theorem dX12_could_61 : decode cX12_could 61 = .ok (.iconst 0, 1) := by decide +kernel
theorem dX12_could_62 : decode cX12_could 62 = .ok (.istore 4, 2) := by decide +kernel
theorem dX12_could_64 : decode cX12_could 64 = .ok (.iload 4, 2) := by decide +kernel
theorem dX12_could_66 : decode cX12_could 66 = .ok (.aload_n 0, 1) := by decide +kernel
theorem dX12_could_67 : decode cX12_could 67 = .ok (.getfield 264, 3) := by decide +kernel
theorem dX12_could_70 : decode cX12_could 70 = .ok (.if_icmp .ge 32, 3) := by decide +kernel
theorem dX12_could_73 : decode cX12_could 73 = .ok (.aload_n 0, 1) := by decide +kernel
theorem dX12_could_74 : decode cX12_could 74 = .ok (.iload_n 1, 1) := by decide +kernel
theorem dX12_could_75 : decode cX12_could 75 = .ok (.iload_n 3, 1) := by decide +kernel
theorem dX12_could_76 : decode cX12_could 76 = .ok (.iload 4, 2) := by decide +kernel
theorem dX12_could_78 : decode cX12_could 78 = .ok (.invokevirtual 295, 3) := by decide +kernel
theorem dX12_could_81 : decode cX12_could 81 = .ok (.ifCond .eq 15, 3) := by decide +kernel
theorem dX12_could_84 : decode cX12_could 84 = .ok (.iload_n 2, 1) := by decide +kernel
theorem dX12_could_85 : decode cX12_could 85 = .ok (.iconst 1, 1) := by decide +kernel
theorem dX12_could_86 : decode cX12_could 86 = .ok (.aload_n 0, 1) := by decide +kernel
theorem dX12_could_87 : decode cX12_could 87 = .ok (.getfield 108, 3) := by decide +kernel
theorem dX12_could_90 : decode cX12_could 90 = .ok (.iload 4, 2) := by decide +kernel
theorem dX12_could_92 : decode cX12_could 92 = .ok (.iaload, 1) := by decide +kernel
theorem dX12_could_93 : decode cX12_could 93 = .ok (.ishl, 1) := by decide +kernel
theorem dX12_could_94 : decode cX12_could 94 = .ok (.ior, 1) := by decide +kernel
theorem dX12_could_95 : decode cX12_could 95 = .ok (.istore_n 2, 1) := by decide +kernel
theorem dX12_could_96 : decode cX12_could 96 = .ok (.iinc 4 1, 3) := by decide +kernel
theorem dX12_could_99 : decode cX12_could 99 = .ok (.goto (-35), 3) := by decide +kernel
theorem dX12_could_102 : decode cX12_could 102 = .ok (.iinc 3 1, 3) := by decide +kernel
theorem dX12_could_105 : decode cX12_could 105 = .ok (.goto (-78), 3) := by decide +kernel
theorem dX12_could_108 : decode cX12_could 108 = .ok (.iload_n 2, 1) := by decide +kernel
theorem dX12_could_109 : decode cX12_could 109 = .ok (.ireturn, 1) := by decide +kernel
theorem dX12_ever_0 : decode cX12_ever 0 = .ok (.aload_n 0, 1) := by decide +kernel
theorem dX12_ever_1 : decode cX12_ever 1 = .ok (.iload_n 1, 1) := by decide +kernel
theorem dX12_ever_2 : decode cX12_ever 2 = .ok (.invokevirtual 191, 3) := by decide +kernel
theorem dX12_ever_5 : decode cX12_ever 5 = .ok (.ifCond .eq 25, 3) := by decide +kernel
theorem dX12_ever_8 : decode cX12_ever 8 = .ok (.aload_n 0, 1) := by decide +kernel
theorem dX12_ever_9 : decode cX12_ever 9 = .ok (.iload_n 2, 1) := by decide +kernel
theorem dX12_ever_10 : decode cX12_ever 10 = .ok (.iload_n 3, 1) := by decide +kernel
theorem dX12_ever_11 : decode cX12_ever 11 = .ok (.invokevirtual 230, 3) := by decide +kernel
theorem dX12_ever_14 : decode cX12_ever 14 = .ok (.ifCond .eq 16, 3) := by decide +kernel
theorem dX12_ever_17 : decode cX12_ever 17 = .ok (.aload_n 0, 1) := by decide +kernel
theorem dX12_ever_18 : decode cX12_ever 18 = .ok (.aload_n 0, 1) := by decide +kernel
theorem dX12_ever_19 : decode cX12_ever 19 = .ok (.invokevirtual 286, 3) := by decide +kernel
theorem dX12_ever_22 : decode cX12_ever 22 = .ok (.iconst (-1), 1) := by decide +kernel
theorem dX12_ever_23 : decode cX12_ever 23 = .ok (.iconst (-1), 1) := by decide +kernel
theorem dX12_ever_24 : decode cX12_ever 24 = .ok (.invokevirtual 289, 3) := by decide +kernel
theorem dX12_ever_27 : decode cX12_ever 27 = .ok (.ifCond .ne 5, 3) := by decide +kernel
theorem dX12_ever_30 : decode cX12_ever 30 = .ok (.iconst (-1), 1) := by decide +kernel
theorem dX12_ever_31 : decode cX12_ever 31 = .ok (.ireturn, 1) := by decide +kernel
theorem dX12_ever_32 : decode cX12_ever 32 = .ok (.aload_n 0, 1) := by decide +kernel
theorem dX12_ever_33 : decode cX12_ever 33 = .ok (.aload_n 0, 1) := by decide +kernel
theorem dX12_ever_34 : decode cX12_ever 34 = .ok (.iload_n 1, 1) := by decide +kernel
theorem dX12_ever_35 : decode cX12_ever 35 = .ok (.iconst (-1), 1) := by decide +kernel
theorem dX12_ever_36 : decode cX12_ever 36 = .ok (.iload_n 2, 1) := by decide +kernel
theorem dX12_ever_37 : decode cX12_ever 37 = .ok (.iload_n 3, 1) := by decide +kernel
theorem dX12_ever_38 : decode cX12_ever 38 = .ok (.invokevirtual 313, 3) := by decide +kernel
theorem dX12_ever_41 : decode cX12_ever 41 = .ok (.invokevirtual 317, 3) := by decide +kernel
theorem dX12_ever_44 : decode cX12_ever 44 = .ok (.ireturn, 1) := by decide +kernel
theorem dX12_howLong_0 : decode cX12_howLong 0 = .ok (.aload_n 0, 1) := by decide +kernel
theorem dX12_howLong_1 : decode cX12_howLong 1 = .ok (.iload_n 1, 1) := by decide +kernel
theorem dX12_howLong_2 : decode cX12_howLong 2 = .ok (.invokevirtual 191, 3) := by decide +kernel
theorem dX12_howLong_5 : decode cX12_howLong 5 = .ok (.ifCond .eq 25, 3) := by decide +kernel
theorem dX12_howLong_8 : decode cX12_howLong 8 = .ok (.aload_n 0, 1) := by decide +kernel
theorem dX12_howLong_9 : decode cX12_howLong 9 = .ok (.iload_n 2, 1) := by decide +kernel
theorem dX12_howLong_10 : decode cX12_howLong 10 = .ok (.iload_n 3, 1) := by decide +kernel
theorem dX12_howLong_11 : decode cX12_howLong 11 = .ok (.invokevirtual 230, 3) := by decide +kernel
theorem dX12_howLong_14 : decode cX12_howLong 14 = .ok (.ifCond .eq 16, 3) := by decide +kernel
theorem dX12_howLong_17 : decode cX12_howLong 17 = .ok (.aload_n 0, 1) := by decide +kernel
theorem dX12_howLong_18 : decode cX12_howLong 18 = .ok (.aload_n 0, 1) := by decide +kernel
theorem dX12_howLong_19 : decode cX12_howLong 19 = .ok (.invokevirtual 286, 3) := by decide +kernel
theorem dX12_howLong_22 : decode cX12_howLong 22 = .ok (.iconst (-1), 1) := by decide +kernel
theorem dX12_howLong_23 : decode cX12_howLong 23 = .ok (.iconst (-1), 1) := by decide +kernel
theorem dX12_howLong_24 : decode cX12_howLong 24 = .ok (.invokevirtual 289, 3) := by decide +kernel
theorem dX12_howLong_27 : decode cX12_howLong 27 = .ok (.ifCond .ne 5, 3) := by decide +kernel
theorem dX12_howLong_30 : decode cX12_howLong 30 = .ok (.iconst (-1), 1) := by decide +kernel
theorem dX12_howLong_31 : decode cX12_howLong 31 = .ok (.ireturn, 1) := by decide +kernel
theorem dX12_howLong_32 : decode cX12_howLong 32 = .ok (.aload_n 0, 1) := by decide +kernel
theorem dX12_howLong_33 : decode cX12_howLong 33 = .ok (.iload_n 1, 1) := by decide +kernel
theorem dX12_howLong_34 : decode cX12_howLong 34 = .ok (.iconst (-1), 1) := by decide +kernel
theorem dX12_howLong_35 : decode cX12_howLong 35 = .ok (.iload_n 2, 1) := by decide +kernel
theorem dX12_howLong_36 : decode cX12_howLong 36 = .ok (.iload_n 3, 1) := by decide +kernel
theorem dX12_howLong_37 : decode cX12_howLong 37 = .ok (.invokevirtual 313, 3) := by decide +kernel
theorem dX12_howLong_40 : decode cX12_howLong 40 = .ok (.ireturn, 1) := by decide +kernel
theorem dX12_since_0 : decode cX12_since 0 = .ok (.aload_n 0, 1) := by decide +kernel
theorem dX12_since_1 : decode cX12_since 1 = .ok (.iload_n 1, 1) := by decide +kernel
theorem dX12_since_2 : decode cX12_since 2 = .ok (.iload_n 2, 1) := by decide +kernel
theorem dX12_since_3 : decode cX12_since 3 = .ok (.invokevirtual 310, 3) := by decide +kernel
theorem dX12_since_6 : decode cX12_since 6 = .ok (.iconst 1, 1) := by decide +kernel
theorem dX12_since_7 : decode cX12_since 7 = .ok (.if_icmp .eq 5, 3) := by decide +kernel
theorem dX12_since_10 : decode cX12_since 10 = .ok (.iconst (-1), 1) := by decide +kernel
theorem dX12_since_11 : decode cX12_since 11 = .ok (.ireturn, 1) := by decide +kernel
theorem dX12_since_12 : decode cX12_since 12 = .ok (.iload_n 2, 1) := by decide +kernel
theorem dX12_since_13 : decode cX12_since 13 = .ok (.istore_n 3, 1) := by decide +kernel
theorem dX12_since_14 : decode cX12_since 14 = .ok (.iload_n 3, 1) := by decide +kernel
theorem dX12_since_15 : decode cX12_since 15 = .ok (.ifCond .le 21, 3) := by decide +kernel
theorem dX12_since_18 : decode cX12_since 18 = .ok (.aload_n 0, 1) := by decide +kernel
theorem dX12_since_19 : decode cX12_since 19 = .ok (.iload_n 1, 1) := by decide +kernel
theorem dX12_since_20 : decode cX12_since 20 = .ok (.iload_n 3, 1) := by decide +kernel
theorem dX12_since_21 : decode cX12_since 21 = .ok (.iconst 1, 1) := by decide +kernel
theorem dX12_since_22 : decode cX12_since 22 = .ok (.isub, 1) := by decide +kernel
theorem dX12_since_23 : decode cX12_since 23 = .ok (.invokevirtual 304, 3) := by decide +kernel
theorem dX12_since_26 : decode cX12_since 26 = .ok (.iconst 1, 1) := by decide +kernel
theorem dX12_since_27 : decode cX12_since 27 = .ok (.if_icmp .ne 9, 3) := by decide +kernel
theorem dX12_since_30 : decode cX12_since 30 = .ok (.iinc 3 (-1), 3) := by decide +kernel
theorem dX12_since_33 : decode cX12_since 33 = .ok (.goto (-19), 3) := by decide +kernel
theorem dX12_since_36 : decode cX12_since 36 = .ok (.iload_n 3, 1) := by decide +kernel
theorem dX12_since_37 : decode cX12_since 37 = .ok (.ireturn, 1) := by decide +kernel
theorem dX12_surelyMay_0 : decode cX12_surelyMay 0 = .ok (.bipush 63, 2) := by decide +kernel
theorem dX12_surelyMay_2 : decode cX12_surelyMay 2 = .ok (.istore_n 2, 1) := by decide +kernel
theorem dX12_surelyMay_3 : decode cX12_surelyMay 3 = .ok (.iconst 0, 1) := by decide +kernel
theorem dX12_surelyMay_4 : decode cX12_surelyMay 4 = .ok (.istore_n 3, 1) := by decide +kernel
theorem dX12_surelyMay_5 : decode cX12_surelyMay 5 = .ok (.iload_n 3, 1) := by decide +kernel
theorem dX12_surelyMay_6 : decode cX12_surelyMay 6 = .ok (.sipush 1024, 3) := by decide +kernel
theorem dX12_surelyMay_9 : decode cX12_surelyMay 9 = .ok (.if_icmp .ge 80, 3) := by decide +kernel
theorem dX12_surelyMay_12 : decode cX12_surelyMay 12 = .ok (.aload_n 0, 1) := by decide +kernel
theorem dX12_surelyMay_13 : decode cX12_surelyMay 13 = .ok (.getfield 99, 3) := by decide +kernel
theorem dX12_surelyMay_16 : decode cX12_surelyMay 16 = .ok (.sipush 1024, 3) := by decide +kernel
theorem dX12_surelyMay_19 : decode cX12_surelyMay 19 = .ok (.iload_n 1, 1) := by decide +kernel
theorem dX12_surelyMay_20 : decode cX12_surelyMay 20 = .ok (.imul, 1) := by decide +kernel
theorem dX12_surelyMay_21 : decode cX12_surelyMay 21 = .ok (.iload_n 3, 1) := by decide +kernel
theorem dX12_surelyMay_22 : decode cX12_surelyMay 22 = .ok (.iadd, 1) := by decide +kernel
theorem dX12_surelyMay_23 : decode cX12_surelyMay 23 = .ok (.iaload, 1) := by decide +kernel
theorem dX12_surelyMay_24 : decode cX12_surelyMay 24 = .ok (.ldc_w 274, 3) := by decide +kernel
theorem dX12_surelyMay_27 : decode cX12_surelyMay 27 = .ok (.if_icmp .ne 6, 3) := by decide +kernel
theorem dX12_surelyMay_30 : decode cX12_surelyMay 30 = .ok (.goto 53, 3) := by decide +kernel
theorem dX12_surelyMay_33 : decode cX12_surelyMay 33 = .ok (.aload_n 0, 1) := by decide +kernel
theorem dX12_surelyMay_34 : decode cX12_surelyMay 34 = .ok (.iload_n 1, 1) := by decide +kernel
theorem dX12_surelyMay_35 : decode cX12_surelyMay 35 = .ok (.iload_n 3, 1) := by decide +kernel
theorem dX12_surelyMay_36 : decode cX12_surelyMay 36 = .ok (.invokevirtual 275, 3) := by decide +kernel
theorem dX12_surelyMay_39 : decode cX12_surelyMay 39 = .ok (.iconst 0, 1) := by decide +kernel
theorem dX12_surelyMay_40 : decode cX12_surelyMay 40 = .ok (.istore 4, 2) := by decide +kernel
theorem dX12_surelyMay_42 : decode cX12_surelyMay 42 = .ok (.iload 4, 2) := by decide +kernel
theorem dX12_surelyMay_44 : decode cX12_surelyMay 44 = .ok (.aload_n 0, 1) := by decide +kernel
theorem dX12_surelyMay_45 : decode cX12_surelyMay 45 = .ok (.getfield 264, 3) := by decide +kernel
theorem dX12_surelyMay_48 : decode cX12_surelyMay 48 = .ok (.if_icmp .ge 35, 3) := by decide +kernel
theorem dX12_surelyMay_51 : decode cX12_surelyMay 51 = .ok (.aload_n 0, 1) := by decide +kernel
theorem dX12_surelyMay_52 : decode cX12_surelyMay 52 = .ok (.iload_n 1, 1) := by decide +kernel
theorem dX12_surelyMay_53 : decode cX12_surelyMay 53 = .ok (.iload_n 3, 1) := by decide +kernel
theorem dX12_surelyMay_54 : decode cX12_surelyMay 54 = .ok (.iload 4, 2) := by decide +kernel
theorem dX12_surelyMay_56 : decode cX12_surelyMay 56 = .ok (.invokevirtual 295, 3) := by decide +kernel
theorem dX12_surelyMay_59 : decode cX12_surelyMay 59 = .ok (.ifCond .eq 18, 3) := by decide +kernel
theorem dX12_surelyMay_62 : decode cX12_surelyMay 62 = .ok (.iload_n 2, 1) := by decide +kernel
theorem dX12_surelyMay_63 : decode cX12_surelyMay 63 = .ok (.aload_n 0, 1) := by decide +kernel
theorem dX12_surelyMay_64 : decode cX12_surelyMay 64 = .ok (.getfield 75, 3) := by decide +kernel
theorem dX12_surelyMay_67 : decode cX12_surelyMay 67 = .ok (.aload_n 0, 1) := by decide +kernel
theorem dX12_surelyMay_68 : decode cX12_surelyMay 68 = .ok (.getfield 105, 3) := by decide +kernel
theorem dX12_surelyMay_71 : decode cX12_surelyMay 71 = .ok (.iload 4, 2) := by decide +kernel
theorem dX12_surelyMay_73 : decode cX12_surelyMay 73 = .ok (.iaload, 1) := by decide +kernel
theorem dX12_surelyMay_74 : decode cX12_surelyMay 74 = .ok (.iaload, 1) := by decide +kernel
theorem dX12_surelyMay_75 : decode cX12_surelyMay 75 = .ok (.iand, 1) := by decide +kernel
theorem dX12_surelyMay_76 : decode cX12_surelyMay 76 = .ok (.istore_n 2, 1) := by decide +kernel
theorem dX12_surelyMay_77 : decode cX12_surelyMay 77 = .ok (.iinc 4 1, 3) := by decide +kernel
theorem dX12_surelyMay_80 : decode cX12_surelyMay 80 = .ok (.goto (-38), 3) := by decide +kernel
theorem dX12_surelyMay_83 : decode cX12_surelyMay 83 = .ok (.iinc 3 1, 3) := by decide +kernel
theorem dX12_surelyMay_86 : decode cX12_surelyMay 86 = .ok (.goto (-81), 3) := by decide +kernel
theorem dX12_surelyMay_89 : decode cX12_surelyMay 89 = .ok (.aload_n 0, 1) := by decide +kernel
theorem dX12_surelyMay_90 : decode cX12_surelyMay 90 = .ok (.getfield 81, 3) := by decide +kernel
theorem dX12_surelyMay_93 : decode cX12_surelyMay 93 = .ok (.iload_n 1, 1) := by decide +kernel
theorem dX12_surelyMay_94 : decode cX12_surelyMay 94 = .ok (.iaload, 1) := by decide +kernel
theorem dX12_surelyMay_95 : decode cX12_surelyMay 95 = .ok (.ifCond .lt 8, 3) := by decide +kernel
theorem dX12_surelyMay_98 : decode cX12_surelyMay 98 = .ok (.bipush 64, 2) := by decide +kernel
theorem dX12_surelyMay_100 : decode cX12_surelyMay 100 = .ok (.goto 4, 3) := by decide +kernel
theorem dX12_surelyMay_103 : decode cX12_surelyMay 103 = .ok (.iload_n 2, 1) := by decide +kernel
theorem dX12_surelyMay_104 : decode cX12_surelyMay 104 = .ok (.ireturn, 1) := by decide +kernel
theorem dX12_plan_0 : decode cX12_plan 0 = .ok (.aload_n 0, 1) := by decide +kernel
theorem dX12_plan_1 : decode cX12_plan 1 = .ok (.iload_n 1, 1) := by decide +kernel
theorem dX12_plan_2 : decode cX12_plan 2 = .ok (.invokevirtual 191, 3) := by decide +kernel
theorem dX12_plan_5 : decode cX12_plan 5 = .ok (.ifCond .eq 37, 3) := by decide +kernel
theorem dX12_plan_8 : decode cX12_plan 8 = .ok (.aload_n 0, 1) := by decide +kernel
theorem dX12_plan_9 : decode cX12_plan 9 = .ok (.iload_n 2, 1) := by decide +kernel
theorem dX12_plan_10 : decode cX12_plan 10 = .ok (.invokevirtual 168, 3) := by decide +kernel
theorem dX12_plan_13 : decode cX12_plan 13 = .ok (.ifCond .eq 29, 3) := by decide +kernel
theorem dX12_plan_16 : decode cX12_plan 16 = .ok (.aload_n 0, 1) := by decide +kernel
theorem dX12_plan_17 : decode cX12_plan 17 = .ok (.iload_n 3, 1) := by decide +kernel
theorem dX12_plan_18 : decode cX12_plan 18 = .ok (.invokevirtual 168, 3) := by decide +kernel
theorem dX12_plan_21 : decode cX12_plan 21 = .ok (.ifCond .eq 21, 3) := by decide +kernel
theorem dX12_plan_24 : decode cX12_plan 24 = .ok (.iload_n 2, 1) := by decide +kernel
theorem dX12_plan_25 : decode cX12_plan 25 = .ok (.iload_n 3, 1) := by decide +kernel
theorem dX12_plan_26 : decode cX12_plan 26 = .ok (.if_icmp .ge 16, 3) := by decide +kernel
theorem dX12_plan_29 : decode cX12_plan 29 = .ok (.aload_n 0, 1) := by decide +kernel
theorem dX12_plan_30 : decode cX12_plan 30 = .ok (.aload_n 0, 1) := by decide +kernel
theorem dX12_plan_31 : decode cX12_plan 31 = .ok (.invokevirtual 286, 3) := by decide +kernel
theorem dX12_plan_34 : decode cX12_plan 34 = .ok (.iconst (-1), 1) := by decide +kernel
theorem dX12_plan_35 : decode cX12_plan 35 = .ok (.iconst (-1), 1) := by decide +kernel
theorem dX12_plan_36 : decode cX12_plan 36 = .ok (.invokevirtual 289, 3) := by decide +kernel
theorem dX12_plan_39 : decode cX12_plan 39 = .ok (.ifCond .ne 5, 3) := by decide +kernel
theorem dX12_plan_42 : decode cX12_plan 42 = .ok (.iconst (-1), 1) := by decide +kernel
theorem dX12_plan_43 : decode cX12_plan 43 = .ok (.ireturn, 1) := by decide +kernel
theorem dX12_plan_44 : decode cX12_plan 44 = .ok (.iload_n 2, 1) := by decide +kernel
theorem dX12_plan_45 : decode cX12_plan 45 = .ok (.istore 4, 2) := by decide +kernel
theorem dX12_plan_47 : decode cX12_plan 47 = .ok (.iload 4, 2) := by decide +kernel
theorem dX12_plan_49 : decode cX12_plan 49 = .ok (.iload_n 3, 1) := by decide +kernel
theorem dX12_plan_50 : decode cX12_plan 50 = .ok (.if_icmp .ge 22, 3) := by decide +kernel
theorem dX12_plan_53 : decode cX12_plan 53 = .ok (.aload_n 0, 1) := by decide +kernel
theorem dX12_plan_54 : decode cX12_plan 54 = .ok (.getfield 156, 3) := by decide +kernel
theorem dX12_plan_57 : decode cX12_plan 57 = .ok (.iload 4, 2) := by decide +kernel
theorem dX12_plan_59 : decode cX12_plan 59 = .ok (.aload_n 0, 1) := by decide +kernel
theorem dX12_plan_60 : decode cX12_plan 60 = .ok (.iload 4, 2) := by decide +kernel
theorem dX12_plan_62 : decode cX12_plan 62 = .ok (.invokevirtual 320, 3) := by decide +kernel
theorem dX12_plan_65 : decode cX12_plan 65 = .ok (.iastore, 1) := by decide +kernel
theorem dX12_plan_66 : decode cX12_plan 66 = .ok (.iinc 4 1, 3) := by decide +kernel
theorem dX12_plan_69 : decode cX12_plan 69 = .ok (.goto (-22), 3) := by decide +kernel
theorem dX12_plan_72 : decode cX12_plan 72 = .ok (.iload_n 2, 1) := by decide +kernel
theorem dX12_plan_73 : decode cX12_plan 73 = .ok (.istore 4, 2) := by decide +kernel
theorem dX12_plan_75 : decode cX12_plan 75 = .ok (.iload 4, 2) := by decide +kernel
theorem dX12_plan_77 : decode cX12_plan 77 = .ok (.iload_n 3, 1) := by decide +kernel
theorem dX12_plan_78 : decode cX12_plan 78 = .ok (.if_icmp .ge 79, 3) := by decide +kernel
theorem dX12_plan_81 : decode cX12_plan 81 = .ok (.iconst 0, 1) := by decide +kernel
theorem dX12_plan_82 : decode cX12_plan 82 = .ok (.istore 5, 2) := by decide +kernel
theorem dX12_plan_84 : decode cX12_plan 84 = .ok (.iload 5, 2) := by decide +kernel
theorem dX12_plan_86 : decode cX12_plan 86 = .ok (.aload_n 0, 1) := by decide +kernel
theorem dX12_plan_87 : decode cX12_plan 87 = .ok (.getfield 162, 3) := by decide +kernel
theorem dX12_plan_90 : decode cX12_plan 90 = .ok (.if_icmp .ge 61, 3) := by decide +kernel
theorem dX12_plan_93 : decode cX12_plan 93 = .ok (.aload_n 0, 1) := by decide +kernel
theorem dX12_plan_94 : decode cX12_plan 94 = .ok (.getfield 156, 3) := by decide +kernel
theorem dX12_plan_97 : decode cX12_plan 97 = .ok (.iload 4, 2) := by decide +kernel
theorem dX12_plan_99 : decode cX12_plan 99 = .ok (.iaload, 1) := by decide +kernel
theorem dX12_plan_100 : decode cX12_plan 100 = .ok (.iload 5, 2) := by decide +kernel
theorem dX12_plan_102 : decode cX12_plan 102 = .ok (.ishr, 1) := by decide +kernel
theorem dX12_plan_103 : decode cX12_plan 103 = .ok (.iconst 1, 1) := by decide +kernel
theorem dX12_plan_104 : decode cX12_plan 104 = .ok (.iand, 1) := by decide +kernel
theorem dX12_plan_105 : decode cX12_plan 105 = .ok (.ifCond .ne 6, 3) := by decide +kernel
theorem dX12_plan_108 : decode cX12_plan 108 = .ok (.goto 37, 3) := by decide +kernel
theorem dX12_plan_111 : decode cX12_plan 111 = .ok (.aload_n 0, 1) := by decide +kernel
theorem dX12_plan_112 : decode cX12_plan 112 = .ok (.aload_n 0, 1) := by decide +kernel
theorem dX12_plan_113 : decode cX12_plan 113 = .ok (.invokevirtual 286, 3) := by decide +kernel
theorem dX12_plan_116 : decode cX12_plan 116 = .ok (.iload 4, 2) := by decide +kernel
theorem dX12_plan_118 : decode cX12_plan 118 = .ok (.iload 5, 2) := by decide +kernel
theorem dX12_plan_120 : decode cX12_plan 120 = .ok (.invokevirtual 289, 3) := by decide +kernel
theorem dX12_plan_123 : decode cX12_plan 123 = .ok (.ifCond .eq 22, 3) := by decide +kernel
theorem dX12_plan_126 : decode cX12_plan 126 = .ok (.aload_n 0, 1) := by decide +kernel
theorem dX12_plan_127 : decode cX12_plan 127 = .ok (.iload_n 1, 1) := by decide +kernel
theorem dX12_plan_128 : decode cX12_plan 128 = .ok (.iload_n 3, 1) := by decide +kernel
theorem dX12_plan_129 : decode cX12_plan 129 = .ok (.invokevirtual 304, 3) := by decide +kernel
theorem dX12_plan_132 : decode cX12_plan 132 = .ok (.iconst 1, 1) := by decide +kernel
theorem dX12_plan_133 : decode cX12_plan 133 = .ok (.if_icmp .ne 12, 3) := by decide +kernel
theorem dX12_plan_136 : decode cX12_plan 136 = .ok (.bipush 10, 2) := by decide +kernel
theorem dX12_plan_138 : decode cX12_plan 138 = .ok (.iload 4, 2) := by decide +kernel
theorem dX12_plan_140 : decode cX12_plan 140 = .ok (.imul, 1) := by decide +kernel
theorem dX12_plan_141 : decode cX12_plan 141 = .ok (.iload 5, 2) := by decide +kernel
theorem dX12_plan_143 : decode cX12_plan 143 = .ok (.iadd, 1) := by decide +kernel
theorem dX12_plan_144 : decode cX12_plan 144 = .ok (.ireturn, 1) := by decide +kernel
theorem dX12_plan_145 : decode cX12_plan 145 = .ok (.iinc 5 1, 3) := by decide +kernel
theorem dX12_plan_148 : decode cX12_plan 148 = .ok (.goto (-64), 3) := by decide +kernel
theorem dX12_plan_151 : decode cX12_plan 151 = .ok (.iinc 4 1, 3) := by decide +kernel
theorem dX12_plan_154 : decode cX12_plan 154 = .ok (.goto (-79), 3) := by decide +kernel
theorem dX12_plan_157 : decode cX12_plan 157 = .ok (.iconst (-1), 1) := by decide +kernel
theorem dX12_plan_158 : decode cX12_plan 158 = .ok (.ireturn, 1) := by decide +kernel
theorem dX12_seemed_0 : decode cX12_seemed 0 = .ok (.aload_n 0, 1) := by decide +kernel
theorem dX12_seemed_1 : decode cX12_seemed 1 = .ok (.iload_n 1, 1) := by decide +kernel
theorem dX12_seemed_2 : decode cX12_seemed 2 = .ok (.invokevirtual 223, 3) := by decide +kernel
theorem dX12_seemed_5 : decode cX12_seemed 5 = .ok (.ifCond .eq 28, 3) := by decide +kernel
theorem dX12_seemed_8 : decode cX12_seemed 8 = .ok (.aload_n 0, 1) := by decide +kernel
theorem dX12_seemed_9 : decode cX12_seemed 9 = .ok (.iload_n 2, 1) := by decide +kernel
theorem dX12_seemed_10 : decode cX12_seemed 10 = .ok (.invokevirtual 168, 3) := by decide +kernel
theorem dX12_seemed_13 : decode cX12_seemed 13 = .ok (.ifCond .eq 20, 3) := by decide +kernel
theorem dX12_seemed_16 : decode cX12_seemed 16 = .ok (.aload_n 0, 1) := by decide +kernel
theorem dX12_seemed_17 : decode cX12_seemed 17 = .ok (.iload_n 3, 1) := by decide +kernel
theorem dX12_seemed_18 : decode cX12_seemed 18 = .ok (.invokevirtual 191, 3) := by decide +kernel
theorem dX12_seemed_21 : decode cX12_seemed 21 = .ok (.ifCond .eq 12, 3) := by decide +kernel
theorem dX12_seemed_24 : decode cX12_seemed 24 = .ok (.aload_n 0, 1) := by decide +kernel
theorem dX12_seemed_25 : decode cX12_seemed 25 = .ok (.iload 4, 2) := by decide +kernel
theorem dX12_seemed_27 : decode cX12_seemed 27 = .ok (.invokevirtual 168, 3) := by decide +kernel
theorem dX12_seemed_30 : decode cX12_seemed 30 = .ok (.ifCond .ne 5, 3) := by decide +kernel
theorem dX12_seemed_33 : decode cX12_seemed 33 = .ok (.iconst (-1), 1) := by decide +kernel
theorem dX12_seemed_34 : decode cX12_seemed 34 = .ok (.ireturn, 1) := by decide +kernel
theorem dX12_seemed_35 : decode cX12_seemed 35 = .ok (.iconst 0, 1) := by decide +kernel
theorem dX12_seemed_36 : decode cX12_seemed 36 = .ok (.istore 5, 2) := by decide +kernel
theorem dX12_seemed_38 : decode cX12_seemed 38 = .ok (.iconst 0, 1) := by decide +kernel
theorem dX12_seemed_39 : decode cX12_seemed 39 = .ok (.istore 6, 2) := by decide +kernel
theorem dX12_seemed_41 : decode cX12_seemed 41 = .ok (.iload 6, 2) := by decide +kernel
theorem dX12_seemed_43 : decode cX12_seemed 43 = .ok (.aload_n 0, 1) := by decide +kernel
theorem dX12_seemed_44 : decode cX12_seemed 44 = .ok (.getfield 165, 3) := by decide +kernel
theorem dX12_seemed_47 : decode cX12_seemed 47 = .ok (.if_icmp .ge 50, 3) := by decide +kernel
theorem dX12_seemed_50 : decode cX12_seemed 50 = .ok (.aload_n 0, 1) := by decide +kernel
theorem dX12_seemed_51 : decode cX12_seemed 51 = .ok (.getfield 49, 3) := by decide +kernel
theorem dX12_seemed_54 : decode cX12_seemed 54 = .ok (.iload 6, 2) := by decide +kernel
theorem dX12_seemed_56 : decode cX12_seemed 56 = .ok (.iaload, 1) := by decide +kernel
theorem dX12_seemed_57 : decode cX12_seemed 57 = .ok (.ifCond .ne 34, 3) := by decide +kernel
theorem dX12_seemed_60 : decode cX12_seemed 60 = .ok (.aload_n 0, 1) := by decide +kernel
theorem dX12_seemed_61 : decode cX12_seemed 61 = .ok (.getfield 46, 3) := by decide +kernel
theorem dX12_seemed_64 : decode cX12_seemed 64 = .ok (.iload 6, 2) := by decide +kernel
theorem dX12_seemed_66 : decode cX12_seemed 66 = .ok (.iaload, 1) := by decide +kernel
theorem dX12_seemed_67 : decode cX12_seemed 67 = .ok (.iload_n 1, 1) := by decide +kernel
theorem dX12_seemed_68 : decode cX12_seemed 68 = .ok (.if_icmp .ne 23, 3) := by decide +kernel
theorem dX12_seemed_71 : decode cX12_seemed 71 = .ok (.aload_n 0, 1) := by decide +kernel
theorem dX12_seemed_72 : decode cX12_seemed 72 = .ok (.getfield 40, 3) := by decide +kernel
theorem dX12_seemed_75 : decode cX12_seemed 75 = .ok (.iload 6, 2) := by decide +kernel
theorem dX12_seemed_77 : decode cX12_seemed 77 = .ok (.iaload, 1) := by decide +kernel
theorem dX12_seemed_78 : decode cX12_seemed 78 = .ok (.iload_n 2, 1) := by decide +kernel
theorem dX12_seemed_79 : decode cX12_seemed 79 = .ok (.if_icmp .gt 12, 3) := by decide +kernel
theorem dX12_seemed_82 : decode cX12_seemed 82 = .ok (.iload 5, 2) := by decide +kernel
theorem dX12_seemed_84 : decode cX12_seemed 84 = .ok (.iconst 1, 1) := by decide +kernel
theorem dX12_seemed_85 : decode cX12_seemed 85 = .ok (.iload 6, 2) := by decide +kernel
theorem dX12_seemed_87 : decode cX12_seemed 87 = .ok (.ishl, 1) := by decide +kernel
theorem dX12_seemed_88 : decode cX12_seemed 88 = .ok (.ior, 1) := by decide +kernel
theorem dX12_seemed_89 : decode cX12_seemed 89 = .ok (.istore 5, 2) := by decide +kernel
theorem dX12_seemed_91 : decode cX12_seemed 91 = .ok (.iinc 6 1, 3) := by decide +kernel
theorem dX12_seemed_94 : decode cX12_seemed 94 = .ok (.goto (-53), 3) := by decide +kernel
theorem dX12_seemed_97 : decode cX12_seemed 97 = .ok (.aload_n 0, 1) := by decide +kernel
theorem dX12_seemed_98 : decode cX12_seemed 98 = .ok (.iload 5, 2) := by decide +kernel
theorem dX12_seemed_100 : decode cX12_seemed 100 = .ok (.iconst (-1), 1) := by decide +kernel
theorem dX12_seemed_101 : decode cX12_seemed 101 = .ok (.iconst (-1), 1) := by decide +kernel
theorem dX12_seemed_102 : decode cX12_seemed 102 = .ok (.invokevirtual 289, 3) := by decide +kernel
theorem dX12_seemed_105 : decode cX12_seemed 105 = .ok (.ifCond .eq 13, 3) := by decide +kernel
theorem dX12_seemed_108 : decode cX12_seemed 108 = .ok (.aload_n 0, 1) := by decide +kernel
theorem dX12_seemed_109 : decode cX12_seemed 109 = .ok (.iload_n 3, 1) := by decide +kernel
theorem dX12_seemed_110 : decode cX12_seemed 110 = .ok (.iload 4, 2) := by decide +kernel
theorem dX12_seemed_112 : decode cX12_seemed 112 = .ok (.invokevirtual 304, 3) := by decide +kernel
theorem dX12_seemed_115 : decode cX12_seemed 115 = .ok (.goto 4, 3) := by decide +kernel
theorem dX12_seemed_118 : decode cX12_seemed 118 = .ok (.iconst (-1), 1) := by decide +kernel
theorem dX12_seemed_119 : decode cX12_seemed 119 = .ok (.ireturn, 1) := by decide +kernel
theorem dX12_ran_0 : decode cX12_ran 0 = .ok (.aload_n 0, 1) := by decide +kernel
theorem dX12_ran_1 : decode cX12_ran 1 = .ok (.getfield 323, 3) := by decide +kernel
theorem dX12_ran_4 : decode cX12_ran 4 = .ok (.bipush 20, 2) := by decide +kernel
theorem dX12_ran_6 : decode cX12_ran 6 = .ok (.if_icmp .ge 13, 3) := by decide +kernel
theorem dX12_ran_9 : decode cX12_ran 9 = .ok (.aload_n 0, 1) := by decide +kernel
theorem dX12_ran_10 : decode cX12_ran 10 = .ok (.getfield 135, 3) := by decide +kernel
theorem dX12_ran_13 : decode cX12_ran 13 = .ok (.aload_n 0, 1) := by decide +kernel
theorem dX12_ran_14 : decode cX12_ran 14 = .ok (.getfield 323, 3) := by decide +kernel
theorem dX12_ran_17 : decode cX12_ran 17 = .ok (.iload_n 1, 1) := by decide +kernel
theorem dX12_ran_18 : decode cX12_ran 18 = .ok (.iastore, 1) := by decide +kernel
theorem dX12_ran_19 : decode cX12_ran 19 = .ok (.aload_n 0, 1) := by decide +kernel
theorem dX12_ran_20 : decode cX12_ran 20 = .ok (.dup, 1) := by decide +kernel
theorem dX12_ran_21 : decode cX12_ran 21 = .ok (.getfield 323, 3) := by decide +kernel
theorem dX12_ran_24 : decode cX12_ran 24 = .ok (.iconst 1, 1) := by decide +kernel
theorem dX12_ran_25 : decode cX12_ran 25 = .ok (.iadd, 1) := by decide +kernel
theorem dX12_ran_26 : decode cX12_ran 26 = .ok (.putfield 323, 3) := by decide +kernel
theorem dX12_ran_29 : decode cX12_ran 29 = .ok (.return_, 1) := by decide +kernel
theorem dX12_tells_0 : decode cX12_tells 0 = .ok (.aload_n 0, 1) := by decide +kernel
theorem dX12_tells_1 : decode cX12_tells 1 = .ok (.getfield 31, 3) := by decide +kernel
theorem dX12_tells_4 : decode cX12_tells 4 = .ok (.iload_n 1, 1) := by decide +kernel
theorem dX12_tells_5 : decode cX12_tells 5 = .ok (.iaload, 1) := by decide +kernel
theorem dX12_tells_6 : decode cX12_tells 6 = .ok (.iconst 2, 1) := by decide +kernel
theorem dX12_tells_7 : decode cX12_tells 7 = .ok (.if_icmp .ne 9, 3) := by decide +kernel
theorem dX12_tells_10 : decode cX12_tells 10 = .ok (.aload_n 0, 1) := by decide +kernel
theorem dX12_tells_11 : decode cX12_tells 11 = .ok (.bipush 30, 2) := by decide +kernel
theorem dX12_tells_13 : decode cX12_tells 13 = .ok (.invokevirtual 326, 3) := by decide +kernel
theorem dX12_tells_16 : decode cX12_tells 16 = .ok (.aload_n 0, 1) := by decide +kernel
theorem dX12_tells_17 : decode cX12_tells 17 = .ok (.getfield 31, 3) := by decide +kernel
theorem dX12_tells_20 : decode cX12_tells 20 = .ok (.iload_n 1, 1) := by decide +kernel
theorem dX12_tells_21 : decode cX12_tells 21 = .ok (.iaload, 1) := by decide +kernel
theorem dX12_tells_22 : decode cX12_tells 22 = .ok (.iconst 3, 1) := by decide +kernel
theorem dX12_tells_23 : decode cX12_tells 23 = .ok (.if_icmp .ne 9, 3) := by decide +kernel
theorem dX12_tells_26 : decode cX12_tells 26 = .ok (.aload_n 0, 1) := by decide +kernel
theorem dX12_tells_27 : decode cX12_tells 27 = .ok (.bipush 41, 2) := by decide +kernel
theorem dX12_tells_29 : decode cX12_tells 29 = .ok (.invokevirtual 326, 3) := by decide +kernel
theorem dX12_tells_32 : decode cX12_tells 32 = .ok (.aload_n 0, 1) := by decide +kernel
theorem dX12_tells_33 : decode cX12_tells 33 = .ok (.bipush 10, 2) := by decide +kernel
theorem dX12_tells_35 : decode cX12_tells 35 = .ok (.invokevirtual 326, 3) := by decide +kernel
theorem dX12_tells_38 : decode cX12_tells 38 = .ok (.aload_n 0, 1) := by decide +kernel
theorem dX12_tells_39 : decode cX12_tells 39 = .ok (.getfield 31, 3) := by decide +kernel
theorem dX12_tells_42 : decode cX12_tells 42 = .ok (.iload_n 1, 1) := by decide +kernel
theorem dX12_tells_43 : decode cX12_tells 43 = .ok (.iaload, 1) := by decide +kernel
theorem dX12_tells_44 : decode cX12_tells 44 = .ok (.iconst 3, 1) := by decide +kernel
theorem dX12_tells_45 : decode cX12_tells 45 = .ok (.if_icmp .ne 9, 3) := by decide +kernel
theorem dX12_tells_48 : decode cX12_tells 48 = .ok (.iload_n 2, 1) := by decide +kernel
theorem dX12_tells_49 : decode cX12_tells 49 = .ok (.iconst 1, 1) := by decide +kernel
theorem dX12_tells_50 : decode cX12_tells 50 = .ok (.iadd, 1) := by decide +kernel
theorem dX12_tells_51 : decode cX12_tells 51 = .ok (.goto 4, 3) := by decide +kernel
theorem dX12_tells_54 : decode cX12_tells 54 = .ok (.iload_n 2, 1) := by decide +kernel
theorem dX12_tells_55 : decode cX12_tells 55 = .ok (.aload_n 0, 1) := by decide +kernel
theorem dX12_tells_56 : decode cX12_tells 56 = .ok (.getfield 37, 3) := by decide +kernel
theorem dX12_tells_59 : decode cX12_tells 59 = .ok (.iload_n 1, 1) := by decide +kernel
theorem dX12_tells_60 : decode cX12_tells 60 = .ok (.iaload, 1) := by decide +kernel
theorem dX12_tells_61 : decode cX12_tells 61 = .ok (.iadd, 1) := by decide +kernel
theorem dX12_tells_62 : decode cX12_tells 62 = .ok (.istore_n 3, 1) := by decide +kernel
theorem dX12_tells_63 : decode cX12_tells 63 = .ok (.aload_n 0, 1) := by decide +kernel
theorem dX12_tells_64 : decode cX12_tells 64 = .ok (.getfield 31, 3) := by decide +kernel
theorem dX12_tells_67 : decode cX12_tells 67 = .ok (.iload_n 1, 1) := by decide +kernel
theorem dX12_tells_68 : decode cX12_tells 68 = .ok (.iaload, 1) := by decide +kernel
theorem dX12_tells_69 : decode cX12_tells 69 = .ok (.iconst 2, 1) := by decide +kernel
theorem dX12_tells_70 : decode cX12_tells 70 = .ok (.if_icmp .ne 9, 3) := by decide +kernel
theorem dX12_tells_73 : decode cX12_tells 73 = .ok (.iload_n 3, 1) := by decide +kernel
theorem dX12_tells_74 : decode cX12_tells 74 = .ok (.iconst 3, 1) := by decide +kernel
theorem dX12_tells_75 : decode cX12_tells 75 = .ok (.imul, 1) := by decide +kernel
theorem dX12_tells_76 : decode cX12_tells 76 = .ok (.goto 4, 3) := by decide +kernel
theorem dX12_tells_79 : decode cX12_tells 79 = .ok (.iload_n 3, 1) := by decide +kernel
theorem dX12_tells_80 : decode cX12_tells 80 = .ok (.ireturn, 1) := by decide +kernel
theorem dX12_binds_0 : decode cX12_binds 0 = .ok (.aload_n 0, 1) := by decide +kernel
theorem dX12_binds_1 : decode cX12_binds 1 = .ok (.getfield 31, 3) := by decide +kernel
theorem dX12_binds_4 : decode cX12_binds 4 = .ok (.iload_n 1, 1) := by decide +kernel
theorem dX12_binds_5 : decode cX12_binds 5 = .ok (.iaload, 1) := by decide +kernel
theorem dX12_binds_6 : decode cX12_binds 6 = .ok (.iconst 3, 1) := by decide +kernel
theorem dX12_binds_7 : decode cX12_binds 7 = .ok (.if_icmp .ne 9, 3) := by decide +kernel
theorem dX12_binds_10 : decode cX12_binds 10 = .ok (.aload_n 0, 1) := by decide +kernel
theorem dX12_binds_11 : decode cX12_binds 11 = .ok (.bipush 40, 2) := by decide +kernel
theorem dX12_binds_13 : decode cX12_binds 13 = .ok (.invokevirtual 326, 3) := by decide +kernel
theorem dX12_binds_16 : decode cX12_binds 16 = .ok (.aload_n 0, 1) := by decide +kernel
theorem dX12_binds_17 : decode cX12_binds 17 = .ok (.getfield 31, 3) := by decide +kernel
theorem dX12_binds_20 : decode cX12_binds 20 = .ok (.iload_n 1, 1) := by decide +kernel
theorem dX12_binds_21 : decode cX12_binds 21 = .ok (.iaload, 1) := by decide +kernel
theorem dX12_binds_22 : decode cX12_binds 22 = .ok (.iconst 1, 1) := by decide +kernel
theorem dX12_binds_23 : decode cX12_binds 23 = .ok (.if_icmp .eq 13, 3) := by decide +kernel
theorem dX12_binds_26 : decode cX12_binds 26 = .ok (.aload_n 0, 1) := by decide +kernel
theorem dX12_binds_27 : decode cX12_binds 27 = .ok (.getfield 31, 3) := by decide +kernel
theorem dX12_binds_30 : decode cX12_binds 30 = .ok (.iload_n 1, 1) := by decide +kernel
theorem dX12_binds_31 : decode cX12_binds 31 = .ok (.iaload, 1) := by decide +kernel
theorem dX12_binds_32 : decode cX12_binds 32 = .ok (.iconst 3, 1) := by decide +kernel
theorem dX12_binds_33 : decode cX12_binds 33 = .ok (.if_icmp .ne 9, 3) := by decide +kernel
theorem dX12_binds_36 : decode cX12_binds 36 = .ok (.aload_n 0, 1) := by decide +kernel
theorem dX12_binds_37 : decode cX12_binds 37 = .ok (.bipush 20, 2) := by decide +kernel
theorem dX12_binds_39 : decode cX12_binds 39 = .ok (.invokevirtual 326, 3) := by decide +kernel
theorem dX12_binds_42 : decode cX12_binds 42 = .ok (.aload_n 0, 1) := by decide +kernel
theorem dX12_binds_43 : decode cX12_binds 43 = .ok (.bipush 11, 2) := by decide +kernel
theorem dX12_binds_45 : decode cX12_binds 45 = .ok (.invokevirtual 326, 3) := by decide +kernel
theorem dX12_binds_48 : decode cX12_binds 48 = .ok (.aload_n 0, 1) := by decide +kernel
theorem dX12_binds_49 : decode cX12_binds 49 = .ok (.iload_n 1, 1) := by decide +kernel
theorem dX12_binds_50 : decode cX12_binds 50 = .ok (.iload_n 2, 1) := by decide +kernel
theorem dX12_binds_51 : decode cX12_binds 51 = .ok (.invokevirtual 330, 3) := by decide +kernel
theorem dX12_binds_54 : decode cX12_binds 54 = .ok (.iconst 2, 1) := by decide +kernel
theorem dX12_binds_55 : decode cX12_binds 55 = .ok (.imul, 1) := by decide +kernel
theorem dX12_binds_56 : decode cX12_binds 56 = .ok (.istore_n 3, 1) := by decide +kernel
theorem dX12_binds_57 : decode cX12_binds 57 = .ok (.aload_n 0, 1) := by decide +kernel
theorem dX12_binds_58 : decode cX12_binds 58 = .ok (.getfield 31, 3) := by decide +kernel
theorem dX12_binds_61 : decode cX12_binds 61 = .ok (.iload_n 1, 1) := by decide +kernel
theorem dX12_binds_62 : decode cX12_binds 62 = .ok (.iaload, 1) := by decide +kernel
theorem dX12_binds_63 : decode cX12_binds 63 = .ok (.iconst 1, 1) := by decide +kernel
theorem dX12_binds_64 : decode cX12_binds 64 = .ok (.if_icmp .ne 7, 3) := by decide +kernel
theorem dX12_binds_67 : decode cX12_binds 67 = .ok (.iload_n 3, 1) := by decide +kernel
theorem dX12_binds_68 : decode cX12_binds 68 = .ok (.iload_n 1, 1) := by decide +kernel
theorem dX12_binds_69 : decode cX12_binds 69 = .ok (.iadd, 1) := by decide +kernel
theorem dX12_binds_70 : decode cX12_binds 70 = .ok (.ireturn, 1) := by decide +kernel
theorem dX12_binds_71 : decode cX12_binds 71 = .ok (.aload_n 0, 1) := by decide +kernel
theorem dX12_binds_72 : decode cX12_binds 72 = .ok (.getfield 31, 3) := by decide +kernel
theorem dX12_binds_75 : decode cX12_binds 75 = .ok (.iload_n 1, 1) := by decide +kernel
theorem dX12_binds_76 : decode cX12_binds 76 = .ok (.iaload, 1) := by decide +kernel
theorem dX12_binds_77 : decode cX12_binds 77 = .ok (.iconst 3, 1) := by decide +kernel
theorem dX12_binds_78 : decode cX12_binds 78 = .ok (.if_icmp .ne 10, 3) := by decide +kernel
theorem dX12_binds_81 : decode cX12_binds 81 = .ok (.iload_n 3, 1) := by decide +kernel
theorem dX12_binds_82 : decode cX12_binds 82 = .ok (.iload_n 1, 1) := by decide +kernel
theorem dX12_binds_83 : decode cX12_binds 83 = .ok (.iadd, 1) := by decide +kernel
theorem dX12_binds_84 : decode cX12_binds 84 = .ok (.ineg, 1) := by decide +kernel
theorem dX12_binds_85 : decode cX12_binds 85 = .ok (.goto 4, 3) := by decide +kernel
theorem dX12_binds_88 : decode cX12_binds 88 = .ok (.iload_n 3, 1) := by decide +kernel
theorem dX12_binds_89 : decode cX12_binds 89 = .ok (.ireturn, 1) := by decide +kernel
theorem dX12_weighs_0 : decode cX12_weighs 0 = .ok (.aload_n 0, 1) := by decide +kernel
theorem dX12_weighs_1 : decode cX12_weighs 1 = .ok (.getfield 31, 3) := by decide +kernel
theorem dX12_weighs_4 : decode cX12_weighs 4 = .ok (.iload_n 1, 1) := by decide +kernel
theorem dX12_weighs_5 : decode cX12_weighs 5 = .ok (.iaload, 1) := by decide +kernel
theorem dX12_weighs_6 : decode cX12_weighs 6 = .ok (.iconst 2, 1) := by decide +kernel
theorem dX12_weighs_7 : decode cX12_weighs 7 = .ok (.if_icmp .ne 9, 3) := by decide +kernel
theorem dX12_weighs_10 : decode cX12_weighs 10 = .ok (.aload_n 0, 1) := by decide +kernel
theorem dX12_weighs_11 : decode cX12_weighs 11 = .ok (.bipush 31, 2) := by decide +kernel
theorem dX12_weighs_13 : decode cX12_weighs 13 = .ok (.invokevirtual 326, 3) := by decide +kernel
theorem dX12_weighs_16 : decode cX12_weighs 16 = .ok (.aload_n 0, 1) := by decide +kernel
theorem dX12_weighs_17 : decode cX12_weighs 17 = .ok (.bipush 12, 2) := by decide +kernel
theorem dX12_weighs_19 : decode cX12_weighs 19 = .ok (.invokevirtual 326, 3) := by decide +kernel
theorem dX12_weighs_22 : decode cX12_weighs 22 = .ok (.aload_n 0, 1) := by decide +kernel
theorem dX12_weighs_23 : decode cX12_weighs 23 = .ok (.iload_n 1, 1) := by decide +kernel
theorem dX12_weighs_24 : decode cX12_weighs 24 = .ok (.iload_n 2, 1) := by decide +kernel
theorem dX12_weighs_25 : decode cX12_weighs 25 = .ok (.invokevirtual 333, 3) := by decide +kernel
theorem dX12_weighs_28 : decode cX12_weighs 28 = .ok (.aload_n 0, 1) := by decide +kernel
theorem dX12_weighs_29 : decode cX12_weighs 29 = .ok (.iload_n 1, 1) := by decide +kernel
theorem dX12_weighs_30 : decode cX12_weighs 30 = .ok (.iload_n 2, 1) := by decide +kernel
theorem dX12_weighs_31 : decode cX12_weighs 31 = .ok (.iload_n 1, 1) := by decide +kernel
theorem dX12_weighs_32 : decode cX12_weighs 32 = .ok (.isub, 1) := by decide +kernel
theorem dX12_weighs_33 : decode cX12_weighs 33 = .ok (.invokevirtual 330, 3) := by decide +kernel
theorem dX12_weighs_36 : decode cX12_weighs 36 = .ok (.ixor, 1) := by decide +kernel
theorem dX12_weighs_37 : decode cX12_weighs 37 = .ok (.istore_n 3, 1) := by decide +kernel
theorem dX12_weighs_38 : decode cX12_weighs 38 = .ok (.aload_n 0, 1) := by decide +kernel
theorem dX12_weighs_39 : decode cX12_weighs 39 = .ok (.getfield 31, 3) := by decide +kernel
theorem dX12_weighs_42 : decode cX12_weighs 42 = .ok (.iload_n 1, 1) := by decide +kernel
theorem dX12_weighs_43 : decode cX12_weighs 43 = .ok (.iaload, 1) := by decide +kernel
theorem dX12_weighs_44 : decode cX12_weighs 44 = .ok (.iconst 2, 1) := by decide +kernel
theorem dX12_weighs_45 : decode cX12_weighs 45 = .ok (.if_icmp .ne 14, 3) := by decide +kernel
theorem dX12_weighs_48 : decode cX12_weighs 48 = .ok (.iload_n 3, 1) := by decide +kernel
theorem dX12_weighs_49 : decode cX12_weighs 49 = .ok (.aload_n 0, 1) := by decide +kernel
theorem dX12_weighs_50 : decode cX12_weighs 50 = .ok (.getfield 37, 3) := by decide +kernel
theorem dX12_weighs_53 : decode cX12_weighs 53 = .ok (.iload_n 1, 1) := by decide +kernel
theorem dX12_weighs_54 : decode cX12_weighs 54 = .ok (.iaload, 1) := by decide +kernel
theorem dX12_weighs_55 : decode cX12_weighs 55 = .ok (.isub, 1) := by decide +kernel
theorem dX12_weighs_56 : decode cX12_weighs 56 = .ok (.goto 4, 3) := by decide +kernel
theorem dX12_weighs_59 : decode cX12_weighs 59 = .ok (.iload_n 3, 1) := by decide +kernel
theorem dX12_weighs_60 : decode cX12_weighs 60 = .ok (.ireturn, 1) := by decide +kernel
theorem dX12_act_0 : decode cX12_act 0 = .ok (.aload_n 0, 1) := by decide +kernel
theorem dX12_act_1 : decode cX12_act 1 = .ok (.iconst 0, 1) := by decide +kernel
theorem dX12_act_2 : decode cX12_act 2 = .ok (.putfield 323, 3) := by decide +kernel
theorem dX12_act_5 : decode cX12_act 5 = .ok (.aload_n 0, 1) := by decide +kernel
theorem dX12_act_6 : decode cX12_act 6 = .ok (.iload_n 1, 1) := by decide +kernel
theorem dX12_act_7 : decode cX12_act 7 = .ok (.invokevirtual 188, 3) := by decide +kernel
theorem dX12_act_10 : decode cX12_act 10 = .ok (.ifCond .eq 12, 3) := by decide +kernel
theorem dX12_act_13 : decode cX12_act 13 = .ok (.iload_n 2, 1) := by decide +kernel
theorem dX12_act_14 : decode cX12_act 14 = .ok (.ifCond .lt 8, 3) := by decide +kernel
theorem dX12_act_17 : decode cX12_act 17 = .ok (.iload_n 2, 1) := by decide +kernel
theorem dX12_act_18 : decode cX12_act 18 = .ok (.iconst 2, 1) := by decide +kernel
theorem dX12_act_19 : decode cX12_act 19 = .ok (.if_icmp .le 5, 3) := by decide +kernel
theorem dX12_act_22 : decode cX12_act 22 = .ok (.iconst 0, 1) := by decide +kernel
theorem dX12_act_23 : decode cX12_act 23 = .ok (.ireturn, 1) := by decide +kernel
theorem dX12_act_24 : decode cX12_act 24 = .ok (.iload_n 2, 1) := by decide +kernel
theorem dX12_act_25 : decode cX12_act 25 = .ok (.ifCond .ne 12, 3) := by decide +kernel
theorem dX12_act_28 : decode cX12_act 28 = .ok (.aload_n 0, 1) := by decide +kernel
theorem dX12_act_29 : decode cX12_act 29 = .ok (.iload_n 1, 1) := by decide +kernel
theorem dX12_act_30 : decode cX12_act 30 = .ok (.iload_n 3, 1) := by decide +kernel
theorem dX12_act_31 : decode cX12_act 31 = .ok (.invokevirtual 330, 3) := by decide +kernel
theorem dX12_act_34 : decode cX12_act 34 = .ok (.goto 23, 3) := by decide +kernel
theorem dX12_act_37 : decode cX12_act 37 = .ok (.iload_n 2, 1) := by decide +kernel
theorem dX12_act_38 : decode cX12_act 38 = .ok (.iconst 1, 1) := by decide +kernel
theorem dX12_act_39 : decode cX12_act 39 = .ok (.if_icmp .ne 12, 3) := by decide +kernel
theorem dX12_act_42 : decode cX12_act 42 = .ok (.aload_n 0, 1) := by decide +kernel
theorem dX12_act_43 : decode cX12_act 43 = .ok (.iload_n 1, 1) := by decide +kernel
theorem dX12_act_44 : decode cX12_act 44 = .ok (.iload_n 3, 1) := by decide +kernel
theorem dX12_act_45 : decode cX12_act 45 = .ok (.invokevirtual 333, 3) := by decide +kernel
theorem dX12_act_48 : decode cX12_act 48 = .ok (.goto 9, 3) := by decide +kernel
theorem dX12_act_51 : decode cX12_act 51 = .ok (.aload_n 0, 1) := by decide +kernel
theorem dX12_act_52 : decode cX12_act 52 = .ok (.iload_n 1, 1) := by decide +kernel
theorem dX12_act_53 : decode cX12_act 53 = .ok (.iload_n 3, 1) := by decide +kernel
theorem dX12_act_54 : decode cX12_act 54 = .ok (.invokevirtual 336, 3) := by decide +kernel
theorem dX12_act_57 : decode cX12_act 57 = .ok (.ireturn, 1) := by decide +kernel
theorem dX12_trace_0 : decode cX12_trace 0 = .ok (.iload_n 1, 1) := by decide +kernel
theorem dX12_trace_1 : decode cX12_trace 1 = .ok (.ifCond .lt 26, 3) := by decide +kernel
theorem dX12_trace_4 : decode cX12_trace 4 = .ok (.iload_n 1, 1) := by decide +kernel
theorem dX12_trace_5 : decode cX12_trace 5 = .ok (.aload_n 0, 1) := by decide +kernel
theorem dX12_trace_6 : decode cX12_trace 6 = .ok (.getfield 323, 3) := by decide +kernel
theorem dX12_trace_9 : decode cX12_trace 9 = .ok (.if_icmp .ge 18, 3) := by decide +kernel
theorem dX12_trace_12 : decode cX12_trace 12 = .ok (.iload_n 1, 1) := by decide +kernel
theorem dX12_trace_13 : decode cX12_trace 13 = .ok (.bipush 20, 2) := by decide +kernel
theorem dX12_trace_15 : decode cX12_trace 15 = .ok (.if_icmp .ge 12, 3) := by decide +kernel
theorem dX12_trace_18 : decode cX12_trace 18 = .ok (.aload_n 0, 1) := by decide +kernel
theorem dX12_trace_19 : decode cX12_trace 19 = .ok (.getfield 135, 3) := by decide +kernel
theorem dX12_trace_22 : decode cX12_trace 22 = .ok (.iload_n 1, 1) := by decide +kernel
theorem dX12_trace_23 : decode cX12_trace 23 = .ok (.iaload, 1) := by decide +kernel
theorem dX12_trace_24 : decode cX12_trace 24 = .ok (.goto 4, 3) := by decide +kernel
theorem dX12_trace_27 : decode cX12_trace 27 = .ok (.iconst (-1), 1) := by decide +kernel
theorem dX12_trace_28 : decode cX12_trace 28 = .ok (.ireturn, 1) := by decide +kernel
theorem dX12_pour_0 : decode cX12_pour 0 = .ok (.iconst 0, 1) := by decide +kernel
theorem dX12_pour_1 : decode cX12_pour 1 = .ok (.istore 6, 2) := by decide +kernel
theorem dX12_pour_3 : decode cX12_pour 3 = .ok (.iload 6, 2) := by decide +kernel
theorem dX12_pour_5 : decode cX12_pour 5 = .ok (.iload 5, 2) := by decide +kernel
theorem dX12_pour_7 : decode cX12_pour 7 = .ok (.if_icmp .ge 22, 3) := by decide +kernel
theorem dX12_pour_10 : decode cX12_pour 10 = .ok (.aload_n 3, 1) := by decide +kernel
theorem dX12_pour_11 : decode cX12_pour 11 = .ok (.iload 4, 2) := by decide +kernel
theorem dX12_pour_13 : decode cX12_pour 13 = .ok (.iload 6, 2) := by decide +kernel
theorem dX12_pour_15 : decode cX12_pour 15 = .ok (.iadd, 1) := by decide +kernel
theorem dX12_pour_16 : decode cX12_pour 16 = .ok (.aload_n 1, 1) := by decide +kernel
theorem dX12_pour_17 : decode cX12_pour 17 = .ok (.iload_n 2, 1) := by decide +kernel
theorem dX12_pour_18 : decode cX12_pour 18 = .ok (.iload 6, 2) := by decide +kernel
theorem dX12_pour_20 : decode cX12_pour 20 = .ok (.iadd, 1) := by decide +kernel
theorem dX12_pour_21 : decode cX12_pour 21 = .ok (.iaload, 1) := by decide +kernel
theorem dX12_pour_22 : decode cX12_pour 22 = .ok (.iastore, 1) := by decide +kernel
theorem dX12_pour_23 : decode cX12_pour 23 = .ok (.iinc 6 1, 3) := by decide +kernel
theorem dX12_pour_26 : decode cX12_pour 26 = .ok (.goto (-23), 3) := by decide +kernel
theorem dX12_pour_29 : decode cX12_pour 29 = .ok (.return_, 1) := by decide +kernel
theorem dX12_image_0 : decode cX12_image 0 = .ok (.aload_n 0, 1) := by decide +kernel
theorem dX12_image_1 : decode cX12_image 1 = .ok (.iconst 1, 1) := by decide +kernel
theorem dX12_image_2 : decode cX12_image 2 = .ok (.putfield 339, 3) := by decide +kernel
theorem dX12_image_5 : decode cX12_image 5 = .ok (.aload_n 0, 1) := by decide +kernel
theorem dX12_image_6 : decode cX12_image 6 = .ok (.getfield 138, 3) := by decide +kernel
theorem dX12_image_9 : decode cX12_image 9 = .ok (.iconst 0, 1) := by decide +kernel
theorem dX12_image_10 : decode cX12_image 10 = .ok (.aload_n 0, 1) := by decide +kernel
theorem dX12_image_11 : decode cX12_image 11 = .ok (.getfield 159, 3) := by decide +kernel
theorem dX12_image_14 : decode cX12_image 14 = .ok (.iastore, 1) := by decide +kernel
theorem dX12_image_15 : decode cX12_image 15 = .ok (.aload_n 0, 1) := by decide +kernel
theorem dX12_image_16 : decode cX12_image 16 = .ok (.getfield 138, 3) := by decide +kernel
theorem dX12_image_19 : decode cX12_image 19 = .ok (.iconst 1, 1) := by decide +kernel
theorem dX12_image_20 : decode cX12_image 20 = .ok (.aload_n 0, 1) := by decide +kernel
theorem dX12_image_21 : decode cX12_image 21 = .ok (.getfield 162, 3) := by decide +kernel
theorem dX12_image_24 : decode cX12_image 24 = .ok (.iastore, 1) := by decide +kernel
theorem dX12_image_25 : decode cX12_image 25 = .ok (.aload_n 0, 1) := by decide +kernel
theorem dX12_image_26 : decode cX12_image 26 = .ok (.getfield 138, 3) := by decide +kernel
theorem dX12_image_29 : decode cX12_image 29 = .ok (.iconst 2, 1) := by decide +kernel
theorem dX12_image_30 : decode cX12_image 30 = .ok (.aload_n 0, 1) := by decide +kernel
theorem dX12_image_31 : decode cX12_image 31 = .ok (.getfield 165, 3) := by decide +kernel
theorem dX12_image_34 : decode cX12_image 34 = .ok (.iastore, 1) := by decide +kernel
theorem dX12_image_35 : decode cX12_image 35 = .ok (.aload_n 0, 1) := by decide +kernel
theorem dX12_image_36 : decode cX12_image 36 = .ok (.aload_n 0, 1) := by decide +kernel
theorem dX12_image_37 : decode cX12_image 37 = .ok (.getfield 7, 3) := by decide +kernel
theorem dX12_image_40 : decode cX12_image 40 = .ok (.iconst 0, 1) := by decide +kernel
theorem dX12_image_41 : decode cX12_image 41 = .ok (.aload_n 0, 1) := by decide +kernel
theorem dX12_image_42 : decode cX12_image 42 = .ok (.getfield 141, 3) := by decide +kernel
theorem dX12_image_45 : decode cX12_image 45 = .ok (.iconst 0, 1) := by decide +kernel
theorem dX12_image_46 : decode cX12_image 46 = .ok (.bipush 10, 2) := by decide +kernel
theorem dX12_image_48 : decode cX12_image 48 = .ok (.invokevirtual 343, 3) := by decide +kernel
theorem dX12_image_51 : decode cX12_image 51 = .ok (.aload_n 0, 1) := by decide +kernel
theorem dX12_image_52 : decode cX12_image 52 = .ok (.aload_n 0, 1) := by decide +kernel
theorem dX12_image_53 : decode cX12_image 53 = .ok (.getfield 13, 3) := by decide +kernel
theorem dX12_image_56 : decode cX12_image 56 = .ok (.iconst 0, 1) := by decide +kernel
theorem dX12_image_57 : decode cX12_image 57 = .ok (.aload_n 0, 1) := by decide +kernel
theorem dX12_image_58 : decode cX12_image 58 = .ok (.getfield 141, 3) := by decide +kernel
theorem dX12_image_61 : decode cX12_image 61 = .ok (.bipush 10, 2) := by decide +kernel
theorem dX12_image_63 : decode cX12_image 63 = .ok (.bipush 10, 2) := by decide +kernel
theorem dX12_image_65 : decode cX12_image 65 = .ok (.invokevirtual 343, 3) := by decide +kernel
theorem dX12_image_68 : decode cX12_image 68 = .ok (.aload_n 0, 1) := by decide +kernel
theorem dX12_image_69 : decode cX12_image 69 = .ok (.aload_n 0, 1) := by decide +kernel
theorem dX12_image_70 : decode cX12_image 70 = .ok (.getfield 16, 3) := by decide +kernel
theorem dX12_image_73 : decode cX12_image 73 = .ok (.iconst 0, 1) := by decide +kernel
theorem dX12_image_74 : decode cX12_image 74 = .ok (.aload_n 0, 1) := by decide +kernel
theorem dX12_image_75 : decode cX12_image 75 = .ok (.getfield 141, 3) := by decide +kernel
theorem dX12_image_78 : decode cX12_image 78 = .ok (.bipush 20, 2) := by decide +kernel
theorem dX12_image_80 : decode cX12_image 80 = .ok (.sipush 600, 3) := by decide +kernel
theorem dX12_image_83 : decode cX12_image 83 = .ok (.invokevirtual 343, 3) := by decide +kernel
theorem dX12_image_86 : decode cX12_image 86 = .ok (.aload_n 0, 1) := by decide +kernel
theorem dX12_image_87 : decode cX12_image 87 = .ok (.aload_n 0, 1) := by decide +kernel
theorem dX12_image_88 : decode cX12_image 88 = .ok (.getfield 19, 3) := by decide +kernel
theorem dX12_image_91 : decode cX12_image 91 = .ok (.iconst 0, 1) := by decide +kernel
theorem dX12_image_92 : decode cX12_image 92 = .ok (.aload_n 0, 1) := by decide +kernel
theorem dX12_image_93 : decode cX12_image 93 = .ok (.getfield 144, 3) := by decide +kernel
theorem dX12_image_96 : decode cX12_image 96 = .ok (.iconst 0, 1) := by decide +kernel
theorem dX12_image_97 : decode cX12_image 97 = .ok (.bipush 6, 2) := by decide +kernel
theorem dX12_image_99 : decode cX12_image 99 = .ok (.invokevirtual 343, 3) := by decide +kernel
theorem dX12_image_102 : decode cX12_image 102 = .ok (.aload_n 0, 1) := by decide +kernel
theorem dX12_image_103 : decode cX12_image 103 = .ok (.aload_n 0, 1) := by decide +kernel
theorem dX12_image_104 : decode cX12_image 104 = .ok (.getfield 25, 3) := by decide +kernel
theorem dX12_image_107 : decode cX12_image 107 = .ok (.iconst 0, 1) := by decide +kernel
theorem dX12_image_108 : decode cX12_image 108 = .ok (.aload_n 0, 1) := by decide +kernel
theorem dX12_image_109 : decode cX12_image 109 = .ok (.getfield 144, 3) := by decide +kernel
theorem dX12_image_112 : decode cX12_image 112 = .ok (.bipush 6, 2) := by decide +kernel
theorem dX12_image_114 : decode cX12_image 114 = .ok (.bipush 6, 2) := by decide +kernel
theorem dX12_image_116 : decode cX12_image 116 = .ok (.invokevirtual 343, 3) := by decide +kernel
theorem dX12_image_119 : decode cX12_image 119 = .ok (.aload_n 0, 1) := by decide +kernel
theorem dX12_image_120 : decode cX12_image 120 = .ok (.aload_n 0, 1) := by decide +kernel
theorem dX12_image_121 : decode cX12_image 121 = .ok (.getfield 28, 3) := by decide +kernel
theorem dX12_image_124 : decode cX12_image 124 = .ok (.iconst 0, 1) := by decide +kernel
theorem dX12_image_125 : decode cX12_image 125 = .ok (.aload_n 0, 1) := by decide +kernel
theorem dX12_image_126 : decode cX12_image 126 = .ok (.getfield 144, 3) := by decide +kernel
theorem dX12_image_129 : decode cX12_image 129 = .ok (.bipush 12, 2) := by decide +kernel
theorem dX12_image_131 : decode cX12_image 131 = .ok (.bipush 6, 2) := by decide +kernel
theorem dX12_image_133 : decode cX12_image 133 = .ok (.invokevirtual 343, 3) := by decide +kernel
theorem dX12_image_136 : decode cX12_image 136 = .ok (.aload_n 0, 1) := by decide +kernel
theorem dX12_image_137 : decode cX12_image 137 = .ok (.aload_n 0, 1) := by decide +kernel
theorem dX12_image_138 : decode cX12_image 138 = .ok (.getfield 22, 3) := by decide +kernel
theorem dX12_image_141 : decode cX12_image 141 = .ok (.iconst 0, 1) := by decide +kernel
theorem dX12_image_142 : decode cX12_image 142 = .ok (.aload_n 0, 1) := by decide +kernel
theorem dX12_image_143 : decode cX12_image 143 = .ok (.getfield 144, 3) := by decide +kernel
theorem dX12_image_146 : decode cX12_image 146 = .ok (.bipush 18, 2) := by decide +kernel
theorem dX12_image_148 : decode cX12_image 148 = .ok (.sipush 360, 3) := by decide +kernel
theorem dX12_image_151 : decode cX12_image 151 = .ok (.invokevirtual 343, 3) := by decide +kernel
theorem dX12_image_154 : decode cX12_image 154 = .ok (.aload_n 0, 1) := by decide +kernel
theorem dX12_image_155 : decode cX12_image 155 = .ok (.aload_n 0, 1) := by decide +kernel
theorem dX12_image_156 : decode cX12_image 156 = .ok (.getfield 31, 3) := by decide +kernel
theorem dX12_image_159 : decode cX12_image 159 = .ok (.iconst 0, 1) := by decide +kernel
theorem dX12_image_160 : decode cX12_image 160 = .ok (.aload_n 0, 1) := by decide +kernel
theorem dX12_image_161 : decode cX12_image 161 = .ok (.getfield 147, 3) := by decide +kernel
theorem dX12_image_164 : decode cX12_image 164 = .ok (.iconst 0, 1) := by decide +kernel
theorem dX12_image_165 : decode cX12_image 165 = .ok (.bipush 16, 2) := by decide +kernel
theorem dX12_image_167 : decode cX12_image 167 = .ok (.invokevirtual 343, 3) := by decide +kernel
theorem dX12_image_170 : decode cX12_image 170 = .ok (.aload_n 0, 1) := by decide +kernel
theorem dX12_image_171 : decode cX12_image 171 = .ok (.aload_n 0, 1) := by decide +kernel
theorem dX12_image_172 : decode cX12_image 172 = .ok (.getfield 34, 3) := by decide +kernel
theorem dX12_image_175 : decode cX12_image 175 = .ok (.iconst 0, 1) := by decide +kernel
theorem dX12_image_176 : decode cX12_image 176 = .ok (.aload_n 0, 1) := by decide +kernel
theorem dX12_image_177 : decode cX12_image 177 = .ok (.getfield 147, 3) := by decide +kernel
theorem dX12_image_180 : decode cX12_image 180 = .ok (.bipush 16, 2) := by decide +kernel
theorem dX12_image_182 : decode cX12_image 182 = .ok (.bipush 16, 2) := by decide +kernel
theorem dX12_image_184 : decode cX12_image 184 = .ok (.invokevirtual 343, 3) := by decide +kernel
theorem dX12_image_187 : decode cX12_image 187 = .ok (.aload_n 0, 1) := by decide +kernel
theorem dX12_image_188 : decode cX12_image 188 = .ok (.aload_n 0, 1) := by decide +kernel
theorem dX12_image_189 : decode cX12_image 189 = .ok (.getfield 37, 3) := by decide +kernel
theorem dX12_image_192 : decode cX12_image 192 = .ok (.iconst 0, 1) := by decide +kernel
theorem dX12_image_193 : decode cX12_image 193 = .ok (.aload_n 0, 1) := by decide +kernel
theorem dX12_image_194 : decode cX12_image 194 = .ok (.getfield 147, 3) := by decide +kernel
theorem dX12_image_197 : decode cX12_image 197 = .ok (.bipush 32, 2) := by decide +kernel
theorem dX12_image_199 : decode cX12_image 199 = .ok (.bipush 16, 2) := by decide +kernel
theorem dX12_image_201 : decode cX12_image 201 = .ok (.invokevirtual 343, 3) := by decide +kernel
theorem dX12_image_204 : decode cX12_image 204 = .ok (.aload_n 0, 1) := by decide +kernel
theorem dX12_image_205 : decode cX12_image 205 = .ok (.aload_n 0, 1) := by decide +kernel
theorem dX12_image_206 : decode cX12_image 206 = .ok (.getfield 40, 3) := by decide +kernel
theorem dX12_image_209 : decode cX12_image 209 = .ok (.iconst 0, 1) := by decide +kernel
theorem dX12_image_210 : decode cX12_image 210 = .ok (.aload_n 0, 1) := by decide +kernel
theorem dX12_image_211 : decode cX12_image 211 = .ok (.getfield 147, 3) := by decide +kernel
theorem dX12_image_214 : decode cX12_image 214 = .ok (.bipush 48, 2) := by decide +kernel
theorem dX12_image_216 : decode cX12_image 216 = .ok (.bipush 16, 2) := by decide +kernel
theorem dX12_image_218 : decode cX12_image 218 = .ok (.invokevirtual 343, 3) := by decide +kernel
theorem dX12_image_221 : decode cX12_image 221 = .ok (.aload_n 0, 1) := by decide +kernel
theorem dX12_image_222 : decode cX12_image 222 = .ok (.aload_n 0, 1) := by decide +kernel
theorem dX12_image_223 : decode cX12_image 223 = .ok (.getfield 43, 3) := by decide +kernel
theorem dX12_image_226 : decode cX12_image 226 = .ok (.iconst 0, 1) := by decide +kernel
theorem dX12_image_227 : decode cX12_image 227 = .ok (.aload_n 0, 1) := by decide +kernel
theorem dX12_image_228 : decode cX12_image 228 = .ok (.getfield 147, 3) := by decide +kernel
theorem dX12_image_231 : decode cX12_image 231 = .ok (.bipush 64, 2) := by decide +kernel
theorem dX12_image_233 : decode cX12_image 233 = .ok (.bipush 16, 2) := by decide +kernel
theorem dX12_image_235 : decode cX12_image 235 = .ok (.invokevirtual 343, 3) := by decide +kernel
theorem dX12_image_238 : decode cX12_image 238 = .ok (.aload_n 0, 1) := by decide +kernel
theorem dX12_image_239 : decode cX12_image 239 = .ok (.aload_n 0, 1) := by decide +kernel
theorem dX12_image_240 : decode cX12_image 240 = .ok (.getfield 46, 3) := by decide +kernel
theorem dX12_image_243 : decode cX12_image 243 = .ok (.iconst 0, 1) := by decide +kernel
theorem dX12_image_244 : decode cX12_image 244 = .ok (.aload_n 0, 1) := by decide +kernel
theorem dX12_image_245 : decode cX12_image 245 = .ok (.getfield 147, 3) := by decide +kernel
theorem dX12_image_248 : decode cX12_image 248 = .ok (.bipush 80, 2) := by decide +kernel
theorem dX12_image_250 : decode cX12_image 250 = .ok (.bipush 16, 2) := by decide +kernel
theorem dX12_image_252 : decode cX12_image 252 = .ok (.invokevirtual 343, 3) := by decide +kernel
theorem dX12_image_255 : decode cX12_image 255 = .ok (.aload_n 0, 1) := by decide +kernel
theorem dX12_image_256 : decode cX12_image 256 = .ok (.aload_n 0, 1) := by decide +kernel
theorem dX12_image_257 : decode cX12_image 257 = .ok (.getfield 49, 3) := by decide +kernel
theorem dX12_image_260 : decode cX12_image 260 = .ok (.iconst 0, 1) := by decide +kernel
theorem dX12_image_261 : decode cX12_image 261 = .ok (.aload_n 0, 1) := by decide +kernel
theorem dX12_image_262 : decode cX12_image 262 = .ok (.getfield 147, 3) := by decide +kernel
theorem dX12_image_265 : decode cX12_image 265 = .ok (.bipush 96, 2) := by decide +kernel
theorem dX12_image_267 : decode cX12_image 267 = .ok (.bipush 16, 2) := by decide +kernel
theorem dX12_image_269 : decode cX12_image 269 = .ok (.invokevirtual 343, 3) := by decide +kernel
theorem dX12_image_272 : decode cX12_image 272 = .ok (.aload_n 0, 1) := by decide +kernel
theorem dX12_image_273 : decode cX12_image 273 = .ok (.aload_n 0, 1) := by decide +kernel
theorem dX12_image_274 : decode cX12_image 274 = .ok (.getfield 52, 3) := by decide +kernel
theorem dX12_image_277 : decode cX12_image 277 = .ok (.iconst 0, 1) := by decide +kernel
theorem dX12_image_278 : decode cX12_image 278 = .ok (.aload_n 0, 1) := by decide +kernel
theorem dX12_image_279 : decode cX12_image 279 = .ok (.getfield 150, 3) := by decide +kernel
theorem dX12_image_282 : decode cX12_image 282 = .ok (.iconst 0, 1) := by decide +kernel
theorem dX12_image_283 : decode cX12_image 283 = .ok (.bipush 6, 2) := by decide +kernel
theorem dX12_image_285 : decode cX12_image 285 = .ok (.invokevirtual 343, 3) := by decide +kernel
theorem dX12_image_288 : decode cX12_image 288 = .ok (.aload_n 0, 1) := by decide +kernel
theorem dX12_image_289 : decode cX12_image 289 = .ok (.getfield 165, 3) := by decide +kernel
theorem dX12_image_292 : decode cX12_image 292 = .ok (.ireturn, 1) := by decide +kernel
theorem dX12_restore_0 : decode cX12_restore 0 = .ok (.aload_n 0, 1) := by decide +kernel
theorem dX12_restore_1 : decode cX12_restore 1 = .ok (.getfield 339, 3) := by decide +kernel
theorem dX12_restore_4 : decode cX12_restore 4 = .ok (.ifCond .ne 10, 3) := by decide +kernel
theorem dX12_restore_7 : decode cX12_restore 7 = .ok (.aload_n 0, 1) := by decide +kernel
theorem dX12_restore_8 : decode cX12_restore 8 = .ok (.bipush (-6), 2) := by decide +kernel
theorem dX12_restore_10 : decode cX12_restore 10 = .ok (.invokevirtual 175, 3) := by decide +kernel
theorem dX12_restore_13 : decode cX12_restore 13 = .ok (.ireturn, 1) := by decide +kernel
theorem dX12_restore_14 : decode cX12_restore 14 = .ok (.aload_n 0, 1) := by decide +kernel
theorem dX12_restore_15 : decode cX12_restore 15 = .ok (.aload_n 0, 1) := by decide +kernel
theorem dX12_restore_16 : decode cX12_restore 16 = .ok (.getfield 138, 3) := by decide +kernel
theorem dX12_restore_19 : decode cX12_restore 19 = .ok (.iconst 0, 1) := by decide +kernel
theorem dX12_restore_20 : decode cX12_restore 20 = .ok (.iaload, 1) := by decide +kernel
theorem dX12_restore_21 : decode cX12_restore 21 = .ok (.putfield 159, 3) := by decide +kernel
theorem dX12_restore_24 : decode cX12_restore 24 = .ok (.aload_n 0, 1) := by decide +kernel
theorem dX12_restore_25 : decode cX12_restore 25 = .ok (.aload_n 0, 1) := by decide +kernel
theorem dX12_restore_26 : decode cX12_restore 26 = .ok (.getfield 138, 3) := by decide +kernel
theorem dX12_restore_29 : decode cX12_restore 29 = .ok (.iconst 1, 1) := by decide +kernel
theorem dX12_restore_30 : decode cX12_restore 30 = .ok (.iaload, 1) := by decide +kernel
theorem dX12_restore_31 : decode cX12_restore 31 = .ok (.putfield 162, 3) := by decide +kernel
theorem dX12_restore_34 : decode cX12_restore 34 = .ok (.aload_n 0, 1) := by decide +kernel
theorem dX12_restore_35 : decode cX12_restore 35 = .ok (.aload_n 0, 1) := by decide +kernel
theorem dX12_restore_36 : decode cX12_restore 36 = .ok (.getfield 138, 3) := by decide +kernel
theorem dX12_restore_39 : decode cX12_restore 39 = .ok (.iconst 2, 1) := by decide +kernel
theorem dX12_restore_40 : decode cX12_restore 40 = .ok (.iaload, 1) := by decide +kernel
theorem dX12_restore_41 : decode cX12_restore 41 = .ok (.putfield 165, 3) := by decide +kernel
theorem dX12_restore_44 : decode cX12_restore 44 = .ok (.aload_n 0, 1) := by decide +kernel
theorem dX12_restore_45 : decode cX12_restore 45 = .ok (.aload_n 0, 1) := by decide +kernel
theorem dX12_restore_46 : decode cX12_restore 46 = .ok (.getfield 141, 3) := by decide +kernel
theorem dX12_restore_49 : decode cX12_restore 49 = .ok (.iconst 0, 1) := by decide +kernel
theorem dX12_restore_50 : decode cX12_restore 50 = .ok (.aload_n 0, 1) := by decide +kernel
theorem dX12_restore_51 : decode cX12_restore 51 = .ok (.getfield 7, 3) := by decide +kernel
theorem dX12_restore_54 : decode cX12_restore 54 = .ok (.iconst 0, 1) := by decide +kernel
theorem dX12_restore_55 : decode cX12_restore 55 = .ok (.bipush 10, 2) := by decide +kernel
theorem dX12_restore_57 : decode cX12_restore 57 = .ok (.invokevirtual 343, 3) := by decide +kernel
theorem dX12_restore_60 : decode cX12_restore 60 = .ok (.aload_n 0, 1) := by decide +kernel
theorem dX12_restore_61 : decode cX12_restore 61 = .ok (.aload_n 0, 1) := by decide +kernel
theorem dX12_restore_62 : decode cX12_restore 62 = .ok (.getfield 141, 3) := by decide +kernel
theorem dX12_restore_65 : decode cX12_restore 65 = .ok (.bipush 10, 2) := by decide +kernel
theorem dX12_restore_67 : decode cX12_restore 67 = .ok (.aload_n 0, 1) := by decide +kernel
theorem dX12_restore_68 : decode cX12_restore 68 = .ok (.getfield 13, 3) := by decide +kernel
theorem dX12_restore_71 : decode cX12_restore 71 = .ok (.iconst 0, 1) := by decide +kernel
theorem dX12_restore_72 : decode cX12_restore 72 = .ok (.bipush 10, 2) := by decide +kernel
theorem dX12_restore_74 : decode cX12_restore 74 = .ok (.invokevirtual 343, 3) := by decide +kernel
theorem dX12_restore_77 : decode cX12_restore 77 = .ok (.aload_n 0, 1) := by decide +kernel
theorem dX12_restore_78 : decode cX12_restore 78 = .ok (.aload_n 0, 1) := by decide +kernel
theorem dX12_restore_79 : decode cX12_restore 79 = .ok (.getfield 141, 3) := by decide +kernel
theorem dX12_restore_82 : decode cX12_restore 82 = .ok (.bipush 20, 2) := by decide +kernel
theorem dX12_restore_84 : decode cX12_restore 84 = .ok (.aload_n 0, 1) := by decide +kernel
theorem dX12_restore_85 : decode cX12_restore 85 = .ok (.getfield 16, 3) := by decide +kernel
theorem dX12_restore_88 : decode cX12_restore 88 = .ok (.iconst 0, 1) := by decide +kernel
theorem dX12_restore_89 : decode cX12_restore 89 = .ok (.sipush 600, 3) := by decide +kernel
theorem dX12_restore_92 : decode cX12_restore 92 = .ok (.invokevirtual 343, 3) := by decide +kernel
theorem dX12_restore_95 : decode cX12_restore 95 = .ok (.aload_n 0, 1) := by decide +kernel
theorem dX12_restore_96 : decode cX12_restore 96 = .ok (.aload_n 0, 1) := by decide +kernel
theorem dX12_restore_97 : decode cX12_restore 97 = .ok (.getfield 144, 3) := by decide +kernel
theorem dX12_restore_100 : decode cX12_restore 100 = .ok (.iconst 0, 1) := by decide +kernel
theorem dX12_restore_101 : decode cX12_restore 101 = .ok (.aload_n 0, 1) := by decide +kernel
theorem dX12_restore_102 : decode cX12_restore 102 = .ok (.getfield 19, 3) := by decide +kernel
theorem dX12_restore_105 : decode cX12_restore 105 = .ok (.iconst 0, 1) := by decide +kernel
theorem dX12_restore_106 : decode cX12_restore 106 = .ok (.bipush 6, 2) := by decide +kernel
theorem dX12_restore_108 : decode cX12_restore 108 = .ok (.invokevirtual 343, 3) := by decide +kernel
theorem dX12_restore_111 : decode cX12_restore 111 = .ok (.aload_n 0, 1) := by decide +kernel
theorem dX12_restore_112 : decode cX12_restore 112 = .ok (.aload_n 0, 1) := by decide +kernel
theorem dX12_restore_113 : decode cX12_restore 113 = .ok (.getfield 144, 3) := by decide +kernel
theorem dX12_restore_116 : decode cX12_restore 116 = .ok (.bipush 6, 2) := by decide +kernel
theorem dX12_restore_118 : decode cX12_restore 118 = .ok (.aload_n 0, 1) := by decide +kernel
theorem dX12_restore_119 : decode cX12_restore 119 = .ok (.getfield 25, 3) := by decide +kernel
theorem dX12_restore_122 : decode cX12_restore 122 = .ok (.iconst 0, 1) := by decide +kernel
theorem dX12_restore_123 : decode cX12_restore 123 = .ok (.bipush 6, 2) := by decide +kernel
theorem dX12_restore_125 : decode cX12_restore 125 = .ok (.invokevirtual 343, 3) := by decide +kernel
theorem dX12_restore_128 : decode cX12_restore 128 = .ok (.aload_n 0, 1) := by decide +kernel
theorem dX12_restore_129 : decode cX12_restore 129 = .ok (.aload_n 0, 1) := by decide +kernel
theorem dX12_restore_130 : decode cX12_restore 130 = .ok (.getfield 144, 3) := by decide +kernel
theorem dX12_restore_133 : decode cX12_restore 133 = .ok (.bipush 12, 2) := by decide +kernel
theorem dX12_restore_135 : decode cX12_restore 135 = .ok (.aload_n 0, 1) := by decide +kernel
theorem dX12_restore_136 : decode cX12_restore 136 = .ok (.getfield 28, 3) := by decide +kernel
theorem dX12_restore_139 : decode cX12_restore 139 = .ok (.iconst 0, 1) := by decide +kernel
theorem dX12_restore_140 : decode cX12_restore 140 = .ok (.bipush 6, 2) := by decide +kernel
theorem dX12_restore_142 : decode cX12_restore 142 = .ok (.invokevirtual 343, 3) := by decide +kernel
theorem dX12_restore_145 : decode cX12_restore 145 = .ok (.aload_n 0, 1) := by decide +kernel
theorem dX12_restore_146 : decode cX12_restore 146 = .ok (.aload_n 0, 1) := by decide +kernel
theorem dX12_restore_147 : decode cX12_restore 147 = .ok (.getfield 144, 3) := by decide +kernel
theorem dX12_restore_150 : decode cX12_restore 150 = .ok (.bipush 18, 2) := by decide +kernel
theorem dX12_restore_152 : decode cX12_restore 152 = .ok (.aload_n 0, 1) := by decide +kernel
theorem dX12_restore_153 : decode cX12_restore 153 = .ok (.getfield 22, 3) := by decide +kernel
theorem dX12_restore_156 : decode cX12_restore 156 = .ok (.iconst 0, 1) := by decide +kernel
theorem dX12_restore_157 : decode cX12_restore 157 = .ok (.sipush 360, 3) := by decide +kernel
theorem dX12_restore_160 : decode cX12_restore 160 = .ok (.invokevirtual 343, 3) := by decide +kernel
theorem dX12_restore_163 : decode cX12_restore 163 = .ok (.aload_n 0, 1) := by decide +kernel
theorem dX12_restore_164 : decode cX12_restore 164 = .ok (.aload_n 0, 1) := by decide +kernel
theorem dX12_restore_165 : decode cX12_restore 165 = .ok (.getfield 147, 3) := by decide +kernel
theorem dX12_restore_168 : decode cX12_restore 168 = .ok (.iconst 0, 1) := by decide +kernel
theorem dX12_restore_169 : decode cX12_restore 169 = .ok (.aload_n 0, 1) := by decide +kernel
theorem dX12_restore_170 : decode cX12_restore 170 = .ok (.getfield 31, 3) := by decide +kernel
theorem dX12_restore_173 : decode cX12_restore 173 = .ok (.iconst 0, 1) := by decide +kernel
theorem dX12_restore_174 : decode cX12_restore 174 = .ok (.bipush 16, 2) := by decide +kernel
theorem dX12_restore_176 : decode cX12_restore 176 = .ok (.invokevirtual 343, 3) := by decide +kernel
theorem dX12_restore_179 : decode cX12_restore 179 = .ok (.aload_n 0, 1) := by decide +kernel
theorem dX12_restore_180 : decode cX12_restore 180 = .ok (.aload_n 0, 1) := by decide +kernel
theorem dX12_restore_181 : decode cX12_restore 181 = .ok (.getfield 147, 3) := by decide +kernel
theorem dX12_restore_184 : decode cX12_restore 184 = .ok (.bipush 16, 2) := by decide +kernel
theorem dX12_restore_186 : decode cX12_restore 186 = .ok (.aload_n 0, 1) := by decide +kernel
theorem dX12_restore_187 : decode cX12_restore 187 = .ok (.getfield 34, 3) := by decide +kernel
theorem dX12_restore_190 : decode cX12_restore 190 = .ok (.iconst 0, 1) := by decide +kernel
theorem dX12_restore_191 : decode cX12_restore 191 = .ok (.bipush 16, 2) := by decide +kernel
theorem dX12_restore_193 : decode cX12_restore 193 = .ok (.invokevirtual 343, 3) := by decide +kernel
theorem dX12_restore_196 : decode cX12_restore 196 = .ok (.aload_n 0, 1) := by decide +kernel
theorem dX12_restore_197 : decode cX12_restore 197 = .ok (.aload_n 0, 1) := by decide +kernel
theorem dX12_restore_198 : decode cX12_restore 198 = .ok (.getfield 147, 3) := by decide +kernel
theorem dX12_restore_201 : decode cX12_restore 201 = .ok (.bipush 32, 2) := by decide +kernel
theorem dX12_restore_203 : decode cX12_restore 203 = .ok (.aload_n 0, 1) := by decide +kernel
theorem dX12_restore_204 : decode cX12_restore 204 = .ok (.getfield 37, 3) := by decide +kernel
theorem dX12_restore_207 : decode cX12_restore 207 = .ok (.iconst 0, 1) := by decide +kernel
theorem dX12_restore_208 : decode cX12_restore 208 = .ok (.bipush 16, 2) := by decide +kernel
theorem dX12_restore_210 : decode cX12_restore 210 = .ok (.invokevirtual 343, 3) := by decide +kernel
theorem dX12_restore_213 : decode cX12_restore 213 = .ok (.aload_n 0, 1) := by decide +kernel
theorem dX12_restore_214 : decode cX12_restore 214 = .ok (.aload_n 0, 1) := by decide +kernel
theorem dX12_restore_215 : decode cX12_restore 215 = .ok (.getfield 147, 3) := by decide +kernel
theorem dX12_restore_218 : decode cX12_restore 218 = .ok (.bipush 48, 2) := by decide +kernel
theorem dX12_restore_220 : decode cX12_restore 220 = .ok (.aload_n 0, 1) := by decide +kernel
theorem dX12_restore_221 : decode cX12_restore 221 = .ok (.getfield 40, 3) := by decide +kernel
theorem dX12_restore_224 : decode cX12_restore 224 = .ok (.iconst 0, 1) := by decide +kernel
theorem dX12_restore_225 : decode cX12_restore 225 = .ok (.bipush 16, 2) := by decide +kernel
theorem dX12_restore_227 : decode cX12_restore 227 = .ok (.invokevirtual 343, 3) := by decide +kernel
theorem dX12_restore_230 : decode cX12_restore 230 = .ok (.aload_n 0, 1) := by decide +kernel
theorem dX12_restore_231 : decode cX12_restore 231 = .ok (.aload_n 0, 1) := by decide +kernel
theorem dX12_restore_232 : decode cX12_restore 232 = .ok (.getfield 147, 3) := by decide +kernel
theorem dX12_restore_235 : decode cX12_restore 235 = .ok (.bipush 64, 2) := by decide +kernel
theorem dX12_restore_237 : decode cX12_restore 237 = .ok (.aload_n 0, 1) := by decide +kernel
theorem dX12_restore_238 : decode cX12_restore 238 = .ok (.getfield 43, 3) := by decide +kernel
theorem dX12_restore_241 : decode cX12_restore 241 = .ok (.iconst 0, 1) := by decide +kernel
theorem dX12_restore_242 : decode cX12_restore 242 = .ok (.bipush 16, 2) := by decide +kernel
theorem dX12_restore_244 : decode cX12_restore 244 = .ok (.invokevirtual 343, 3) := by decide +kernel
theorem dX12_restore_247 : decode cX12_restore 247 = .ok (.aload_n 0, 1) := by decide +kernel
theorem dX12_restore_248 : decode cX12_restore 248 = .ok (.aload_n 0, 1) := by decide +kernel
theorem dX12_restore_249 : decode cX12_restore 249 = .ok (.getfield 147, 3) := by decide +kernel
theorem dX12_restore_252 : decode cX12_restore 252 = .ok (.bipush 80, 2) := by decide +kernel
theorem dX12_restore_254 : decode cX12_restore 254 = .ok (.aload_n 0, 1) := by decide +kernel
theorem dX12_restore_255 : decode cX12_restore 255 = .ok (.getfield 46, 3) := by decide +kernel
theorem dX12_restore_258 : decode cX12_restore 258 = .ok (.iconst 0, 1) := by decide +kernel
theorem dX12_restore_259 : decode cX12_restore 259 = .ok (.bipush 16, 2) := by decide +kernel
theorem dX12_restore_261 : decode cX12_restore 261 = .ok (.invokevirtual 343, 3) := by decide +kernel
theorem dX12_restore_264 : decode cX12_restore 264 = .ok (.aload_n 0, 1) := by decide +kernel
theorem dX12_restore_265 : decode cX12_restore 265 = .ok (.aload_n 0, 1) := by decide +kernel
theorem dX12_restore_266 : decode cX12_restore 266 = .ok (.getfield 147, 3) := by decide +kernel
theorem dX12_restore_269 : decode cX12_restore 269 = .ok (.bipush 96, 2) := by decide +kernel
theorem dX12_restore_271 : decode cX12_restore 271 = .ok (.aload_n 0, 1) := by decide +kernel
theorem dX12_restore_272 : decode cX12_restore 272 = .ok (.getfield 49, 3) := by decide +kernel
theorem dX12_restore_275 : decode cX12_restore 275 = .ok (.iconst 0, 1) := by decide +kernel
theorem dX12_restore_276 : decode cX12_restore 276 = .ok (.bipush 16, 2) := by decide +kernel
theorem dX12_restore_278 : decode cX12_restore 278 = .ok (.invokevirtual 343, 3) := by decide +kernel
theorem dX12_restore_281 : decode cX12_restore 281 = .ok (.aload_n 0, 1) := by decide +kernel
theorem dX12_restore_282 : decode cX12_restore 282 = .ok (.aload_n 0, 1) := by decide +kernel
theorem dX12_restore_283 : decode cX12_restore 283 = .ok (.getfield 150, 3) := by decide +kernel
theorem dX12_restore_286 : decode cX12_restore 286 = .ok (.iconst 0, 1) := by decide +kernel
theorem dX12_restore_287 : decode cX12_restore 287 = .ok (.aload_n 0, 1) := by decide +kernel
theorem dX12_restore_288 : decode cX12_restore 288 = .ok (.getfield 52, 3) := by decide +kernel
theorem dX12_restore_291 : decode cX12_restore 291 = .ok (.iconst 0, 1) := by decide +kernel
theorem dX12_restore_292 : decode cX12_restore 292 = .ok (.bipush 6, 2) := by decide +kernel
theorem dX12_restore_294 : decode cX12_restore 294 = .ok (.invokevirtual 343, 3) := by decide +kernel
theorem dX12_restore_297 : decode cX12_restore 297 = .ok (.iconst 0, 1) := by decide +kernel
theorem dX12_restore_298 : decode cX12_restore 298 = .ok (.istore_n 1, 1) := by decide +kernel
theorem dX12_restore_299 : decode cX12_restore 299 = .ok (.iload_n 1, 1) := by decide +kernel
theorem dX12_restore_300 : decode cX12_restore 300 = .ok (.bipush 8, 2) := by decide +kernel
theorem dX12_restore_302 : decode cX12_restore 302 = .ok (.if_icmp .ge 37, 3) := by decide +kernel
theorem dX12_restore_305 : decode cX12_restore 305 = .ok (.aload_n 0, 1) := by decide +kernel
theorem dX12_restore_306 : decode cX12_restore 306 = .ok (.iload_n 1, 1) := by decide +kernel
theorem dX12_restore_307 : decode cX12_restore 307 = .ok (.invokevirtual 185, 3) := by decide +kernel
theorem dX12_restore_310 : decode cX12_restore 310 = .ok (.ifCond .eq 23, 3) := by decide +kernel
theorem dX12_restore_313 : decode cX12_restore 313 = .ok (.aload_n 0, 1) := by decide +kernel
theorem dX12_restore_314 : decode cX12_restore 314 = .ok (.getfield 55, 3) := by decide +kernel
theorem dX12_restore_317 : decode cX12_restore 317 = .ok (.iload_n 1, 1) := by decide +kernel
theorem dX12_restore_318 : decode cX12_restore 318 = .ok (.iaload, 1) := by decide +kernel
theorem dX12_restore_319 : decode cX12_restore 319 = .ok (.aload_n 0, 1) := by decide +kernel
theorem dX12_restore_320 : decode cX12_restore 320 = .ok (.getfield 165, 3) := by decide +kernel
theorem dX12_restore_323 : decode cX12_restore 323 = .ok (.if_icmp .lt 10, 3) := by decide +kernel
theorem dX12_restore_326 : decode cX12_restore 326 = .ok (.aload_n 0, 1) := by decide +kernel
theorem dX12_restore_327 : decode cX12_restore 327 = .ok (.getfield 55, 3) := by decide +kernel
theorem dX12_restore_330 : decode cX12_restore 330 = .ok (.iload_n 1, 1) := by decide +kernel
theorem dX12_restore_331 : decode cX12_restore 331 = .ok (.iconst (-1), 1) := by decide +kernel
theorem dX12_restore_332 : decode cX12_restore 332 = .ok (.iastore, 1) := by decide +kernel
theorem dX12_restore_333 : decode cX12_restore 333 = .ok (.iinc 1 1, 3) := by decide +kernel
theorem dX12_restore_336 : decode cX12_restore 336 = .ok (.goto (-37), 3) := by decide +kernel
theorem dX12_restore_339 : decode cX12_restore 339 = .ok (.aload_n 0, 1) := by decide +kernel
theorem dX12_restore_340 : decode cX12_restore 340 = .ok (.getfield 165, 3) := by decide +kernel
theorem dX12_restore_343 : decode cX12_restore 343 = .ok (.ireturn, 1) := by decide +kernel
theorem dX12_status_0 : decode cX12_status 0 = .ok (.iload_n 1, 1) := by decide +kernel
theorem dX12_status_1 : decode cX12_status 1 = .ok (.bipush 11, 2) := by decide +kernel
theorem dX12_status_3 : decode cX12_status 3 = .ok (.if_icmp .lt 19, 3) := by decide +kernel
theorem dX12_status_6 : decode cX12_status 6 = .ok (.iload_n 1, 1) := by decide +kernel
theorem dX12_status_7 : decode cX12_status 7 = .ok (.bipush 17, 2) := by decide +kernel
theorem dX12_status_9 : decode cX12_status 9 = .ok (.if_icmp .gt 13, 3) := by decide +kernel
theorem dX12_status_12 : decode cX12_status 12 = .ok (.aload_n 0, 1) := by decide +kernel
theorem dX12_status_13 : decode cX12_status 13 = .ok (.getfield 153, 3) := by decide +kernel
theorem dX12_status_16 : decode cX12_status 16 = .ok (.iload_n 1, 1) := by decide +kernel
theorem dX12_status_17 : decode cX12_status 17 = .ok (.bipush 10, 2) := by decide +kernel
theorem dX12_status_19 : decode cX12_status 19 = .ok (.isub, 1) := by decide +kernel
theorem dX12_status_20 : decode cX12_status 20 = .ok (.iaload, 1) := by decide +kernel
theorem dX12_status_21 : decode cX12_status 21 = .ok (.ireturn, 1) := by decide +kernel
theorem dX12_status_22 : decode cX12_status 22 = .ok (.iload_n 1, 1) := by decide +kernel
theorem dX12_status_23 : decode cX12_status 23 = .ok (.ifCond .ne 8, 3) := by decide +kernel
theorem dX12_status_26 : decode cX12_status 26 = .ok (.aload_n 0, 1) := by decide +kernel
theorem dX12_status_27 : decode cX12_status 27 = .ok (.getfield 159, 3) := by decide +kernel
theorem dX12_status_30 : decode cX12_status 30 = .ok (.ireturn, 1) := by decide +kernel
theorem dX12_status_31 : decode cX12_status 31 = .ok (.iload_n 1, 1) := by decide +kernel
theorem dX12_status_32 : decode cX12_status 32 = .ok (.iconst 1, 1) := by decide +kernel
theorem dX12_status_33 : decode cX12_status 33 = .ok (.if_icmp .ne 8, 3) := by decide +kernel
theorem dX12_status_36 : decode cX12_status 36 = .ok (.aload_n 0, 1) := by decide +kernel
theorem dX12_status_37 : decode cX12_status 37 = .ok (.getfield 162, 3) := by decide +kernel
theorem dX12_status_40 : decode cX12_status 40 = .ok (.ireturn, 1) := by decide +kernel
theorem dX12_status_41 : decode cX12_status 41 = .ok (.iload_n 1, 1) := by decide +kernel
theorem dX12_status_42 : decode cX12_status 42 = .ok (.iconst 2, 1) := by decide +kernel
theorem dX12_status_43 : decode cX12_status 43 = .ok (.if_icmp .ne 8, 3) := by decide +kernel
theorem dX12_status_46 : decode cX12_status 46 = .ok (.aload_n 0, 1) := by decide +kernel
theorem dX12_status_47 : decode cX12_status 47 = .ok (.getfield 165, 3) := by decide +kernel
theorem dX12_status_50 : decode cX12_status 50 = .ok (.ireturn, 1) := by decide +kernel
theorem dX12_status_51 : decode cX12_status 51 = .ok (.iload_n 1, 1) := by decide +kernel
theorem dX12_status_52 : decode cX12_status 52 = .ok (.iconst 3, 1) := by decide +kernel
theorem dX12_status_53 : decode cX12_status 53 = .ok (.if_icmp .ne 32, 3) := by decide +kernel
theorem dX12_status_56 : decode cX12_status 56 = .ok (.iconst 0, 1) := by decide +kernel
theorem dX12_status_57 : decode cX12_status 57 = .ok (.istore_n 2, 1) := by decide +kernel
theorem dX12_status_58 : decode cX12_status 58 = .ok (.iconst 0, 1) := by decide +kernel
theorem dX12_status_59 : decode cX12_status 59 = .ok (.istore_n 3, 1) := by decide +kernel
theorem dX12_status_60 : decode cX12_status 60 = .ok (.iload_n 3, 1) := by decide +kernel
theorem dX12_status_61 : decode cX12_status 61 = .ok (.aload_n 0, 1) := by decide +kernel
theorem dX12_status_62 : decode cX12_status 62 = .ok (.getfield 165, 3) := by decide +kernel
theorem dX12_status_65 : decode cX12_status 65 = .ok (.if_icmp .ge 18, 3) := by decide +kernel
theorem dX12_status_68 : decode cX12_status 68 = .ok (.iload_n 2, 1) := by decide +kernel
theorem dX12_status_69 : decode cX12_status 69 = .ok (.aload_n 0, 1) := by decide +kernel
theorem dX12_status_70 : decode cX12_status 70 = .ok (.getfield 49, 3) := by decide +kernel
theorem dX12_status_73 : decode cX12_status 73 = .ok (.iload_n 3, 1) := by decide +kernel
theorem dX12_status_74 : decode cX12_status 74 = .ok (.iaload, 1) := by decide +kernel
theorem dX12_status_75 : decode cX12_status 75 = .ok (.iadd, 1) := by decide +kernel
theorem dX12_status_76 : decode cX12_status 76 = .ok (.istore_n 2, 1) := by decide +kernel
theorem dX12_status_77 : decode cX12_status 77 = .ok (.iinc 3 1, 3) := by decide +kernel
theorem dX12_status_80 : decode cX12_status 80 = .ok (.goto (-20), 3) := by decide +kernel
theorem dX12_status_83 : decode cX12_status 83 = .ok (.iload_n 2, 1) := by decide +kernel
theorem dX12_status_84 : decode cX12_status 84 = .ok (.ireturn, 1) := by decide +kernel
theorem dX12_status_85 : decode cX12_status 85 = .ok (.iload_n 1, 1) := by decide +kernel
theorem dX12_status_86 : decode cX12_status 86 = .ok (.iconst 4, 1) := by decide +kernel
theorem dX12_status_87 : decode cX12_status 87 = .ok (.if_icmp .ne 10, 3) := by decide +kernel
theorem dX12_status_90 : decode cX12_status 90 = .ok (.aload_n 0, 1) := by decide +kernel
theorem dX12_status_91 : decode cX12_status 91 = .ok (.getfield 323, 3) := by decide +kernel
theorem dX12_status_94 : decode cX12_status 94 = .ok (.goto 4, 3) := by decide +kernel
theorem dX12_status_97 : decode cX12_status 97 = .ok (.iconst (-1), 1) := by decide +kernel
theorem dX12_status_98 : decode cX12_status 98 = .ok (.ireturn, 1) := by decide +kernel
