theorem dL_law_31 : decode cL_law 31 = .ok (.aload_n 1, 1) := by decide +kernel
theorem dL_law_32 : decode cL_law 32 = .ok (.invokevirtual 174, 3) := by decide +kernel
theorem dL_law_35 : decode cL_law 35 = .ok (.istore 5, 2) := by decide +kernel
theorem dL_law_37 : decode cL_law 37 = .ok (.aload_n 1, 1) := by decide +kernel
theorem dL_law_38 : decode cL_law 38 = .ok (.invokevirtual 177, 3) := by decide +kernel
theorem dL_law_41 : decode cL_law 41 = .ok (.aload_n 1, 1) := by decide +kernel
theorem dL_law_42 : decode cL_law 42 = .ok (.invokevirtual 180, 3) := by decide +kernel
theorem dL_law_45 : decode cL_law 45 = .ok (.iadd, 1) := by decide +kernel
theorem dL_law_46 : decode cL_law 46 = .ok (.istore 6, 2) := by decide +kernel
theorem dL_law_48 : decode cL_law 48 = .ok (.fconst 0, 1) := by decide +kernel
theorem dL_law_49 : decode cL_law 49 = .ok (.fstore 7, 2) := by decide +kernel
theorem dL_law_51 : decode cL_law 51 = .ok (.aload_n 1, 1) := by decide +kernel
theorem dL_law_52 : decode cL_law 52 = .ok (.invokevirtual 183, 3) := by decide +kernel
theorem dL_law_55 : decode cL_law 55 = .ok (.fstore 8, 2) := by decide +kernel
theorem dL_law_57 : decode cL_law 57 = .ok (.dconst 0, 1) := by decide +kernel
theorem dL_law_58 : decode cL_law 58 = .ok (.dstore 9, 2) := by decide +kernel
theorem dL_law_60 : decode cL_law 60 = .ok (.iconst 0, 1) := by decide +kernel
theorem dL_law_61 : decode cL_law 61 = .ok (.istore 11, 2) := by decide +kernel
theorem dL_law_63 : decode cL_law 63 = .ok (.iload 11, 2) := by decide +kernel
theorem dL_law_65 : decode cL_law 65 = .ok (.iload_n 3, 1) := by decide +kernel
theorem dL_law_66 : decode cL_law 66 = .ok (.if_icmp .ge 433, 3) := by decide +kernel
theorem dL_law_69 : decode cL_law 69 = .ok (.aload_n 1, 1) := by decide +kernel
theorem dL_law_70 : decode cL_law 70 = .ok (.iload 11, 2) := by decide +kernel
theorem dL_law_72 : decode cL_law 72 = .ok (.invokevirtual 154, 3) := by decide +kernel
theorem dL_law_75 : decode cL_law 75 = .ok (.fstore 12, 2) := by decide +kernel
theorem dL_law_77 : decode cL_law 77 = .ok (.aload_n 1, 1) := by decide +kernel
theorem dL_law_78 : decode cL_law 78 = .ok (.iload 11, 2) := by decide +kernel
theorem dL_law_80 : decode cL_law 80 = .ok (.invokevirtual 158, 3) := by decide +kernel
theorem dL_law_83 : decode cL_law 83 = .ok (.fstore 13, 2) := by decide +kernel
theorem dL_law_85 : decode cL_law 85 = .ok (.aload_n 1, 1) := by decide +kernel
theorem dL_law_86 : decode cL_law 86 = .ok (.iload 11, 2) := by decide +kernel
theorem dL_law_88 : decode cL_law 88 = .ok (.invokevirtual 186, 3) := by decide +kernel
theorem dL_law_91 : decode cL_law 91 = .ok (.istore 14, 2) := by decide +kernel
theorem dL_law_93 : decode cL_law 93 = .ok (.fconst 2, 1) := by decide +kernel
theorem dL_law_94 : decode cL_law 94 = .ok (.fload 13, 2) := by decide +kernel
theorem dL_law_96 : decode cL_law 96 = .ok (.fmul, 1) := by decide +kernel
theorem dL_law_97 : decode cL_law 97 = .ok (.f2i, 1) := by decide +kernel
theorem dL_law_98 : decode cL_law 98 = .ok (.istore 15, 2) := by decide +kernel
theorem dL_law_100 : decode cL_law 100 = .ok (.sipush (-30000), 3) := by decide +kernel
theorem dL_law_103 : decode cL_law 103 = .ok (.istore 16, 2) := by decide +kernel
theorem dL_law_105 : decode cL_law 105 = .ok (.fload 7, 2) := by decide +kernel
theorem dL_law_107 : decode cL_law 107 = .ok (.fload 12, 2) := by decide +kernel
theorem dL_law_109 : decode cL_law 109 = .ok (.fadd, 1) := by decide +kernel
theorem dL_law_110 : decode cL_law 110 = .ok (.fstore 7, 2) := by decide +kernel
theorem dL_law_112 : decode cL_law 112 = .ok (.dload 9, 2) := by decide +kernel
theorem dL_law_114 : decode cL_law 114 = .ok (.fload 13, 2) := by decide +kernel
theorem dL_law_116 : decode cL_law 116 = .ok (.f2d, 1) := by decide +kernel
theorem dL_law_117 : decode cL_law 117 = .ok (.dadd, 1) := by decide +kernel
theorem dL_law_118 : decode cL_law 118 = .ok (.dstore 9, 2) := by decide +kernel
theorem dL_law_120 : decode cL_law 120 = .ok (.fload 12, 2) := by decide +kernel
theorem dL_law_122 : decode cL_law 122 = .ok (.fconst 0, 1) := by decide +kernel
theorem dL_law_123 : decode cL_law 123 = .ok (.fcmp .g, 1) := by decide +kernel
theorem dL_law_124 : decode cL_law 124 = .ok (.ifCond .lt 71, 3) := by decide +kernel
theorem dL_law_127 : decode cL_law 127 = .ok (.fload 12, 2) := by decide +kernel
theorem dL_law_129 : decode cL_law 129 = .ok (.aload_n 1, 1) := by decide +kernel
theorem dL_law_130 : decode cL_law 130 = .ok (.iload 11, 2) := by decide +kernel
theorem dL_law_132 : decode cL_law 132 = .ok (.invokevirtual 189, 3) := by decide +kernel
theorem dL_law_135 : decode cL_law 135 = .ok (.fcmp .l, 1) := by decide +kernel
theorem dL_law_136 : decode cL_law 136 = .ok (.ifCond .gt 59, 3) := by decide +kernel
theorem dL_law_139 : decode cL_law 139 = .ok (.fload 13, 2) := by decide +kernel
theorem dL_law_141 : decode cL_law 141 = .ok (.ldc 192, 2) := by decide +kernel
theorem dL_law_143 : decode cL_law 143 = .ok (.fcmp .g, 1) := by decide +kernel
theorem dL_law_144 : decode cL_law 144 = .ok (.ifCond .lt 51, 3) := by decide +kernel
theorem dL_law_147 : decode cL_law 147 = .ok (.fload 13, 2) := by decide +kernel
theorem dL_law_149 : decode cL_law 149 = .ok (.ldc 193, 2) := by decide +kernel
theorem dL_law_151 : decode cL_law 151 = .ok (.fcmp .l, 1) := by decide +kernel
theorem dL_law_152 : decode cL_law 152 = .ok (.ifCond .gt 43, 3) := by decide +kernel
theorem dL_law_155 : decode cL_law 155 = .ok (.iload 14, 2) := by decide +kernel
theorem dL_law_157 : decode cL_law 157 = .ok (.ifCond .lt 38, 3) := by decide +kernel
theorem dL_law_160 : decode cL_law 160 = .ok (.iload 14, 2) := by decide +kernel
theorem dL_law_162 : decode cL_law 162 = .ok (.iconst 5, 1) := by decide +kernel
theorem dL_law_163 : decode cL_law 163 = .ok (.if_icmp .gt 32, 3) := by decide +kernel
theorem dL_law_166 : decode cL_law 166 = .ok (.aload_n 1, 1) := by decide +kernel
theorem dL_law_167 : decode cL_law 167 = .ok (.iload 11, 2) := by decide +kernel
theorem dL_law_169 : decode cL_law 169 = .ok (.invokevirtual 194, 3) := by decide +kernel
theorem dL_law_172 : decode cL_law 172 = .ok (.fload 13, 2) := by decide +kernel
theorem dL_law_174 : decode cL_law 174 = .ok (.invokestatic 197, 3) := by decide +kernel
theorem dL_law_177 : decode cL_law 177 = .ok (.if_icmp .ne 18, 3) := by decide +kernel
theorem dL_law_180 : decode cL_law 180 = .ok (.fload 12, 2) := by decide +kernel
theorem dL_law_182 : decode cL_law 182 = .ok (.invokestatic 203, 3) := by decide +kernel
theorem dL_law_185 : decode cL_law 185 = .ok (.i2f, 1) := by decide +kernel
theorem dL_law_186 : decode cL_law 186 = .ok (.ldc 146, 2) := by decide +kernel
theorem dL_law_188 : decode cL_law 188 = .ok (.fdiv, 1) := by decide +kernel
theorem dL_law_189 : decode cL_law 189 = .ok (.fload 12, 2) := by decide +kernel
theorem dL_law_191 : decode cL_law 191 = .ok (.fcmp .l, 1) := by decide +kernel
theorem dL_law_192 : decode cL_law 192 = .ok (.ifCond .eq 5, 3) := by decide +kernel
theorem dL_law_195 : decode cL_law 195 = .ok (.iconst 0, 1) := by decide +kernel
theorem dL_law_196 : decode cL_law 196 = .ok (.ireturn, 1) := by decide +kernel
theorem dL_law_197 : decode cL_law 197 = .ok (.fload 12, 2) := by decide +kernel
theorem dL_law_199 : decode cL_law 199 = .ok (.fconst 0, 1) := by decide +kernel
theorem dL_law_200 : decode cL_law 200 = .ok (.fcmp .l, 1) := by decide +kernel
theorem dL_law_201 : decode cL_law 201 = .ok (.ifCond .le 43, 3) := by decide +kernel
theorem dL_law_204 : decode cL_law 204 = .ok (.iload 14, 2) := by decide +kernel
theorem dL_law_206 : decode cL_law 206 = .ok (.ifCond .le 38, 3) := by decide +kernel
theorem dL_law_209 : decode cL_law 209 = .ok (.iconst 0, 1) := by decide +kernel
theorem dL_law_210 : decode cL_law 210 = .ok (.istore 16, 2) := by decide +kernel
theorem dL_law_212 : decode cL_law 212 = .ok (.iload 15, 2) := by decide +kernel
theorem dL_law_214 : decode cL_law 214 = .ok (.istore 17, 2) := by decide +kernel
theorem dL_law_216 : decode cL_law 216 = .ok (.sipush 200, 3) := by decide +kernel
theorem dL_law_219 : decode cL_law 219 = .ok (.iload 17, 2) := by decide +kernel
theorem dL_law_221 : decode cL_law 221 = .ok (.iconst 3, 1) := by decide +kernel
theorem dL_law_222 : decode cL_law 222 = .ok (.iload 14, 2) := by decide +kernel
theorem dL_law_224 : decode cL_law 224 = .ok (.imul, 1) := by decide +kernel
theorem dL_law_225 : decode cL_law 225 = .ok (.iadd, 1) := by decide +kernel
theorem dL_law_226 : decode cL_law 226 = .ok (.iconst 1, 1) := by decide +kernel
theorem dL_law_227 : decode cL_law 227 = .ok (.isub, 1) := by decide +kernel
theorem dL_law_228 : decode cL_law 228 = .ok (.invokestatic 206, 3) := by decide +kernel
theorem dL_law_231 : decode cL_law 231 = .ok (.istore 17, 2) := by decide +kernel
theorem dL_law_233 : decode cL_law 233 = .ok (.iinc 16 1, 3) := by decide +kernel
theorem dL_law_236 : decode cL_law 236 = .ok (.iload 17, 2) := by decide +kernel
theorem dL_law_238 : decode cL_law 238 = .ok (.sipush 200, 3) := by decide +kernel
theorem dL_law_241 : decode cL_law 241 = .ok (.if_icmp .lt (-25), 3) := by decide +kernel
theorem dL_law_244 : decode cL_law 244 = .ok (.aload_n 1, 1) := by decide +kernel
theorem dL_law_245 : decode cL_law 245 = .ok (.iload 11, 2) := by decide +kernel
theorem dL_law_247 : decode cL_law 247 = .ok (.invokestatic 211, 3) := by decide +kernel
theorem dL_law_250 : decode cL_law 250 = .ok (.iload 16, 2) := by decide +kernel
theorem dL_law_252 : decode cL_law 252 = .ok (.if_icmp .ne 14, 3) := by decide +kernel
theorem dL_law_255 : decode cL_law 255 = .ok (.aload_n 1, 1) := by decide +kernel
theorem dL_law_256 : decode cL_law 256 = .ok (.iload 11, 2) := by decide +kernel
theorem dL_law_258 : decode cL_law 258 = .ok (.invokestatic 213, 3) := by decide +kernel
theorem dL_law_261 : decode cL_law 261 = .ok (.iload 16, 2) := by decide +kernel
theorem dL_law_263 : decode cL_law 263 = .ok (.if_icmp .eq 5, 3) := by decide +kernel
theorem dL_law_266 : decode cL_law 266 = .ok (.iconst 0, 1) := by decide +kernel
theorem dL_law_267 : decode cL_law 267 = .ok (.ireturn, 1) := by decide +kernel
theorem dL_law_268 : decode cL_law 268 = .ok (.aload_n 1, 1) := by decide +kernel
theorem dL_law_269 : decode cL_law 269 = .ok (.aload_n 1, 1) := by decide +kernel
theorem dL_law_270 : decode cL_law 270 = .ok (.iload 11, 2) := by decide +kernel
theorem dL_law_272 : decode cL_law 272 = .ok (.invokevirtual 215, 3) := by decide +kernel
theorem dL_law_275 : decode cL_law 275 = .ok (.new 218, 3) := by decide +kernel
theorem dL_law_278 : decode cL_law 278 = .ok (.dup, 1) := by decide +kernel
theorem dL_law_279 : decode cL_law 279 = .ok (.invokespecial 220, 3) := by decide +kernel
theorem dL_law_282 : decode cL_law 282 = .ok (.ldc 221, 2) := by decide +kernel
theorem dL_law_284 : decode cL_law 284 = .ok (.invokevirtual 223, 3) := by decide +kernel
theorem dL_law_287 : decode cL_law 287 = .ok (.iload 11, 2) := by decide +kernel
theorem dL_law_289 : decode cL_law 289 = .ok (.invokevirtual 227, 3) := by decide +kernel
theorem dL_law_292 : decode cL_law 292 = .ok (.ldc 230, 2) := by decide +kernel
theorem dL_law_294 : decode cL_law 294 = .ok (.invokevirtual 223, 3) := by decide +kernel
theorem dL_law_297 : decode cL_law 297 = .ok (.fload 12, 2) := by decide +kernel
theorem dL_law_299 : decode cL_law 299 = .ok (.invokestatic 203, 3) := by decide +kernel
theorem dL_law_302 : decode cL_law 302 = .ok (.invokevirtual 227, 3) := by decide +kernel
theorem dL_law_305 : decode cL_law 305 = .ok (.ldc 232, 2) := by decide +kernel
theorem dL_law_307 : decode cL_law 307 = .ok (.invokevirtual 223, 3) := by decide +kernel
theorem dL_law_310 : decode cL_law 310 = .ok (.aload_n 1, 1) := by decide +kernel
theorem dL_law_311 : decode cL_law 311 = .ok (.iload 11, 2) := by decide +kernel
theorem dL_law_313 : decode cL_law 313 = .ok (.invokevirtual 189, 3) := by decide +kernel
theorem dL_law_316 : decode cL_law 316 = .ok (.invokestatic 203, 3) := by decide +kernel
theorem dL_law_319 : decode cL_law 319 = .ok (.invokevirtual 227, 3) := by decide +kernel
theorem dL_law_322 : decode cL_law 322 = .ok (.ldc 230, 2) := by decide +kernel
theorem dL_law_324 : decode cL_law 324 = .ok (.invokevirtual 223, 3) := by decide +kernel
theorem dL_law_327 : decode cL_law 327 = .ok (.iload 15, 2) := by decide +kernel
theorem dL_law_329 : decode cL_law 329 = .ok (.invokevirtual 227, 3) := by decide +kernel
theorem dL_law_332 : decode cL_law 332 = .ok (.ldc 234, 2) := by decide +kernel
theorem dL_law_334 : decode cL_law 334 = .ok (.invokevirtual 223, 3) := by decide +kernel
theorem dL_law_337 : decode cL_law 337 = .ok (.iload 14, 2) := by decide +kernel
theorem dL_law_339 : decode cL_law 339 = .ok (.ifCond .le 26, 3) := by decide +kernel
theorem dL_law_342 : decode cL_law 342 = .ok (.new 218, 3) := by decide +kernel
theorem dL_law_345 : decode cL_law 345 = .ok (.dup, 1) := by decide +kernel
theorem dL_law_346 : decode cL_law 346 = .ok (.invokespecial 220, 3) := by decide +kernel
theorem dL_law_349 : decode cL_law 349 = .ok (.ldc 236, 2) := by decide +kernel
theorem dL_law_351 : decode cL_law 351 = .ok (.invokevirtual 223, 3) := by decide +kernel
theorem dL_law_354 : decode cL_law 354 = .ok (.iload 14, 2) := by decide +kernel
theorem dL_law_356 : decode cL_law 356 = .ok (.invokevirtual 227, 3) := by decide +kernel
theorem dL_law_359 : decode cL_law 359 = .ok (.invokevirtual 238, 3) := by decide +kernel
theorem dL_law_362 : decode cL_law 362 = .ok (.goto 5, 3) := by decide +kernel
theorem dL_law_365 : decode cL_law 365 = .ok (.ldc 242, 2) := by decide +kernel
theorem dL_law_367 : decode cL_law 367 = .ok (.invokevirtual 223, 3) := by decide +kernel
theorem dL_law_370 : decode cL_law 370 = .ok (.aload_n 1, 1) := by decide +kernel
theorem dL_law_371 : decode cL_law 371 = .ok (.iload 11, 2) := by decide +kernel
theorem dL_law_373 : decode cL_law 373 = .ok (.invokevirtual 244, 3) := by decide +kernel
theorem dL_law_376 : decode cL_law 376 = .ok (.ifCond .eq 8, 3) := by decide +kernel
theorem dL_law_379 : decode cL_law 379 = .ok (.ldc 248, 2) := by decide +kernel
theorem dL_law_381 : decode cL_law 381 = .ok (.goto 5, 3) := by decide +kernel
theorem dL_law_384 : decode cL_law 384 = .ok (.ldc 242, 2) := by decide +kernel
theorem dL_law_386 : decode cL_law 386 = .ok (.invokevirtual 223, 3) := by decide +kernel
theorem dL_law_389 : decode cL_law 389 = .ok (.invokevirtual 238, 3) := by decide +kernel
theorem dL_law_392 : decode cL_law 392 = .ok (.invokestatic 250, 3) := by decide +kernel
theorem dL_law_395 : decode cL_law 395 = .ok (.ifCond .ne 5, 3) := by decide +kernel
theorem dL_law_398 : decode cL_law 398 = .ok (.iconst 0, 1) := by decide +kernel
theorem dL_law_399 : decode cL_law 399 = .ok (.ireturn, 1) := by decide +kernel
theorem dL_law_400 : decode cL_law 400 = .ok (.iload 11, 2) := by decide +kernel
theorem dL_law_402 : decode cL_law 402 = .ok (.ifCond .ne 6, 3) := by decide +kernel
theorem dL_law_405 : decode cL_law 405 = .ok (.goto 88, 3) := by decide +kernel
theorem dL_law_408 : decode cL_law 408 = .ok (.aload_n 1, 1) := by decide +kernel
theorem dL_law_409 : decode cL_law 409 = .ok (.iload 11, 2) := by decide +kernel
theorem dL_law_411 : decode cL_law 411 = .ok (.iconst 1, 1) := by decide +kernel
theorem dL_law_412 : decode cL_law 412 = .ok (.isub, 1) := by decide +kernel
theorem dL_law_413 : decode cL_law 413 = .ok (.invokevirtual 75, 3) := by decide +kernel
theorem dL_law_416 : decode cL_law 416 = .ok (.istore 17, 2) := by decide +kernel
theorem dL_law_418 : decode cL_law 418 = .ok (.aload_n 1, 1) := by decide +kernel
theorem dL_law_419 : decode cL_law 419 = .ok (.iload 11, 2) := by decide +kernel
theorem dL_law_421 : decode cL_law 421 = .ok (.invokevirtual 75, 3) := by decide +kernel
theorem dL_law_424 : decode cL_law 424 = .ok (.istore 18, 2) := by decide +kernel
theorem dL_law_426 : decode cL_law 426 = .ok (.aload_n 1, 1) := by decide +kernel
theorem dL_law_427 : decode cL_law 427 = .ok (.iload 17, 2) := by decide +kernel
theorem dL_law_429 : decode cL_law 429 = .ok (.invokevirtual 158, 3) := by decide +kernel
theorem dL_law_432 : decode cL_law 432 = .ok (.aload_n 1, 1) := by decide +kernel
theorem dL_law_433 : decode cL_law 433 = .ok (.iload 18, 2) := by decide +kernel
theorem dL_law_435 : decode cL_law 435 = .ok (.invokevirtual 158, 3) := by decide +kernel
theorem dL_law_438 : decode cL_law 438 = .ok (.fsub, 1) := by decide +kernel
theorem dL_law_439 : decode cL_law 439 = .ok (.fstore 19, 2) := by decide +kernel
theorem dL_law_441 : decode cL_law 441 = .ok (.aload_n 1, 1) := by decide +kernel
theorem dL_law_442 : decode cL_law 442 = .ok (.iload 17, 2) := by decide +kernel
theorem dL_law_444 : decode cL_law 444 = .ok (.invokevirtual 154, 3) := by decide +kernel
theorem dL_law_447 : decode cL_law 447 = .ok (.aload_n 1, 1) := by decide +kernel
theorem dL_law_448 : decode cL_law 448 = .ok (.iload 18, 2) := by decide +kernel
theorem dL_law_450 : decode cL_law 450 = .ok (.invokevirtual 154, 3) := by decide +kernel
theorem dL_law_453 : decode cL_law 453 = .ok (.fsub, 1) := by decide +kernel
theorem dL_law_454 : decode cL_law 454 = .ok (.fstore 20, 2) := by decide +kernel
theorem dL_law_456 : decode cL_law 456 = .ok (.fload 19, 2) := by decide +kernel
theorem dL_law_458 : decode cL_law 458 = .ok (.fconst 0, 1) := by decide +kernel
theorem dL_law_459 : decode cL_law 459 = .ok (.fcmp .g, 1) := by decide +kernel
theorem dL_law_460 : decode cL_law 460 = .ok (.ifCond .lt 31, 3) := by decide +kernel
theorem dL_law_463 : decode cL_law 463 = .ok (.fload 19, 2) := by decide +kernel
theorem dL_law_465 : decode cL_law 465 = .ok (.fconst 0, 1) := by decide +kernel
theorem dL_law_466 : decode cL_law 466 = .ok (.fcmp .l, 1) := by decide +kernel
theorem dL_law_467 : decode cL_law 467 = .ok (.ifCond .ne 26, 3) := by decide +kernel
theorem dL_law_470 : decode cL_law 470 = .ok (.fload 20, 2) := by decide +kernel
theorem dL_law_472 : decode cL_law 472 = .ok (.fconst 0, 1) := by decide +kernel
theorem dL_law_473 : decode cL_law 473 = .ok (.fcmp .g, 1) := by decide +kernel
theorem dL_law_474 : decode cL_law 474 = .ok (.ifCond .lt 17, 3) := by decide +kernel
theorem dL_law_477 : decode cL_law 477 = .ok (.fload 20, 2) := by decide +kernel
theorem dL_law_479 : decode cL_law 479 = .ok (.fconst 0, 1) := by decide +kernel
theorem dL_law_480 : decode cL_law 480 = .ok (.fcmp .l, 1) := by decide +kernel
theorem dL_law_481 : decode cL_law 481 = .ok (.ifCond .ne 12, 3) := by decide +kernel
theorem dL_law_484 : decode cL_law 484 = .ok (.iload 17, 2) := by decide +kernel
theorem dL_law_486 : decode cL_law 486 = .ok (.iload 18, 2) := by decide +kernel
theorem dL_law_488 : decode cL_law 488 = .ok (.if_icmp .le 5, 3) := by decide +kernel
theorem dL_law_491 : decode cL_law 491 = .ok (.iconst 0, 1) := by decide +kernel
theorem dL_law_492 : decode cL_law 492 = .ok (.ireturn, 1) := by decide +kernel
theorem dL_law_493 : decode cL_law 493 = .ok (.iinc 11 1, 3) := by decide +kernel
theorem dL_law_496 : decode cL_law 496 = .ok (.goto (-433), 3) := by decide +kernel
theorem dL_law_499 : decode cL_law 499 = .ok (.iconst 0, 1) := by decide +kernel
theorem dL_law_500 : decode cL_law 500 = .ok (.istore 11, 2) := by decide +kernel
theorem dL_law_502 : decode cL_law 502 = .ok (.iload 11, 2) := by decide +kernel
theorem dL_law_504 : decode cL_law 504 = .ok (.iload 4, 2) := by decide +kernel
theorem dL_law_506 : decode cL_law 506 = .ok (.if_icmp .ge 122, 3) := by decide +kernel
theorem dL_law_509 : decode cL_law 509 = .ok (.aload_n 1, 1) := by decide +kernel
theorem dL_law_510 : decode cL_law 510 = .ok (.iload 11, 2) := by decide +kernel
theorem dL_law_512 : decode cL_law 512 = .ok (.invokevirtual 78, 3) := by decide +kernel
theorem dL_law_515 : decode cL_law 515 = .ok (.istore 12, 2) := by decide +kernel
theorem dL_law_517 : decode cL_law 517 = .ok (.aload_n 1, 1) := by decide +kernel
theorem dL_law_518 : decode cL_law 518 = .ok (.iload 12, 2) := by decide +kernel
theorem dL_law_520 : decode cL_law 520 = .ok (.invokevirtual 254, 3) := by decide +kernel
theorem dL_law_523 : decode cL_law 523 = .ok (.iload 11, 2) := by decide +kernel
theorem dL_law_525 : decode cL_law 525 = .ok (.if_icmp .ne 95, 3) := by decide +kernel
theorem dL_law_528 : decode cL_law 528 = .ok (.aload_n 1, 1) := by decide +kernel
theorem dL_law_529 : decode cL_law 529 = .ok (.iload 12, 2) := by decide +kernel
theorem dL_law_531 : decode cL_law 531 = .ok (.invokevirtual 257, 3) := by decide +kernel
theorem dL_law_534 : decode cL_law 534 = .ok (.aload_n 1, 1) := by decide +kernel
theorem dL_law_535 : decode cL_law 535 = .ok (.iload 12, 2) := by decide +kernel
theorem dL_law_537 : decode cL_law 537 = .ok (.invokevirtual 260, 3) := by decide +kernel
theorem dL_law_540 : decode cL_law 540 = .ok (.i2f, 1) := by decide +kernel
theorem dL_law_541 : decode cL_law 541 = .ok (.aload_n 1, 1) := by decide +kernel
theorem dL_law_542 : decode cL_law 542 = .ok (.invokevirtual 263, 3) := by decide +kernel
theorem dL_law_545 : decode cL_law 545 = .ok (.fmul, 1) := by decide +kernel
theorem dL_law_546 : decode cL_law 546 = .ok (.fcmp .l, 1) := by decide +kernel
theorem dL_law_547 : decode cL_law 547 = .ok (.ifCond .ne 73, 3) := by decide +kernel
theorem dL_law_550 : decode cL_law 550 = .ok (.aload_n 1, 1) := by decide +kernel
theorem dL_law_551 : decode cL_law 551 = .ok (.iload 12, 2) := by decide +kernel
theorem dL_law_553 : decode cL_law 553 = .ok (.invokestatic 266, 3) := by decide +kernel
theorem dL_law_556 : decode cL_law 556 = .ok (.aload_n 1, 1) := by decide +kernel
theorem dL_law_557 : decode cL_law 557 = .ok (.aload_n 1, 1) := by decide +kernel
theorem dL_law_558 : decode cL_law 558 = .ok (.iload 12, 2) := by decide +kernel
theorem dL_law_560 : decode cL_law 560 = .ok (.invokevirtual 260, 3) := by decide +kernel
theorem dL_law_563 : decode cL_law 563 = .ok (.aload_n 1, 1) := by decide +kernel
theorem dL_law_564 : decode cL_law 564 = .ok (.iload 12, 2) := by decide +kernel
theorem dL_law_566 : decode cL_law 566 = .ok (.invokestatic 268, 3) := by decide +kernel
theorem dL_law_569 : decode cL_law 569 = .ok (.invokestatic 271, 3) := by decide +kernel
theorem dL_law_572 : decode cL_law 572 = .ok (.if_icmp .ne 48, 3) := by decide +kernel
theorem dL_law_575 : decode cL_law 575 = .ok (.aload_n 1, 1) := by decide +kernel
theorem dL_law_576 : decode cL_law 576 = .ok (.iload 12, 2) := by decide +kernel
theorem dL_law_578 : decode cL_law 578 = .ok (.invokestatic 274, 3) := by decide +kernel
theorem dL_law_581 : decode cL_law 581 = .ok (.ifCond .ne 7, 3) := by decide +kernel
theorem dL_law_584 : decode cL_law 584 = .ok (.iconst 1, 1) := by decide +kernel
theorem dL_law_585 : decode cL_law 585 = .ok (.goto 4, 3) := by decide +kernel
theorem dL_law_588 : decode cL_law 588 = .ok (.iconst 0, 1) := by decide +kernel
theorem dL_law_589 : decode cL_law 589 = .ok (.aload_n 1, 1) := by decide +kernel
theorem dL_law_590 : decode cL_law 590 = .ok (.iload 12, 2) := by decide +kernel
theorem dL_law_592 : decode cL_law 592 = .ok (.invokestatic 266, 3) := by decide +kernel
theorem dL_law_595 : decode cL_law 595 = .ok (.sipush (-30000), 3) := by decide +kernel
theorem dL_law_598 : decode cL_law 598 = .ok (.if_icmp .eq 7, 3) := by decide +kernel
theorem dL_law_601 : decode cL_law 601 = .ok (.iconst 1, 1) := by decide +kernel
theorem dL_law_602 : decode cL_law 602 = .ok (.goto 4, 3) := by decide +kernel
theorem dL_law_605 : decode cL_law 605 = .ok (.iconst 0, 1) := by decide +kernel
theorem dL_law_606 : decode cL_law 606 = .ok (.if_icmp .ne 14, 3) := by decide +kernel
theorem dL_law_609 : decode cL_law 609 = .ok (.aload_n 1, 1) := by decide +kernel
theorem dL_law_610 : decode cL_law 610 = .ok (.iload 12, 2) := by decide +kernel
theorem dL_law_612 : decode cL_law 612 = .ok (.invokestatic 274, 3) := by decide +kernel
theorem dL_law_615 : decode cL_law 615 = .ok (.bipush 120, 2) := by decide +kernel
theorem dL_law_617 : decode cL_law 617 = .ok (.if_icmp .le 5, 3) := by decide +kernel
theorem dL_law_620 : decode cL_law 620 = .ok (.iconst 0, 1) := by decide +kernel
theorem dL_law_621 : decode cL_law 621 = .ok (.ireturn, 1) := by decide +kernel
theorem dL_law_622 : decode cL_law 622 = .ok (.iinc 11 1, 3) := by decide +kernel
theorem dL_law_625 : decode cL_law 625 = .ok (.goto (-123), 3) := by decide +kernel
theorem dL_law_628 : decode cL_law 628 = .ok (.iload 4, 2) := by decide +kernel
theorem dL_law_630 : decode cL_law 630 = .ok (.ifCond .le 38, 3) := by decide +kernel
theorem dL_law_633 : decode cL_law 633 = .ok (.aload_n 1, 1) := by decide +kernel
theorem dL_law_634 : decode cL_law 634 = .ok (.aload_n 1, 1) := by decide +kernel
theorem dL_law_635 : decode cL_law 635 = .ok (.iconst 0, 1) := by decide +kernel
theorem dL_law_636 : decode cL_law 636 = .ok (.invokevirtual 78, 3) := by decide +kernel
theorem dL_law_639 : decode cL_law 639 = .ok (.invokestatic 266, 3) := by decide +kernel
theorem dL_law_642 : decode cL_law 642 = .ok (.sipush (-30000), 3) := by decide +kernel
theorem dL_law_645 : decode cL_law 645 = .ok (.if_icmp .eq 23, 3) := by decide +kernel
theorem dL_law_648 : decode cL_law 648 = .ok (.aload_n 1, 1) := by decide +kernel
theorem dL_law_649 : decode cL_law 649 = .ok (.invokevirtual 276, 3) := by decide +kernel
theorem dL_law_652 : decode cL_law 652 = .ok (.aload_n 1, 1) := by decide +kernel
theorem dL_law_653 : decode cL_law 653 = .ok (.aload_n 1, 1) := by decide +kernel
theorem dL_law_654 : decode cL_law 654 = .ok (.iconst 0, 1) := by decide +kernel
theorem dL_law_655 : decode cL_law 655 = .ok (.invokevirtual 78, 3) := by decide +kernel
theorem dL_law_658 : decode cL_law 658 = .ok (.invokevirtual 260, 3) := by decide +kernel
theorem dL_law_661 : decode cL_law 661 = .ok (.if_icmp .lt 7, 3) := by decide +kernel
theorem dL_law_664 : decode cL_law 664 = .ok (.iconst 1, 1) := by decide +kernel
theorem dL_law_665 : decode cL_law 665 = .ok (.goto 4, 3) := by decide +kernel
theorem dL_law_668 : decode cL_law 668 = .ok (.iconst 0, 1) := by decide +kernel
theorem dL_law_669 : decode cL_law 669 = .ok (.istore 11, 2) := by decide +kernel
theorem dL_law_671 : decode cL_law 671 = .ok (.iconst 0, 1) := by decide +kernel
theorem dL_law_672 : decode cL_law 672 = .ok (.istore 12, 2) := by decide +kernel
theorem dL_law_674 : decode cL_law 674 = .ok (.iload 12, 2) := by decide +kernel
theorem dL_law_676 : decode cL_law 676 = .ok (.iload 5, 2) := by decide +kernel
theorem dL_law_678 : decode cL_law 678 = .ok (.if_icmp .ge 84, 3) := by decide +kernel
theorem dL_law_681 : decode cL_law 681 = .ok (.fload 8, 2) := by decide +kernel
theorem dL_law_683 : decode cL_law 683 = .ok (.aload_n 1, 1) := by decide +kernel
theorem dL_law_684 : decode cL_law 684 = .ok (.iload 12, 2) := by decide +kernel
theorem dL_law_686 : decode cL_law 686 = .ok (.invokevirtual 279, 3) := by decide +kernel
theorem dL_law_689 : decode cL_law 689 = .ok (.fadd, 1) := by decide +kernel
theorem dL_law_690 : decode cL_law 690 = .ok (.fstore 8, 2) := by decide +kernel
theorem dL_law_692 : decode cL_law 692 = .ok (.iload 12, 2) := by decide +kernel
theorem dL_law_694 : decode cL_law 694 = .ok (.ifCond .ne 6, 3) := by decide +kernel
theorem dL_law_697 : decode cL_law 697 = .ok (.goto 59, 3) := by decide +kernel
theorem dL_law_700 : decode cL_law 700 = .ok (.aload_n 1, 1) := by decide +kernel
theorem dL_law_701 : decode cL_law 701 = .ok (.iload 12, 2) := by decide +kernel
theorem dL_law_703 : decode cL_law 703 = .ok (.iconst 1, 1) := by decide +kernel
theorem dL_law_704 : decode cL_law 704 = .ok (.isub, 1) := by decide +kernel
theorem dL_law_705 : decode cL_law 705 = .ok (.invokevirtual 84, 3) := by decide +kernel
theorem dL_law_708 : decode cL_law 708 = .ok (.istore 13, 2) := by decide +kernel
theorem dL_law_710 : decode cL_law 710 = .ok (.aload_n 1, 1) := by decide +kernel
theorem dL_law_711 : decode cL_law 711 = .ok (.iload 12, 2) := by decide +kernel
theorem dL_law_713 : decode cL_law 713 = .ok (.invokevirtual 84, 3) := by decide +kernel
theorem dL_law_716 : decode cL_law 716 = .ok (.istore 14, 2) := by decide +kernel
theorem dL_law_718 : decode cL_law 718 = .ok (.aload_n 1, 1) := by decide +kernel
theorem dL_law_719 : decode cL_law 719 = .ok (.iload 13, 2) := by decide +kernel
theorem dL_law_721 : decode cL_law 721 = .ok (.invokevirtual 279, 3) := by decide +kernel
theorem dL_law_724 : decode cL_law 724 = .ok (.aload_n 1, 1) := by decide +kernel
theorem dL_law_725 : decode cL_law 725 = .ok (.iload 14, 2) := by decide +kernel
theorem dL_law_727 : decode cL_law 727 = .ok (.invokevirtual 279, 3) := by decide +kernel
theorem dL_law_730 : decode cL_law 730 = .ok (.fsub, 1) := by decide +kernel
theorem dL_law_731 : decode cL_law 731 = .ok (.fstore 15, 2) := by decide +kernel
theorem dL_law_733 : decode cL_law 733 = .ok (.fload 15, 2) := by decide +kernel
theorem dL_law_735 : decode cL_law 735 = .ok (.fconst 0, 1) := by decide +kernel
theorem dL_law_736 : decode cL_law 736 = .ok (.fcmp .g, 1) := by decide +kernel
theorem dL_law_737 : decode cL_law 737 = .ok (.ifCond .lt 17, 3) := by decide +kernel
theorem dL_law_740 : decode cL_law 740 = .ok (.fload 15, 2) := by decide +kernel
theorem dL_law_742 : decode cL_law 742 = .ok (.fconst 0, 1) := by decide +kernel
theorem dL_law_743 : decode cL_law 743 = .ok (.fcmp .l, 1) := by decide +kernel
theorem dL_law_744 : decode cL_law 744 = .ok (.ifCond .ne 12, 3) := by decide +kernel
theorem dL_law_747 : decode cL_law 747 = .ok (.iload 13, 2) := by decide +kernel
theorem dL_law_749 : decode cL_law 749 = .ok (.iload 14, 2) := by decide +kernel
theorem dL_law_751 : decode cL_law 751 = .ok (.if_icmp .le 5, 3) := by decide +kernel
theorem dL_law_754 : decode cL_law 754 = .ok (.iconst 0, 1) := by decide +kernel
theorem dL_law_755 : decode cL_law 755 = .ok (.ireturn, 1) := by decide +kernel
theorem dL_law_756 : decode cL_law 756 = .ok (.iinc 12 1, 3) := by decide +kernel
theorem dL_law_759 : decode cL_law 759 = .ok (.goto (-85), 3) := by decide +kernel
theorem dL_law_762 : decode cL_law 762 = .ok (.ldc 242, 2) := by decide +kernel
theorem dL_law_764 : decode cL_law 764 = .ok (.astore 12, 2) := by decide +kernel
theorem dL_law_766 : decode cL_law 766 = .ok (.iconst 0, 1) := by decide +kernel
theorem dL_law_767 : decode cL_law 767 = .ok (.istore 13, 2) := by decide +kernel
theorem dL_law_769 : decode cL_law 769 = .ok (.iload 13, 2) := by decide +kernel
theorem dL_law_771 : decode cL_law 771 = .ok (.iload 5, 2) := by decide +kernel
theorem dL_law_773 : decode cL_law 773 = .ok (.if_icmp .ge 53, 3) := by decide +kernel
theorem dL_law_776 : decode cL_law 776 = .ok (.new 218, 3) := by decide +kernel
theorem dL_law_779 : decode cL_law 779 = .ok (.dup, 1) := by decide +kernel
theorem dL_law_780 : decode cL_law 780 = .ok (.invokespecial 220, 3) := by decide +kernel
theorem dL_law_783 : decode cL_law 783 = .ok (.aload 12, 2) := by decide +kernel
theorem dL_law_785 : decode cL_law 785 = .ok (.invokevirtual 223, 3) := by decide +kernel
theorem dL_law_788 : decode cL_law 788 = .ok (.iload 13, 2) := by decide +kernel
theorem dL_law_790 : decode cL_law 790 = .ok (.ifCond .le 8, 3) := by decide +kernel
theorem dL_law_793 : decode cL_law 793 = .ok (.ldc 230, 2) := by decide +kernel
theorem dL_law_795 : decode cL_law 795 = .ok (.goto 5, 3) := by decide +kernel
theorem dL_law_798 : decode cL_law 798 = .ok (.ldc 242, 2) := by decide +kernel
theorem dL_law_800 : decode cL_law 800 = .ok (.invokevirtual 223, 3) := by decide +kernel
theorem dL_law_803 : decode cL_law 803 = .ok (.aload_n 1, 1) := by decide +kernel
theorem dL_law_804 : decode cL_law 804 = .ok (.iload 13, 2) := by decide +kernel
theorem dL_law_806 : decode cL_law 806 = .ok (.invokevirtual 279, 3) := by decide +kernel
theorem dL_law_809 : decode cL_law 809 = .ok (.invokestatic 203, 3) := by decide +kernel
theorem dL_law_812 : decode cL_law 812 = .ok (.invokevirtual 227, 3) := by decide +kernel
theorem dL_law_815 : decode cL_law 815 = .ok (.invokevirtual 238, 3) := by decide +kernel
theorem dL_law_818 : decode cL_law 818 = .ok (.astore 12, 2) := by decide +kernel
theorem dL_law_820 : decode cL_law 820 = .ok (.iinc 13 1, 3) := by decide +kernel
theorem dL_law_823 : decode cL_law 823 = .ok (.goto (-54), 3) := by decide +kernel
theorem dL_law_826 : decode cL_law 826 = .ok (.iconst 1, 1) := by decide +kernel
theorem dL_law_827 : decode cL_law 827 = .ok (.istore 13, 2) := by decide +kernel
theorem dL_law_829 : decode cL_law 829 = .ok (.iload 13, 2) := by decide +kernel
theorem dL_law_831 : decode cL_law 831 = .ok (.iload 5, 2) := by decide +kernel
theorem dL_law_833 : decode cL_law 833 = .ok (.if_icmp .gt 100, 3) := by decide +kernel
theorem dL_law_836 : decode cL_law 836 = .ok (.fconst 0, 1) := by decide +kernel
theorem dL_law_837 : decode cL_law 837 = .ok (.fstore 14, 2) := by decide +kernel
theorem dL_law_839 : decode cL_law 839 = .ok (.iconst 0, 1) := by decide +kernel
theorem dL_law_840 : decode cL_law 840 = .ok (.istore 15, 2) := by decide +kernel
theorem dL_law_842 : decode cL_law 842 = .ok (.iload 15, 2) := by decide +kernel
theorem dL_law_844 : decode cL_law 844 = .ok (.iload 13, 2) := by decide +kernel
theorem dL_law_846 : decode cL_law 846 = .ok (.iadd, 1) := by decide +kernel
theorem dL_law_847 : decode cL_law 847 = .ok (.iload 5, 2) := by decide +kernel
theorem dL_law_849 : decode cL_law 849 = .ok (.if_icmp .gt 52, 3) := by decide +kernel
theorem dL_law_852 : decode cL_law 852 = .ok (.fconst 0, 1) := by decide +kernel
theorem dL_law_853 : decode cL_law 853 = .ok (.fstore 16, 2) := by decide +kernel
theorem dL_law_855 : decode cL_law 855 = .ok (.iload 15, 2) := by decide +kernel
theorem dL_law_857 : decode cL_law 857 = .ok (.istore 17, 2) := by decide +kernel
theorem dL_law_859 : decode cL_law 859 = .ok (.iload 17, 2) := by decide +kernel
theorem dL_law_861 : decode cL_law 861 = .ok (.iload 15, 2) := by decide +kernel
theorem dL_law_863 : decode cL_law 863 = .ok (.iload 13, 2) := by decide +kernel
theorem dL_law_865 : decode cL_law 865 = .ok (.iadd, 1) := by decide +kernel
theorem dL_law_866 : decode cL_law 866 = .ok (.if_icmp .ge 20, 3) := by decide +kernel
theorem dL_law_869 : decode cL_law 869 = .ok (.fload 16, 2) := by decide +kernel
theorem dL_law_871 : decode cL_law 871 = .ok (.aload_n 1, 1) := by decide +kernel
theorem dL_law_872 : decode cL_law 872 = .ok (.iload 17, 2) := by decide +kernel
theorem dL_law_874 : decode cL_law 874 = .ok (.invokevirtual 279, 3) := by decide +kernel
theorem dL_law_877 : decode cL_law 877 = .ok (.fadd, 1) := by decide +kernel
theorem dL_law_878 : decode cL_law 878 = .ok (.fstore 16, 2) := by decide +kernel
theorem dL_law_880 : decode cL_law 880 = .ok (.iinc 17 1, 3) := by decide +kernel
theorem dL_law_883 : decode cL_law 883 = .ok (.goto (-24), 3) := by decide +kernel
theorem dL_law_886 : decode cL_law 886 = .ok (.fload 14, 2) := by decide +kernel
theorem dL_law_888 : decode cL_law 888 = .ok (.fload 16, 2) := by decide +kernel
theorem dL_law_890 : decode cL_law 890 = .ok (.invokestatic 282, 3) := by decide +kernel
theorem dL_law_893 : decode cL_law 893 = .ok (.fstore 14, 2) := by decide +kernel
theorem dL_law_895 : decode cL_law 895 = .ok (.iinc 15 1, 3) := by decide +kernel
theorem dL_law_898 : decode cL_law 898 = .ok (.goto (-56), 3) := by decide +kernel
theorem dL_law_901 : decode cL_law 901 = .ok (.aload_n 1, 1) := by decide +kernel
theorem dL_law_902 : decode cL_law 902 = .ok (.iload 13, 2) := by decide +kernel
theorem dL_law_904 : decode cL_law 904 = .ok (.invokevirtual 90, 3) := by decide +kernel
theorem dL_law_907 : decode cL_law 907 = .ok (.fload 14, 2) := by decide +kernel
theorem dL_law_909 : decode cL_law 909 = .ok (.fcmp .l, 1) := by decide +kernel
theorem dL_law_910 : decode cL_law 910 = .ok (.ifCond .ne 15, 3) := by decide +kernel
theorem dL_law_913 : decode cL_law 913 = .ok (.aload_n 1, 1) := by decide +kernel
theorem dL_law_914 : decode cL_law 914 = .ok (.iload 13, 2) := by decide +kernel
theorem dL_law_916 : decode cL_law 916 = .ok (.invokevirtual 94, 3) := by decide +kernel
theorem dL_law_919 : decode cL_law 919 = .ok (.fload 14, 2) := by decide +kernel
theorem dL_law_921 : decode cL_law 921 = .ok (.fcmp .l, 1) := by decide +kernel
theorem dL_law_922 : decode cL_law 922 = .ok (.ifCond .eq 5, 3) := by decide +kernel
theorem dL_law_925 : decode cL_law 925 = .ok (.iconst 0, 1) := by decide +kernel
theorem dL_law_926 : decode cL_law 926 = .ok (.ireturn, 1) := by decide +kernel
theorem dL_law_927 : decode cL_law 927 = .ok (.iinc 13 1, 3) := by decide +kernel
theorem dL_law_930 : decode cL_law 930 = .ok (.goto (-101), 3) := by decide +kernel
theorem dL_law_933 : decode cL_law 933 = .ok (.iload 5, 2) := by decide +kernel
theorem dL_law_935 : decode cL_law 935 = .ok (.bipush 14, 2) := by decide +kernel
theorem dL_law_937 : decode cL_law 937 = .ok (.if_icmp .ge 17, 3) := by decide +kernel
theorem dL_law_940 : decode cL_law 940 = .ok (.aload_n 1, 1) := by decide +kernel
theorem dL_law_941 : decode cL_law 941 = .ok (.iload 5, 2) := by decide +kernel
theorem dL_law_943 : decode cL_law 943 = .ok (.iconst 1, 1) := by decide +kernel
theorem dL_law_944 : decode cL_law 944 = .ok (.iadd, 1) := by decide +kernel
theorem dL_law_945 : decode cL_law 945 = .ok (.invokestatic 286, 3) := by decide +kernel
theorem dL_law_948 : decode cL_law 948 = .ok (.ldc 93, 2) := by decide +kernel
theorem dL_law_950 : decode cL_law 950 = .ok (.fcmp .l, 1) := by decide +kernel
theorem dL_law_951 : decode cL_law 951 = .ok (.ifCond .ne 28, 3) := by decide +kernel
theorem dL_law_954 : decode cL_law 954 = .ok (.aload_n 1, 1) := by decide +kernel
theorem dL_law_955 : decode cL_law 955 = .ok (.bipush 15, 2) := by decide +kernel
theorem dL_law_957 : decode cL_law 957 = .ok (.invokestatic 288, 3) := by decide +kernel
theorem dL_law_960 : decode cL_law 960 = .ok (.ldc 30, 2) := by decide +kernel
theorem dL_law_962 : decode cL_law 962 = .ok (.fcmp .l, 1) := by decide +kernel
theorem dL_law_963 : decode cL_law 963 = .ok (.ifCond .ne 16, 3) := by decide +kernel
theorem dL_law_966 : decode cL_law 966 = .ok (.aload_n 1, 1) := by decide +kernel
theorem dL_law_967 : decode cL_law 967 = .ok (.aload_n 1, 1) := by decide +kernel
theorem dL_law_968 : decode cL_law 968 = .ok (.invokevirtual 290, 3) := by decide +kernel
theorem dL_law_971 : decode cL_law 971 = .ok (.aload 12, 2) := by decide +kernel
theorem dL_law_973 : decode cL_law 973 = .ok (.invokestatic 250, 3) := by decide +kernel
theorem dL_law_976 : decode cL_law 976 = .ok (.ifCond .ne 5, 3) := by decide +kernel
theorem dL_law_979 : decode cL_law 979 = .ok (.iconst 0, 1) := by decide +kernel
theorem dL_law_980 : decode cL_law 980 = .ok (.ireturn, 1) := by decide +kernel
theorem dL_law_981 : decode cL_law 981 = .ok (.aload_n 1, 1) := by decide +kernel
theorem dL_law_982 : decode cL_law 982 = .ok (.invokevirtual 293, 3) := by decide +kernel
theorem dL_law_985 : decode cL_law 985 = .ok (.iload 11, 2) := by decide +kernel
theorem dL_law_987 : decode cL_law 987 = .ok (.if_icmp .ne 166, 3) := by decide +kernel
theorem dL_law_990 : decode cL_law 990 = .ok (.aload_n 1, 1) := by decide +kernel
theorem dL_law_991 : decode cL_law 991 = .ok (.invokevirtual 276, 3) := by decide +kernel
theorem dL_law_994 : decode cL_law 994 = .ok (.ifCond .lt 159, 3) := by decide +kernel
theorem dL_law_997 : decode cL_law 997 = .ok (.aload_n 1, 1) := by decide +kernel
theorem dL_law_998 : decode cL_law 998 = .ok (.invokevirtual 276, 3) := by decide +kernel
theorem dL_law_1001 : decode cL_law 1001 = .ok (.bipush 20, 2) := by decide +kernel
theorem dL_law_1003 : decode cL_law 1003 = .ok (.if_icmp .gt 150, 3) := by decide +kernel
theorem dL_law_1006 : decode cL_law 1006 = .ok (.aload_n 1, 1) := by decide +kernel
theorem dL_law_1007 : decode cL_law 1007 = .ok (.invokevirtual 297, 3) := by decide +kernel
theorem dL_law_1010 : decode cL_law 1010 = .ok (.fload 7, 2) := by decide +kernel
theorem dL_law_1012 : decode cL_law 1012 = .ok (.aload_n 1, 1) := by decide +kernel
theorem dL_law_1013 : decode cL_law 1013 = .ok (.invokevirtual 300, 3) := by decide +kernel
theorem dL_law_1016 : decode cL_law 1016 = .ok (.fadd, 1) := by decide +kernel
theorem dL_law_1017 : decode cL_law 1017 = .ok (.aload_n 1, 1) := by decide +kernel
theorem dL_law_1018 : decode cL_law 1018 = .ok (.invokevirtual 303, 3) := by decide +kernel
theorem dL_law_1021 : decode cL_law 1021 = .ok (.fadd, 1) := by decide +kernel
theorem dL_law_1022 : decode cL_law 1022 = .ok (.fcmp .l, 1) := by decide +kernel
theorem dL_law_1023 : decode cL_law 1023 = .ok (.ifCond .ne 130, 3) := by decide +kernel
theorem dL_law_1026 : decode cL_law 1026 = .ok (.aload_n 1, 1) := by decide +kernel
theorem dL_law_1027 : decode cL_law 1027 = .ok (.invokevirtual 306, 3) := by decide +kernel
theorem dL_law_1030 : decode cL_law 1030 = .ok (.aload_n 1, 1) := by decide +kernel
theorem dL_law_1031 : decode cL_law 1031 = .ok (.invokevirtual 303, 3) := by decide +kernel
theorem dL_law_1034 : decode cL_law 1034 = .ok (.fcmp .l, 1) := by decide +kernel
theorem dL_law_1035 : decode cL_law 1035 = .ok (.ifCond .gt 118, 3) := by decide +kernel
theorem dL_law_1038 : decode cL_law 1038 = .ok (.aload_n 1, 1) := by decide +kernel
theorem dL_law_1039 : decode cL_law 1039 = .ok (.invokevirtual 306, 3) := by decide +kernel
theorem dL_law_1042 : decode cL_law 1042 = .ok (.fconst 0, 1) := by decide +kernel
theorem dL_law_1043 : decode cL_law 1043 = .ok (.fcmp .g, 1) := by decide +kernel
theorem dL_law_1044 : decode cL_law 1044 = .ok (.ifCond .lt 109, 3) := by decide +kernel
theorem dL_law_1047 : decode cL_law 1047 = .ok (.aload_n 1, 1) := by decide +kernel
theorem dL_law_1048 : decode cL_law 1048 = .ok (.invokevirtual 309, 3) := by decide +kernel
theorem dL_law_1051 : decode cL_law 1051 = .ok (.fload 8, 2) := by decide +kernel
theorem dL_law_1053 : decode cL_law 1053 = .ok (.fcmp .l, 1) := by decide +kernel
theorem dL_law_1054 : decode cL_law 1054 = .ok (.ifCond .ne 99, 3) := by decide +kernel
theorem dL_law_1057 : decode cL_law 1057 = .ok (.aload_n 1, 1) := by decide +kernel
theorem dL_law_1058 : decode cL_law 1058 = .ok (.invokevirtual 312, 3) := by decide +kernel
theorem dL_law_1061 : decode cL_law 1061 = .ok (.fload 8, 2) := by decide +kernel
theorem dL_law_1063 : decode cL_law 1063 = .ok (.fcmp .l, 1) := by decide +kernel
theorem dL_law_1064 : decode cL_law 1064 = .ok (.ifCond .ne 89, 3) := by decide +kernel
theorem dL_law_1067 : decode cL_law 1067 = .ok (.aload_n 1, 1) := by decide +kernel
theorem dL_law_1068 : decode cL_law 1068 = .ok (.invokevirtual 315, 3) := by decide +kernel
theorem dL_law_1071 : decode cL_law 1071 = .ok (.ifCond .eq 82, 3) := by decide +kernel
theorem dL_law_1074 : decode cL_law 1074 = .ok (.aload_n 1, 1) := by decide +kernel
theorem dL_law_1075 : decode cL_law 1075 = .ok (.invokevirtual 318, 3) := by decide +kernel
theorem dL_law_1078 : decode cL_law 1078 = .ok (.dload 9, 2) := by decide +kernel
theorem dL_law_1080 : decode cL_law 1080 = .ok (.iload_n 3, 1) := by decide +kernel
theorem dL_law_1081 : decode cL_law 1081 = .ok (.i2d, 1) := by decide +kernel
theorem dL_law_1082 : decode cL_law 1082 = .ok (.ddiv, 1) := by decide +kernel
theorem dL_law_1083 : decode cL_law 1083 = .ok (.dcmp .l, 1) := by decide +kernel
theorem dL_law_1084 : decode cL_law 1084 = .ok (.ifCond .ne 69, 3) := by decide +kernel
theorem dL_law_1087 : decode cL_law 1087 = .ok (.iload 6, 2) := by decide +kernel
theorem dL_law_1089 : decode cL_law 1089 = .ok (.ifCond .le 20, 3) := by decide +kernel
theorem dL_law_1092 : decode cL_law 1092 = .ok (.aload_n 1, 1) := by decide +kernel
theorem dL_law_1093 : decode cL_law 1093 = .ok (.invokevirtual 322, 3) := by decide +kernel
theorem dL_law_1096 : decode cL_law 1096 = .ok (.aload_n 1, 1) := by decide +kernel
theorem dL_law_1097 : decode cL_law 1097 = .ok (.invokevirtual 180, 3) := by decide +kernel
theorem dL_law_1100 : decode cL_law 1100 = .ok (.i2f, 1) := by decide +kernel
theorem dL_law_1101 : decode cL_law 1101 = .ok (.iload 6, 2) := by decide +kernel
theorem dL_law_1103 : decode cL_law 1103 = .ok (.i2f, 1) := by decide +kernel
theorem dL_law_1104 : decode cL_law 1104 = .ok (.fdiv, 1) := by decide +kernel
theorem dL_law_1105 : decode cL_law 1105 = .ok (.fcmp .l, 1) := by decide +kernel
theorem dL_law_1106 : decode cL_law 1106 = .ok (.ifCond .ne 47, 3) := by decide +kernel
theorem dL_law_1109 : decode cL_law 1109 = .ok (.aload_n 1, 1) := by decide +kernel
theorem dL_law_1110 : decode cL_law 1110 = .ok (.iload_n 3, 1) := by decide +kernel
theorem dL_law_1111 : decode cL_law 1111 = .ok (.invokestatic 325, 3) := by decide +kernel
theorem dL_law_1114 : decode cL_law 1114 = .ok (.sipush (-30000), 3) := by decide +kernel
theorem dL_law_1117 : decode cL_law 1117 = .ok (.if_icmp .ne 36, 3) := by decide +kernel
theorem dL_law_1120 : decode cL_law 1120 = .ok (.aload_n 1, 1) := by decide +kernel
theorem dL_law_1121 : decode cL_law 1121 = .ok (.iload 4, 2) := by decide +kernel
theorem dL_law_1123 : decode cL_law 1123 = .ok (.invokestatic 327, 3) := by decide +kernel
theorem dL_law_1126 : decode cL_law 1126 = .ok (.sipush (-30000), 3) := by decide +kernel
theorem dL_law_1129 : decode cL_law 1129 = .ok (.if_icmp .ne 24, 3) := by decide +kernel
theorem dL_law_1132 : decode cL_law 1132 = .ok (.aload_n 1, 1) := by decide +kernel
theorem dL_law_1133 : decode cL_law 1133 = .ok (.iload 5, 2) := by decide +kernel
theorem dL_law_1135 : decode cL_law 1135 = .ok (.invokestatic 329, 3) := by decide +kernel
theorem dL_law_1138 : decode cL_law 1138 = .ok (.sipush (-30000), 3) := by decide +kernel
theorem dL_law_1141 : decode cL_law 1141 = .ok (.if_icmp .ne 12, 3) := by decide +kernel
theorem dL_law_1144 : decode cL_law 1144 = .ok (.aload_n 1, 1) := by decide +kernel
theorem dL_law_1145 : decode cL_law 1145 = .ok (.invokevirtual 331, 3) := by decide +kernel
theorem dL_law_1148 : decode cL_law 1148 = .ok (.bipush 8, 2) := by decide +kernel
theorem dL_law_1150 : decode cL_law 1150 = .ok (.if_icmp .le 5, 3) := by decide +kernel
theorem dL_law_1153 : decode cL_law 1153 = .ok (.iconst 0, 1) := by decide +kernel
theorem dL_law_1154 : decode cL_law 1154 = .ok (.ireturn, 1) := by decide +kernel
theorem dL_law_1155 : decode cL_law 1155 = .ok (.aload_n 1, 1) := by decide +kernel
theorem dL_law_1156 : decode cL_law 1156 = .ok (.aload_n 0, 1) := by decide +kernel
theorem dL_law_1157 : decode cL_law 1157 = .ok (.bipush 96, 2) := by decide +kernel
theorem dL_law_1159 : decode cL_law 1159 = .ok (.iconst 4, 1) := by decide +kernel
theorem dL_law_1160 : decode cL_law 1160 = .ok (.iload_n 2, 1) := by decide +kernel
theorem dL_law_1161 : decode cL_law 1161 = .ok (.imul, 1) := by decide +kernel
theorem dL_law_1162 : decode cL_law 1162 = .ok (.iadd, 1) := by decide +kernel
theorem dL_law_1163 : decode cL_law 1163 = .ok (.invokestatic 110, 3) := by decide +kernel
theorem dL_law_1166 : decode cL_law 1166 = .ok (.iinc 2 1, 3) := by decide +kernel
theorem dL_law_1169 : decode cL_law 1169 = .ok (.goto (-1154), 3) := by decide +kernel
theorem dL_law_1172 : decode cL_law 1172 = .ok (.iconst 1, 1) := by decide +kernel
theorem dL_law_1173 : decode cL_law 1173 = .ok (.ireturn, 1) := by decide +kernel
