theorem dL_acts_0 : decode cL_acts 0 = .ok (.iload 4, 2) := by decide +kernel
theorem dL_acts_2 : decode cL_acts 2 = .ok (.bipush 20, 2) := by decide +kernel
theorem dL_acts_4 : decode cL_acts 4 = .ok (.invokestatic 192, 3) := by decide +kernel
theorem dL_acts_7 : decode cL_acts 7 = .ok (.istore 6, 2) := by decide +kernel
theorem dL_acts_9 : decode cL_acts 9 = .ok (.iload 4, 2) := by decide +kernel
theorem dL_acts_11 : decode cL_acts 11 = .ok (.iconst 5, 1) := by decide +kernel
theorem dL_acts_12 : decode cL_acts 12 = .ok (.ishr, 1) := by decide +kernel
theorem dL_acts_13 : decode cL_acts 13 = .ok (.bipush 6, 2) := by decide +kernel
theorem dL_acts_15 : decode cL_acts 15 = .ok (.invokestatic 192, 3) := by decide +kernel
theorem dL_acts_18 : decode cL_acts 18 = .ok (.istore 7, 2) := by decide +kernel
theorem dL_acts_20 : decode cL_acts 20 = .ok (.iload 7, 2) := by decide +kernel
theorem dL_acts_22 : decode cL_acts 22 = .ok (.aload_n 0, 1) := by decide +kernel
theorem dL_acts_23 : decode cL_acts 23 = .ok (.invokevirtual 133, 3) := by decide +kernel
theorem dL_acts_26 : decode cL_acts 26 = .ok (.if_icmp .ge 7, 3) := by decide +kernel
theorem dL_acts_29 : decode cL_acts 29 = .ok (.iconst 1, 1) := by decide +kernel
theorem dL_acts_30 : decode cL_acts 30 = .ok (.goto 4, 3) := by decide +kernel
theorem dL_acts_33 : decode cL_acts 33 = .ok (.iconst 0, 1) := by decide +kernel
theorem dL_acts_34 : decode cL_acts 34 = .ok (.istore 8, 2) := by decide +kernel
theorem dL_acts_36 : decode cL_acts 36 = .ok (.iload 8, 2) := by decide +kernel
theorem dL_acts_38 : decode cL_acts 38 = .ok (.ifCond .eq 12, 3) := by decide +kernel
theorem dL_acts_41 : decode cL_acts 41 = .ok (.aload_n 0, 1) := by decide +kernel
theorem dL_acts_42 : decode cL_acts 42 = .ok (.iload 7, 2) := by decide +kernel
theorem dL_acts_44 : decode cL_acts 44 = .ok (.invokestatic 136, 3) := by decide +kernel
theorem dL_acts_47 : decode cL_acts 47 = .ok (.goto 4, 3) := by decide +kernel
theorem dL_acts_50 : decode cL_acts 50 = .ok (.iconst (-1), 1) := by decide +kernel
theorem dL_acts_51 : decode cL_acts 51 = .ok (.istore 9, 2) := by decide +kernel
theorem dL_acts_53 : decode cL_acts 53 = .ok (.iload 8, 2) := by decide +kernel
theorem dL_acts_55 : decode cL_acts 55 = .ok (.ifCond .eq 12, 3) := by decide +kernel
theorem dL_acts_58 : decode cL_acts 58 = .ok (.aload_n 0, 1) := by decide +kernel
theorem dL_acts_59 : decode cL_acts 59 = .ok (.iload 7, 2) := by decide +kernel
theorem dL_acts_61 : decode cL_acts 61 = .ok (.invokestatic 148, 3) := by decide +kernel
theorem dL_acts_64 : decode cL_acts 64 = .ok (.goto 4, 3) := by decide +kernel
theorem dL_acts_67 : decode cL_acts 67 = .ok (.iconst 0, 1) := by decide +kernel
theorem dL_acts_68 : decode cL_acts 68 = .ok (.istore 10, 2) := by decide +kernel
theorem dL_acts_70 : decode cL_acts 70 = .ok (.iload 5, 2) := by decide +kernel
theorem dL_acts_72 : decode cL_acts 72 = .ok (.bipush 8, 2) := by decide +kernel
theorem dL_acts_74 : decode cL_acts 74 = .ok (.invokestatic 192, 3) := by decide +kernel
theorem dL_acts_77 : decode cL_acts 77 = .ok (.istore 11, 2) := by decide +kernel
theorem dL_acts_79 : decode cL_acts 79 = .ok (.iload 5, 2) := by decide +kernel
theorem dL_acts_81 : decode cL_acts 81 = .ok (.iconst 3, 1) := by decide +kernel
theorem dL_acts_82 : decode cL_acts 82 = .ok (.ishr, 1) := by decide +kernel
theorem dL_acts_83 : decode cL_acts 83 = .ok (.iload 10, 2) := by decide +kernel
theorem dL_acts_85 : decode cL_acts 85 = .ok (.iconst 1, 1) := by decide +kernel
theorem dL_acts_86 : decode cL_acts 86 = .ok (.iadd, 1) := by decide +kernel
theorem dL_acts_87 : decode cL_acts 87 = .ok (.invokestatic 192, 3) := by decide +kernel
theorem dL_acts_90 : decode cL_acts 90 = .ok (.istore 12, 2) := by decide +kernel
theorem dL_acts_92 : decode cL_acts 92 = .ok (.iload 6, 2) := by decide +kernel
theorem dL_acts_94 : decode cL_acts 94 = .ok (.iconst 2, 1) := by decide +kernel
theorem dL_acts_95 : decode cL_acts 95 = .ok (.if_icmp .ge 47, 3) := by decide +kernel
theorem dL_acts_98 : decode cL_acts 98 = .ok (.aload_n 0, 1) := by decide +kernel
theorem dL_acts_99 : decode cL_acts 99 = .ok (.invokevirtual 133, 3) := by decide +kernel
theorem dL_acts_102 : decode cL_acts 102 = .ok (.bipush 6, 2) := by decide +kernel
theorem dL_acts_104 : decode cL_acts 104 = .ok (.if_icmp .ge 10, 3) := by decide +kernel
theorem dL_acts_107 : decode cL_acts 107 = .ok (.aload_n 0, 1) := by decide +kernel
theorem dL_acts_108 : decode cL_acts 108 = .ok (.invokevirtual 133, 3) := by decide +kernel
theorem dL_acts_111 : decode cL_acts 111 = .ok (.goto 5, 3) := by decide +kernel
theorem dL_acts_114 : decode cL_acts 114 = .ok (.ldc 18, 2) := by decide +kernel
theorem dL_acts_116 : decode cL_acts 116 = .ok (.istore 13, 2) := by decide +kernel
theorem dL_acts_118 : decode cL_acts 118 = .ok (.aload_n 0, 1) := by decide +kernel
theorem dL_acts_119 : decode cL_acts 119 = .ok (.invokestatic 195, 3) := by decide +kernel
theorem dL_acts_122 : decode cL_acts 122 = .ok (.iload 13, 2) := by decide +kernel
theorem dL_acts_124 : decode cL_acts 124 = .ok (.if_icmp .ne 16, 3) := by decide +kernel
theorem dL_acts_127 : decode cL_acts 127 = .ok (.aload_n 1, 1) := by decide +kernel
theorem dL_acts_128 : decode cL_acts 128 = .ok (.invokestatic 195, 3) := by decide +kernel
theorem dL_acts_131 : decode cL_acts 131 = .ok (.iload 13, 2) := by decide +kernel
theorem dL_acts_133 : decode cL_acts 133 = .ok (.if_icmp .ne 7, 3) := by decide +kernel
theorem dL_acts_136 : decode cL_acts 136 = .ok (.iconst 1, 1) := by decide +kernel
theorem dL_acts_137 : decode cL_acts 137 = .ok (.goto 4, 3) := by decide +kernel
theorem dL_acts_140 : decode cL_acts 140 = .ok (.iconst 0, 1) := by decide +kernel
theorem dL_acts_141 : decode cL_acts 141 = .ok (.ireturn, 1) := by decide +kernel
theorem dL_acts_142 : decode cL_acts 142 = .ok (.iload 6, 2) := by decide +kernel
theorem dL_acts_144 : decode cL_acts 144 = .ok (.bipush 7, 2) := by decide +kernel
theorem dL_acts_146 : decode cL_acts 146 = .ok (.if_icmp .ge 172, 3) := by decide +kernel
theorem dL_acts_149 : decode cL_acts 149 = .ok (.iload 5, 2) := by decide +kernel
theorem dL_acts_151 : decode cL_acts 151 = .ok (.iconst 5, 1) := by decide +kernel
theorem dL_acts_152 : decode cL_acts 152 = .ok (.ishr, 1) := by decide +kernel
theorem dL_acts_153 : decode cL_acts 153 = .ok (.iconst 3, 1) := by decide +kernel
theorem dL_acts_154 : decode cL_acts 154 = .ok (.invokestatic 192, 3) := by decide +kernel
theorem dL_acts_157 : decode cL_acts 157 = .ok (.ifCond .ne 7, 3) := by decide +kernel
theorem dL_acts_160 : decode cL_acts 160 = .ok (.iconst 0, 1) := by decide +kernel
theorem dL_acts_161 : decode cL_acts 161 = .ok (.goto 21, 3) := by decide +kernel
theorem dL_acts_164 : decode cL_acts 164 = .ok (.iload 5, 2) := by decide +kernel
theorem dL_acts_166 : decode cL_acts 166 = .ok (.bipush 7, 2) := by decide +kernel
theorem dL_acts_168 : decode cL_acts 168 = .ok (.ishr, 1) := by decide +kernel
theorem dL_acts_169 : decode cL_acts 169 = .ok (.sipush 256, 3) := by decide +kernel
theorem dL_acts_172 : decode cL_acts 172 = .ok (.invokestatic 192, 3) := by decide +kernel
theorem dL_acts_175 : decode cL_acts 175 = .ok (.iconst 1, 1) := by decide +kernel
theorem dL_acts_176 : decode cL_acts 176 = .ok (.iload 10, 2) := by decide +kernel
theorem dL_acts_178 : decode cL_acts 178 = .ok (.ishl, 1) := by decide +kernel
theorem dL_acts_179 : decode cL_acts 179 = .ok (.iconst 1, 1) := by decide +kernel
theorem dL_acts_180 : decode cL_acts 180 = .ok (.isub, 1) := by decide +kernel
theorem dL_acts_181 : decode cL_acts 181 = .ok (.iand, 1) := by decide +kernel
theorem dL_acts_182 : decode cL_acts 182 = .ok (.istore 13, 2) := by decide +kernel
theorem dL_acts_184 : decode cL_acts 184 = .ok (.iload 8, 2) := by decide +kernel
theorem dL_acts_186 : decode cL_acts 186 = .ok (.ifCond .ne 8, 3) := by decide +kernel
theorem dL_acts_189 : decode cL_acts 189 = .ok (.ldc 25, 2) := by decide +kernel
theorem dL_acts_191 : decode cL_acts 191 = .ok (.goto 22, 3) := by decide +kernel
theorem dL_acts_194 : decode cL_acts 194 = .ok (.iload 9, 2) := by decide +kernel
theorem dL_acts_196 : decode cL_acts 196 = .ok (.ifCond .ne 10, 3) := by decide +kernel
theorem dL_acts_199 : decode cL_acts 199 = .ok (.iload 10, 2) := by decide +kernel
theorem dL_acts_201 : decode cL_acts 201 = .ok (.bipush 8, 2) := by decide +kernel
theorem dL_acts_203 : decode cL_acts 203 = .ok (.if_icmp .ne 8, 3) := by decide +kernel
theorem dL_acts_206 : decode cL_acts 206 = .ok (.ldc 18, 2) := by decide +kernel
theorem dL_acts_208 : decode cL_acts 208 = .ok (.goto 5, 3) := by decide +kernel
theorem dL_acts_211 : decode cL_acts 211 = .ok (.iload 10, 2) := by decide +kernel
theorem dL_acts_213 : decode cL_acts 213 = .ok (.istore 14, 2) := by decide +kernel
theorem dL_acts_215 : decode cL_acts 215 = .ok (.iload 14, 2) := by decide +kernel
theorem dL_acts_217 : decode cL_acts 217 = .ok (.ifCond .lt 27, 3) := by decide +kernel
theorem dL_acts_220 : decode cL_acts 220 = .ok (.aload_n 2, 1) := by decide +kernel
theorem dL_acts_221 : decode cL_acts 221 = .ok (.bipush 8, 2) := by decide +kernel
theorem dL_acts_223 : decode cL_acts 223 = .ok (.iload 7, 2) := by decide +kernel
theorem dL_acts_225 : decode cL_acts 225 = .ok (.imul, 1) := by decide +kernel
theorem dL_acts_226 : decode cL_acts 226 = .ok (.iload 10, 2) := by decide +kernel
theorem dL_acts_228 : decode cL_acts 228 = .ok (.iadd, 1) := by decide +kernel
theorem dL_acts_229 : decode cL_acts 229 = .ok (.iload 13, 2) := by decide +kernel
theorem dL_acts_231 : decode cL_acts 231 = .ok (.iastore, 1) := by decide +kernel
theorem dL_acts_232 : decode cL_acts 232 = .ok (.aload_n 3, 1) := by decide +kernel
theorem dL_acts_233 : decode cL_acts 233 = .ok (.bipush 8, 2) := by decide +kernel
theorem dL_acts_235 : decode cL_acts 235 = .ok (.iload 7, 2) := by decide +kernel
theorem dL_acts_237 : decode cL_acts 237 = .ok (.imul, 1) := by decide +kernel
theorem dL_acts_238 : decode cL_acts 238 = .ok (.iload 10, 2) := by decide +kernel
theorem dL_acts_240 : decode cL_acts 240 = .ok (.iadd, 1) := by decide +kernel
theorem dL_acts_241 : decode cL_acts 241 = .ok (.iload 11, 2) := by decide +kernel
theorem dL_acts_243 : decode cL_acts 243 = .ok (.iastore, 1) := by decide +kernel
theorem dL_acts_244 : decode cL_acts 244 = .ok (.aload_n 0, 1) := by decide +kernel
theorem dL_acts_245 : decode cL_acts 245 = .ok (.iload 7, 2) := by decide +kernel
theorem dL_acts_247 : decode cL_acts 247 = .ok (.iload 11, 2) := by decide +kernel
theorem dL_acts_249 : decode cL_acts 249 = .ok (.iload 13, 2) := by decide +kernel
theorem dL_acts_251 : decode cL_acts 251 = .ok (.invokestatic 198, 3) := by decide +kernel
theorem dL_acts_254 : decode cL_acts 254 = .ok (.iload 14, 2) := by decide +kernel
theorem dL_acts_256 : decode cL_acts 256 = .ok (.if_icmp .ne 60, 3) := by decide +kernel
theorem dL_acts_259 : decode cL_acts 259 = .ok (.aload_n 1, 1) := by decide +kernel
theorem dL_acts_260 : decode cL_acts 260 = .ok (.iload 7, 2) := by decide +kernel
theorem dL_acts_262 : decode cL_acts 262 = .ok (.iload 11, 2) := by decide +kernel
theorem dL_acts_264 : decode cL_acts 264 = .ok (.iload 13, 2) := by decide +kernel
theorem dL_acts_266 : decode cL_acts 266 = .ok (.invokestatic 198, 3) := by decide +kernel
theorem dL_acts_269 : decode cL_acts 269 = .ok (.iload 14, 2) := by decide +kernel
theorem dL_acts_271 : decode cL_acts 271 = .ok (.if_icmp .ne 45, 3) := by decide +kernel
theorem dL_acts_274 : decode cL_acts 274 = .ok (.aload_n 0, 1) := by decide +kernel
theorem dL_acts_275 : decode cL_acts 275 = .ok (.iload 7, 2) := by decide +kernel
theorem dL_acts_277 : decode cL_acts 277 = .ok (.bipush 8, 2) := by decide +kernel
theorem dL_acts_279 : decode cL_acts 279 = .ok (.iconst (-1), 1) := by decide +kernel
theorem dL_acts_280 : decode cL_acts 280 = .ok (.invokestatic 198, 3) := by decide +kernel
theorem dL_acts_283 : decode cL_acts 283 = .ok (.ldc 25, 2) := by decide +kernel
theorem dL_acts_285 : decode cL_acts 285 = .ok (.if_icmp .ne 31, 3) := by decide +kernel
theorem dL_acts_288 : decode cL_acts 288 = .ok (.aload_n 0, 1) := by decide +kernel
theorem dL_acts_289 : decode cL_acts 289 = .ok (.iconst 0, 1) := by decide +kernel
theorem dL_acts_290 : decode cL_acts 290 = .ok (.iconst 0, 1) := by decide +kernel
theorem dL_acts_291 : decode cL_acts 291 = .ok (.iconst (-1), 1) := by decide +kernel
theorem dL_acts_292 : decode cL_acts 292 = .ok (.invokestatic 198, 3) := by decide +kernel
theorem dL_acts_295 : decode cL_acts 295 = .ok (.aload_n 0, 1) := by decide +kernel
theorem dL_acts_296 : decode cL_acts 296 = .ok (.invokevirtual 133, 3) := by decide +kernel
theorem dL_acts_299 : decode cL_acts 299 = .ok (.ifCond .le 8, 3) := by decide +kernel
theorem dL_acts_302 : decode cL_acts 302 = .ok (.ldc 28, 2) := by decide +kernel
theorem dL_acts_304 : decode cL_acts 304 = .ok (.goto 5, 3) := by decide +kernel
theorem dL_acts_307 : decode cL_acts 307 = .ok (.ldc 25, 2) := by decide +kernel
theorem dL_acts_309 : decode cL_acts 309 = .ok (.if_icmp .ne 7, 3) := by decide +kernel
theorem dL_acts_312 : decode cL_acts 312 = .ok (.iconst 1, 1) := by decide +kernel
theorem dL_acts_313 : decode cL_acts 313 = .ok (.goto 4, 3) := by decide +kernel
theorem dL_acts_316 : decode cL_acts 316 = .ok (.iconst 0, 1) := by decide +kernel
theorem dL_acts_317 : decode cL_acts 317 = .ok (.ireturn, 1) := by decide +kernel
theorem dL_acts_318 : decode cL_acts 318 = .ok (.iload 6, 2) := by decide +kernel
theorem dL_acts_320 : decode cL_acts 320 = .ok (.bipush 7, 2) := by decide +kernel
theorem dL_acts_322 : decode cL_acts 322 = .ok (.if_icmp .ne 196, 3) := by decide +kernel
theorem dL_acts_325 : decode cL_acts 325 = .ok (.iconst 1, 1) := by decide +kernel
theorem dL_acts_326 : decode cL_acts 326 = .ok (.iload 11, 2) := by decide +kernel
theorem dL_acts_328 : decode cL_acts 328 = .ok (.ishl, 1) := by decide +kernel
theorem dL_acts_329 : decode cL_acts 329 = .ok (.iload 5, 2) := by decide +kernel
theorem dL_acts_331 : decode cL_acts 331 = .ok (.iconst 4, 1) := by decide +kernel
theorem dL_acts_332 : decode cL_acts 332 = .ok (.ishr, 1) := by decide +kernel
theorem dL_acts_333 : decode cL_acts 333 = .ok (.sipush 256, 3) := by decide +kernel
theorem dL_acts_336 : decode cL_acts 336 = .ok (.invokestatic 192, 3) := by decide +kernel
theorem dL_acts_339 : decode cL_acts 339 = .ok (.iload 5, 2) := by decide +kernel
theorem dL_acts_341 : decode cL_acts 341 = .ok (.bipush 12, 2) := by decide +kernel
theorem dL_acts_343 : decode cL_acts 343 = .ok (.ishr, 1) := by decide +kernel
theorem dL_acts_344 : decode cL_acts 344 = .ok (.sipush 256, 3) := by decide +kernel
theorem dL_acts_347 : decode cL_acts 347 = .ok (.invokestatic 192, 3) := by decide +kernel
theorem dL_acts_350 : decode cL_acts 350 = .ok (.iand, 1) := by decide +kernel
theorem dL_acts_351 : decode cL_acts 351 = .ok (.ior, 1) := by decide +kernel
theorem dL_acts_352 : decode cL_acts 352 = .ok (.istore 13, 2) := by decide +kernel
theorem dL_acts_354 : decode cL_acts 354 = .ok (.iload 8, 2) := by decide +kernel
theorem dL_acts_356 : decode cL_acts 356 = .ok (.ifCond .ne 8, 3) := by decide +kernel
theorem dL_acts_359 : decode cL_acts 359 = .ok (.ldc 25, 2) := by decide +kernel
theorem dL_acts_361 : decode cL_acts 361 = .ok (.goto 34, 3) := by decide +kernel
theorem dL_acts_364 : decode cL_acts 364 = .ok (.iload 9, 2) := by decide +kernel
theorem dL_acts_366 : decode cL_acts 366 = .ok (.ifCond .ne 16, 3) := by decide +kernel
theorem dL_acts_369 : decode cL_acts 369 = .ok (.iload 10, 2) := by decide +kernel
theorem dL_acts_371 : decode cL_acts 371 = .ok (.iload 13, 2) := by decide +kernel
theorem dL_acts_373 : decode cL_acts 373 = .ok (.invokestatic 160, 3) := by decide +kernel
theorem dL_acts_376 : decode cL_acts 376 = .ok (.iadd, 1) := by decide +kernel
theorem dL_acts_377 : decode cL_acts 377 = .ok (.bipush 8, 2) := by decide +kernel
theorem dL_acts_379 : decode cL_acts 379 = .ok (.if_icmp .le 8, 3) := by decide +kernel
theorem dL_acts_382 : decode cL_acts 382 = .ok (.ldc 18, 2) := by decide +kernel
theorem dL_acts_384 : decode cL_acts 384 = .ok (.goto 11, 3) := by decide +kernel
theorem dL_acts_387 : decode cL_acts 387 = .ok (.iload 10, 2) := by decide +kernel
theorem dL_acts_389 : decode cL_acts 389 = .ok (.iload 13, 2) := by decide +kernel
theorem dL_acts_391 : decode cL_acts 391 = .ok (.invokestatic 160, 3) := by decide +kernel
theorem dL_acts_394 : decode cL_acts 394 = .ok (.iadd, 1) := by decide +kernel
theorem dL_acts_395 : decode cL_acts 395 = .ok (.istore 14, 2) := by decide +kernel
theorem dL_acts_397 : decode cL_acts 397 = .ok (.iload 10, 2) := by decide +kernel
theorem dL_acts_399 : decode cL_acts 399 = .ok (.istore 15, 2) := by decide +kernel
theorem dL_acts_401 : decode cL_acts 401 = .ok (.iconst 0, 1) := by decide +kernel
theorem dL_acts_402 : decode cL_acts 402 = .ok (.istore 16, 2) := by decide +kernel
theorem dL_acts_404 : decode cL_acts 404 = .ok (.iload 16, 2) := by decide +kernel
theorem dL_acts_406 : decode cL_acts 406 = .ok (.bipush 8, 2) := by decide +kernel
theorem dL_acts_408 : decode cL_acts 408 = .ok (.if_icmp .ge 56, 3) := by decide +kernel
theorem dL_acts_411 : decode cL_acts 411 = .ok (.iload 14, 2) := by decide +kernel
theorem dL_acts_413 : decode cL_acts 413 = .ok (.ifCond .le 51, 3) := by decide +kernel
theorem dL_acts_416 : decode cL_acts 416 = .ok (.iload 13, 2) := by decide +kernel
theorem dL_acts_418 : decode cL_acts 418 = .ok (.iload 16, 2) := by decide +kernel
theorem dL_acts_420 : decode cL_acts 420 = .ok (.ishr, 1) := by decide +kernel
theorem dL_acts_421 : decode cL_acts 421 = .ok (.iconst 1, 1) := by decide +kernel
theorem dL_acts_422 : decode cL_acts 422 = .ok (.iand, 1) := by decide +kernel
theorem dL_acts_423 : decode cL_acts 423 = .ok (.iconst 1, 1) := by decide +kernel
theorem dL_acts_424 : decode cL_acts 424 = .ok (.if_icmp .ne 34, 3) := by decide +kernel
theorem dL_acts_427 : decode cL_acts 427 = .ok (.aload_n 2, 1) := by decide +kernel
theorem dL_acts_428 : decode cL_acts 428 = .ok (.bipush 8, 2) := by decide +kernel
theorem dL_acts_430 : decode cL_acts 430 = .ok (.iload 7, 2) := by decide +kernel
theorem dL_acts_432 : decode cL_acts 432 = .ok (.imul, 1) := by decide +kernel
theorem dL_acts_433 : decode cL_acts 433 = .ok (.iload 15, 2) := by decide +kernel
theorem dL_acts_435 : decode cL_acts 435 = .ok (.iadd, 1) := by decide +kernel
theorem dL_acts_436 : decode cL_acts 436 = .ok (.iconst 1, 1) := by decide +kernel
theorem dL_acts_437 : decode cL_acts 437 = .ok (.iload 10, 2) := by decide +kernel
theorem dL_acts_439 : decode cL_acts 439 = .ok (.ishl, 1) := by decide +kernel
theorem dL_acts_440 : decode cL_acts 440 = .ok (.iconst 1, 1) := by decide +kernel
theorem dL_acts_441 : decode cL_acts 441 = .ok (.isub, 1) := by decide +kernel
theorem dL_acts_442 : decode cL_acts 442 = .ok (.iastore, 1) := by decide +kernel
theorem dL_acts_443 : decode cL_acts 443 = .ok (.aload_n 3, 1) := by decide +kernel
theorem dL_acts_444 : decode cL_acts 444 = .ok (.bipush 8, 2) := by decide +kernel
theorem dL_acts_446 : decode cL_acts 446 = .ok (.iload 7, 2) := by decide +kernel
theorem dL_acts_448 : decode cL_acts 448 = .ok (.imul, 1) := by decide +kernel
theorem dL_acts_449 : decode cL_acts 449 = .ok (.iload 15, 2) := by decide +kernel
theorem dL_acts_451 : decode cL_acts 451 = .ok (.iadd, 1) := by decide +kernel
theorem dL_acts_452 : decode cL_acts 452 = .ok (.iload 16, 2) := by decide +kernel
theorem dL_acts_454 : decode cL_acts 454 = .ok (.iastore, 1) := by decide +kernel
theorem dL_acts_455 : decode cL_acts 455 = .ok (.iinc 15 1, 3) := by decide +kernel
theorem dL_acts_458 : decode cL_acts 458 = .ok (.iinc 16 1, 3) := by decide +kernel
theorem dL_acts_461 : decode cL_acts 461 = .ok (.goto (-57), 3) := by decide +kernel
theorem dL_acts_464 : decode cL_acts 464 = .ok (.aload_n 0, 1) := by decide +kernel
theorem dL_acts_465 : decode cL_acts 465 = .ok (.iload 7, 2) := by decide +kernel
theorem dL_acts_467 : decode cL_acts 467 = .ok (.iload 13, 2) := by decide +kernel
theorem dL_acts_469 : decode cL_acts 469 = .ok (.invokestatic 200, 3) := by decide +kernel
theorem dL_acts_472 : decode cL_acts 472 = .ok (.iload 14, 2) := by decide +kernel
theorem dL_acts_474 : decode cL_acts 474 = .ok (.if_icmp .ne 42, 3) := by decide +kernel
theorem dL_acts_477 : decode cL_acts 477 = .ok (.aload_n 1, 1) := by decide +kernel
theorem dL_acts_478 : decode cL_acts 478 = .ok (.iload 7, 2) := by decide +kernel
theorem dL_acts_480 : decode cL_acts 480 = .ok (.iload 13, 2) := by decide +kernel
theorem dL_acts_482 : decode cL_acts 482 = .ok (.invokestatic 200, 3) := by decide +kernel
theorem dL_acts_485 : decode cL_acts 485 = .ok (.iload 14, 2) := by decide +kernel
theorem dL_acts_487 : decode cL_acts 487 = .ok (.if_icmp .ne 29, 3) := by decide +kernel
theorem dL_acts_490 : decode cL_acts 490 = .ok (.aload_n 0, 1) := by decide +kernel
theorem dL_acts_491 : decode cL_acts 491 = .ok (.iload 7, 2) := by decide +kernel
theorem dL_acts_493 : decode cL_acts 493 = .ok (.iconst 0, 1) := by decide +kernel
theorem dL_acts_494 : decode cL_acts 494 = .ok (.invokestatic 200, 3) := by decide +kernel
theorem dL_acts_497 : decode cL_acts 497 = .ok (.iload 8, 2) := by decide +kernel
theorem dL_acts_499 : decode cL_acts 499 = .ok (.ifCond .eq 8, 3) := by decide +kernel
theorem dL_acts_502 : decode cL_acts 502 = .ok (.ldc 28, 2) := by decide +kernel
theorem dL_acts_504 : decode cL_acts 504 = .ok (.goto 5, 3) := by decide +kernel
theorem dL_acts_507 : decode cL_acts 507 = .ok (.ldc 25, 2) := by decide +kernel
theorem dL_acts_509 : decode cL_acts 509 = .ok (.if_icmp .ne 7, 3) := by decide +kernel
theorem dL_acts_512 : decode cL_acts 512 = .ok (.iconst 1, 1) := by decide +kernel
theorem dL_acts_513 : decode cL_acts 513 = .ok (.goto 4, 3) := by decide +kernel
theorem dL_acts_516 : decode cL_acts 516 = .ok (.iconst 0, 1) := by decide +kernel
theorem dL_acts_517 : decode cL_acts 517 = .ok (.ireturn, 1) := by decide +kernel
theorem dL_acts_518 : decode cL_acts 518 = .ok (.iload 6, 2) := by decide +kernel
theorem dL_acts_520 : decode cL_acts 520 = .ok (.bipush 8, 2) := by decide +kernel
theorem dL_acts_522 : decode cL_acts 522 = .ok (.if_icmp .ne 122, 3) := by decide +kernel
theorem dL_acts_525 : decode cL_acts 525 = .ok (.iload 8, 2) := by decide +kernel
theorem dL_acts_527 : decode cL_acts 527 = .ok (.ifCond .ne 8, 3) := by decide +kernel
theorem dL_acts_530 : decode cL_acts 530 = .ok (.ldc 25, 2) := by decide +kernel
theorem dL_acts_532 : decode cL_acts 532 = .ok (.goto 14, 3) := by decide +kernel
theorem dL_acts_535 : decode cL_acts 535 = .ok (.iload 9, 2) := by decide +kernel
theorem dL_acts_537 : decode cL_acts 537 = .ok (.ifCond .eq 8, 3) := by decide +kernel
theorem dL_acts_540 : decode cL_acts 540 = .ok (.ldc 18, 2) := by decide +kernel
theorem dL_acts_542 : decode cL_acts 542 = .ok (.goto 4, 3) := by decide +kernel
theorem dL_acts_545 : decode cL_acts 545 = .ok (.iconst 0, 1) := by decide +kernel
theorem dL_acts_546 : decode cL_acts 546 = .ok (.istore 13, 2) := by decide +kernel
theorem dL_acts_548 : decode cL_acts 548 = .ok (.iload 5, 2) := by decide +kernel
theorem dL_acts_550 : decode cL_acts 550 = .ok (.bipush 7, 2) := by decide +kernel
theorem dL_acts_552 : decode cL_acts 552 = .ok (.invokestatic 192, 3) := by decide +kernel
theorem dL_acts_555 : decode cL_acts 555 = .ok (.istore 14, 2) := by decide +kernel
theorem dL_acts_557 : decode cL_acts 557 = .ok (.iload 5, 2) := by decide +kernel
theorem dL_acts_559 : decode cL_acts 559 = .ok (.iconst 4, 1) := by decide +kernel
theorem dL_acts_560 : decode cL_acts 560 = .ok (.ishr, 1) := by decide +kernel
theorem dL_acts_561 : decode cL_acts 561 = .ok (.iconst 3, 1) := by decide +kernel
theorem dL_acts_562 : decode cL_acts 562 = .ok (.invokestatic 192, 3) := by decide +kernel
theorem dL_acts_565 : decode cL_acts 565 = .ok (.ifCond .ne 7, 3) := by decide +kernel
theorem dL_acts_568 : decode cL_acts 568 = .ok (.iconst 0, 1) := by decide +kernel
theorem dL_acts_569 : decode cL_acts 569 = .ok (.goto 13, 3) := by decide +kernel
theorem dL_acts_572 : decode cL_acts 572 = .ok (.iload 5, 2) := by decide +kernel
theorem dL_acts_574 : decode cL_acts 574 = .ok (.bipush 6, 2) := by decide +kernel
theorem dL_acts_576 : decode cL_acts 576 = .ok (.ishr, 1) := by decide +kernel
theorem dL_acts_577 : decode cL_acts 577 = .ok (.bipush 61, 2) := by decide +kernel
theorem dL_acts_579 : decode cL_acts 579 = .ok (.invokestatic 192, 3) := by decide +kernel
theorem dL_acts_582 : decode cL_acts 582 = .ok (.istore 15, 2) := by decide +kernel
theorem dL_acts_584 : decode cL_acts 584 = .ok (.aload_n 0, 1) := by decide +kernel
theorem dL_acts_585 : decode cL_acts 585 = .ok (.iload 7, 2) := by decide +kernel
theorem dL_acts_587 : decode cL_acts 587 = .ok (.iload 14, 2) := by decide +kernel
theorem dL_acts_589 : decode cL_acts 589 = .ok (.iload 15, 2) := by decide +kernel
theorem dL_acts_591 : decode cL_acts 591 = .ok (.invokestatic 202, 3) := by decide +kernel
theorem dL_acts_594 : decode cL_acts 594 = .ok (.iload 13, 2) := by decide +kernel
theorem dL_acts_596 : decode cL_acts 596 = .ok (.if_icmp .ne 46, 3) := by decide +kernel
theorem dL_acts_599 : decode cL_acts 599 = .ok (.aload_n 1, 1) := by decide +kernel
theorem dL_acts_600 : decode cL_acts 600 = .ok (.iload 7, 2) := by decide +kernel
theorem dL_acts_602 : decode cL_acts 602 = .ok (.iload 14, 2) := by decide +kernel
theorem dL_acts_604 : decode cL_acts 604 = .ok (.iload 15, 2) := by decide +kernel
theorem dL_acts_606 : decode cL_acts 606 = .ok (.invokestatic 202, 3) := by decide +kernel
theorem dL_acts_609 : decode cL_acts 609 = .ok (.iload 13, 2) := by decide +kernel
theorem dL_acts_611 : decode cL_acts 611 = .ok (.if_icmp .ne 31, 3) := by decide +kernel
theorem dL_acts_614 : decode cL_acts 614 = .ok (.aload_n 0, 1) := by decide +kernel
theorem dL_acts_615 : decode cL_acts 615 = .ok (.iload 7, 2) := by decide +kernel
theorem dL_acts_617 : decode cL_acts 617 = .ok (.bipush 31, 2) := by decide +kernel
theorem dL_acts_619 : decode cL_acts 619 = .ok (.iconst 0, 1) := by decide +kernel
theorem dL_acts_620 : decode cL_acts 620 = .ok (.invokestatic 202, 3) := by decide +kernel
theorem dL_acts_623 : decode cL_acts 623 = .ok (.iload 8, 2) := by decide +kernel
theorem dL_acts_625 : decode cL_acts 625 = .ok (.ifCond .eq 8, 3) := by decide +kernel
theorem dL_acts_628 : decode cL_acts 628 = .ok (.ldc 28, 2) := by decide +kernel
theorem dL_acts_630 : decode cL_acts 630 = .ok (.goto 5, 3) := by decide +kernel
theorem dL_acts_633 : decode cL_acts 633 = .ok (.ldc 25, 2) := by decide +kernel
theorem dL_acts_635 : decode cL_acts 635 = .ok (.if_icmp .ne 7, 3) := by decide +kernel
theorem dL_acts_638 : decode cL_acts 638 = .ok (.iconst 1, 1) := by decide +kernel
theorem dL_acts_639 : decode cL_acts 639 = .ok (.goto 4, 3) := by decide +kernel
theorem dL_acts_642 : decode cL_acts 642 = .ok (.iconst 0, 1) := by decide +kernel
theorem dL_acts_643 : decode cL_acts 643 = .ok (.ireturn, 1) := by decide +kernel
theorem dL_acts_644 : decode cL_acts 644 = .ok (.iload 6, 2) := by decide +kernel
theorem dL_acts_646 : decode cL_acts 646 = .ok (.bipush 9, 2) := by decide +kernel
theorem dL_acts_648 : decode cL_acts 648 = .ok (.if_icmp .ne 78, 3) := by decide +kernel
theorem dL_acts_651 : decode cL_acts 651 = .ok (.aload_n 0, 1) := by decide +kernel
theorem dL_acts_652 : decode cL_acts 652 = .ok (.iload 7, 2) := by decide +kernel
theorem dL_acts_654 : decode cL_acts 654 = .ok (.invokestatic 204, 3) := by decide +kernel
theorem dL_acts_657 : decode cL_acts 657 = .ok (.istore 13, 2) := by decide +kernel
theorem dL_acts_659 : decode cL_acts 659 = .ok (.aload_n 1, 1) := by decide +kernel
theorem dL_acts_660 : decode cL_acts 660 = .ok (.iload 7, 2) := by decide +kernel
theorem dL_acts_662 : decode cL_acts 662 = .ok (.invokestatic 204, 3) := by decide +kernel
theorem dL_acts_665 : decode cL_acts 665 = .ok (.iload 13, 2) := by decide +kernel
theorem dL_acts_667 : decode cL_acts 667 = .ok (.if_icmp .ne 57, 3) := by decide +kernel
theorem dL_acts_670 : decode cL_acts 670 = .ok (.iload 8, 2) := by decide +kernel
theorem dL_acts_672 : decode cL_acts 672 = .ok (.ifCond .ne 13, 3) := by decide +kernel
theorem dL_acts_675 : decode cL_acts 675 = .ok (.iload 13, 2) := by decide +kernel
theorem dL_acts_677 : decode cL_acts 677 = .ok (.ldc 25, 2) := by decide +kernel
theorem dL_acts_679 : decode cL_acts 679 = .ok (.if_icmp .ne 45, 3) := by decide +kernel
theorem dL_acts_682 : decode cL_acts 682 = .ok (.goto 38, 3) := by decide +kernel
theorem dL_acts_685 : decode cL_acts 685 = .ok (.iload 9, 2) := by decide +kernel
theorem dL_acts_687 : decode cL_acts 687 = .ok (.ifCond .ne 8, 3) := by decide +kernel
theorem dL_acts_690 : decode cL_acts 690 = .ok (.iload 10, 2) := by decide +kernel
theorem dL_acts_692 : decode cL_acts 692 = .ok (.ifCond .ne 13, 3) := by decide +kernel
theorem dL_acts_695 : decode cL_acts 695 = .ok (.iload 13, 2) := by decide +kernel
theorem dL_acts_697 : decode cL_acts 697 = .ok (.ldc 18, 2) := by decide +kernel
theorem dL_acts_699 : decode cL_acts 699 = .ok (.if_icmp .ne 25, 3) := by decide +kernel
theorem dL_acts_702 : decode cL_acts 702 = .ok (.goto 18, 3) := by decide +kernel
theorem dL_acts_705 : decode cL_acts 705 = .ok (.iload 13, 2) := by decide +kernel
theorem dL_acts_707 : decode cL_acts 707 = .ok (.ifCond .le 17, 3) := by decide +kernel
theorem dL_acts_710 : decode cL_acts 710 = .ok (.aload_n 0, 1) := by decide +kernel
theorem dL_acts_711 : decode cL_acts 711 = .ok (.iload 7, 2) := by decide +kernel
theorem dL_acts_713 : decode cL_acts 713 = .ok (.invokestatic 136, 3) := by decide +kernel
theorem dL_acts_716 : decode cL_acts 716 = .ok (.iconst 1, 1) := by decide +kernel
theorem dL_acts_717 : decode cL_acts 717 = .ok (.if_icmp .ne 7, 3) := by decide +kernel
theorem dL_acts_720 : decode cL_acts 720 = .ok (.iconst 1, 1) := by decide +kernel
theorem dL_acts_721 : decode cL_acts 721 = .ok (.goto 4, 3) := by decide +kernel
theorem dL_acts_724 : decode cL_acts 724 = .ok (.iconst 0, 1) := by decide +kernel
theorem dL_acts_725 : decode cL_acts 725 = .ok (.ireturn, 1) := by decide +kernel
theorem dL_acts_726 : decode cL_acts 726 = .ok (.iload 6, 2) := by decide +kernel
theorem dL_acts_728 : decode cL_acts 728 = .ok (.bipush 15, 2) := by decide +kernel
theorem dL_acts_730 : decode cL_acts 730 = .ok (.if_icmp .ge 283, 3) := by decide +kernel
theorem dL_acts_733 : decode cL_acts 733 = .ok (.iload 8, 2) := by decide +kernel
theorem dL_acts_735 : decode cL_acts 735 = .ok (.ifCond .eq 86, 3) := by decide +kernel
theorem dL_acts_738 : decode cL_acts 738 = .ok (.iload 12, 2) := by decide +kernel
theorem dL_acts_740 : decode cL_acts 740 = .ok (.iload 10, 2) := by decide +kernel
theorem dL_acts_742 : decode cL_acts 742 = .ok (.if_icmp .ge 79, 3) := by decide +kernel
theorem dL_acts_745 : decode cL_acts 745 = .ok (.iload 5, 2) := by decide +kernel
theorem dL_acts_747 : decode cL_acts 747 = .ok (.bipush 7, 2) := by decide +kernel
theorem dL_acts_749 : decode cL_acts 749 = .ok (.ishr, 1) := by decide +kernel
theorem dL_acts_750 : decode cL_acts 750 = .ok (.iconst 3, 1) := by decide +kernel
theorem dL_acts_751 : decode cL_acts 751 = .ok (.invokestatic 192, 3) := by decide +kernel
theorem dL_acts_754 : decode cL_acts 754 = .ok (.ifCond .le 16, 3) := by decide +kernel
theorem dL_acts_757 : decode cL_acts 757 = .ok (.aload_n 3, 1) := by decide +kernel
theorem dL_acts_758 : decode cL_acts 758 = .ok (.bipush 8, 2) := by decide +kernel
theorem dL_acts_760 : decode cL_acts 760 = .ok (.iload 7, 2) := by decide +kernel
theorem dL_acts_762 : decode cL_acts 762 = .ok (.imul, 1) := by decide +kernel
theorem dL_acts_763 : decode cL_acts 763 = .ok (.iload 12, 2) := by decide +kernel
theorem dL_acts_765 : decode cL_acts 765 = .ok (.iadd, 1) := by decide +kernel
theorem dL_acts_766 : decode cL_acts 766 = .ok (.iaload, 1) := by decide +kernel
theorem dL_acts_767 : decode cL_acts 767 = .ok (.goto 56, 3) := by decide +kernel
theorem dL_acts_770 : decode cL_acts 770 = .ok (.iload 5, 2) := by decide +kernel
theorem dL_acts_772 : decode cL_acts 772 = .ok (.bipush 9, 2) := by decide +kernel
theorem dL_acts_774 : decode cL_acts 774 = .ok (.ishr, 1) := by decide +kernel
theorem dL_acts_775 : decode cL_acts 775 = .ok (.iconst 2, 1) := by decide +kernel
theorem dL_acts_776 : decode cL_acts 776 = .ok (.invokestatic 192, 3) := by decide +kernel
theorem dL_acts_779 : decode cL_acts 779 = .ok (.ifCond .ne 37, 3) := by decide +kernel
theorem dL_acts_782 : decode cL_acts 782 = .ok (.aload_n 0, 1) := by decide +kernel
theorem dL_acts_783 : decode cL_acts 783 = .ok (.aload_n 3, 1) := by decide +kernel
theorem dL_acts_784 : decode cL_acts 784 = .ok (.bipush 8, 2) := by decide +kernel
theorem dL_acts_786 : decode cL_acts 786 = .ok (.iload 7, 2) := by decide +kernel
theorem dL_acts_788 : decode cL_acts 788 = .ok (.imul, 1) := by decide +kernel
theorem dL_acts_789 : decode cL_acts 789 = .ok (.iload 12, 2) := by decide +kernel
theorem dL_acts_791 : decode cL_acts 791 = .ok (.iadd, 1) := by decide +kernel
theorem dL_acts_792 : decode cL_acts 792 = .ok (.iaload, 1) := by decide +kernel
theorem dL_acts_793 : decode cL_acts 793 = .ok (.invokestatic 154, 3) := by decide +kernel
theorem dL_acts_796 : decode cL_acts 796 = .ok (.ifCond .lt 20, 3) := by decide +kernel
theorem dL_acts_799 : decode cL_acts 799 = .ok (.aload_n 0, 1) := by decide +kernel
theorem dL_acts_800 : decode cL_acts 800 = .ok (.aload_n 3, 1) := by decide +kernel
theorem dL_acts_801 : decode cL_acts 801 = .ok (.bipush 8, 2) := by decide +kernel
theorem dL_acts_803 : decode cL_acts 803 = .ok (.iload 7, 2) := by decide +kernel
theorem dL_acts_805 : decode cL_acts 805 = .ok (.imul, 1) := by decide +kernel
theorem dL_acts_806 : decode cL_acts 806 = .ok (.iload 12, 2) := by decide +kernel
theorem dL_acts_808 : decode cL_acts 808 = .ok (.iadd, 1) := by decide +kernel
theorem dL_acts_809 : decode cL_acts 809 = .ok (.iaload, 1) := by decide +kernel
theorem dL_acts_810 : decode cL_acts 810 = .ok (.invokestatic 154, 3) := by decide +kernel
theorem dL_acts_813 : decode cL_acts 813 = .ok (.goto 10, 3) := by decide +kernel
theorem dL_acts_816 : decode cL_acts 816 = .ok (.iload 11, 2) := by decide +kernel
theorem dL_acts_818 : decode cL_acts 818 = .ok (.goto 5, 3) := by decide +kernel
theorem dL_acts_821 : decode cL_acts 821 = .ok (.iload 11, 2) := by decide +kernel
theorem dL_acts_823 : decode cL_acts 823 = .ok (.istore 13, 2) := by decide +kernel
theorem dL_acts_825 : decode cL_acts 825 = .ok (.aload_n 0, 1) := by decide +kernel
theorem dL_acts_826 : decode cL_acts 826 = .ok (.iload 13, 2) := by decide +kernel
theorem dL_acts_828 : decode cL_acts 828 = .ok (.iload 7, 2) := by decide +kernel
theorem dL_acts_830 : decode cL_acts 830 = .ok (.iload 12, 2) := by decide +kernel
theorem dL_acts_832 : decode cL_acts 832 = .ok (.invokestatic 167, 3) := by decide +kernel
theorem dL_acts_835 : decode cL_acts 835 = .ok (.istore 14, 2) := by decide +kernel
theorem dL_acts_837 : decode cL_acts 837 = .ok (.iload 8, 2) := by decide +kernel
theorem dL_acts_839 : decode cL_acts 839 = .ok (.ifCond .eq 27, 3) := by decide +kernel
theorem dL_acts_842 : decode cL_acts 842 = .ok (.iload 12, 2) := by decide +kernel
theorem dL_acts_844 : decode cL_acts 844 = .ok (.iload 10, 2) := by decide +kernel
theorem dL_acts_846 : decode cL_acts 846 = .ok (.if_icmp .ge 20, 3) := by decide +kernel
theorem dL_acts_849 : decode cL_acts 849 = .ok (.aload_n 0, 1) := by decide +kernel
theorem dL_acts_850 : decode cL_acts 850 = .ok (.aload_n 3, 1) := by decide +kernel
theorem dL_acts_851 : decode cL_acts 851 = .ok (.bipush 8, 2) := by decide +kernel
theorem dL_acts_853 : decode cL_acts 853 = .ok (.iload 7, 2) := by decide +kernel
theorem dL_acts_855 : decode cL_acts 855 = .ok (.imul, 1) := by decide +kernel
theorem dL_acts_856 : decode cL_acts 856 = .ok (.iload 12, 2) := by decide +kernel
theorem dL_acts_858 : decode cL_acts 858 = .ok (.iadd, 1) := by decide +kernel
theorem dL_acts_859 : decode cL_acts 859 = .ok (.iaload, 1) := by decide +kernel
theorem dL_acts_860 : decode cL_acts 860 = .ok (.invokestatic 156, 3) := by decide +kernel
theorem dL_acts_863 : decode cL_acts 863 = .ok (.goto 4, 3) := by decide +kernel
theorem dL_acts_866 : decode cL_acts 866 = .ok (.iconst 0, 1) := by decide +kernel
theorem dL_acts_867 : decode cL_acts 867 = .ok (.istore 15, 2) := by decide +kernel
theorem dL_acts_869 : decode cL_acts 869 = .ok (.aload_n 0, 1) := by decide +kernel
theorem dL_acts_870 : decode cL_acts 870 = .ok (.iload 13, 2) := by decide +kernel
theorem dL_acts_872 : decode cL_acts 872 = .ok (.iload 7, 2) := by decide +kernel
theorem dL_acts_874 : decode cL_acts 874 = .ok (.iload 12, 2) := by decide +kernel
theorem dL_acts_876 : decode cL_acts 876 = .ok (.invokestatic 206, 3) := by decide +kernel
theorem dL_acts_879 : decode cL_acts 879 = .ok (.istore 16, 2) := by decide +kernel
theorem dL_acts_881 : decode cL_acts 881 = .ok (.aload_n 1, 1) := by decide +kernel
theorem dL_acts_882 : decode cL_acts 882 = .ok (.iload 13, 2) := by decide +kernel
theorem dL_acts_884 : decode cL_acts 884 = .ok (.iload 7, 2) := by decide +kernel
theorem dL_acts_886 : decode cL_acts 886 = .ok (.iload 12, 2) := by decide +kernel
theorem dL_acts_888 : decode cL_acts 888 = .ok (.invokestatic 206, 3) := by decide +kernel
theorem dL_acts_891 : decode cL_acts 891 = .ok (.iload 16, 2) := by decide +kernel
theorem dL_acts_893 : decode cL_acts 893 = .ok (.if_icmp .ne 55, 3) := by decide +kernel
theorem dL_acts_896 : decode cL_acts 896 = .ok (.iload 14, 2) := by decide +kernel
theorem dL_acts_898 : decode cL_acts 898 = .ok (.ifCond .ge 13, 3) := by decide +kernel
theorem dL_acts_901 : decode cL_acts 901 = .ok (.iload 16, 2) := by decide +kernel
theorem dL_acts_903 : decode cL_acts 903 = .ok (.ldc 25, 2) := by decide +kernel
theorem dL_acts_905 : decode cL_acts 905 = .ok (.if_icmp .ne 43, 3) := by decide +kernel
theorem dL_acts_908 : decode cL_acts 908 = .ok (.goto 36, 3) := by decide +kernel
theorem dL_acts_911 : decode cL_acts 911 = .ok (.iload 14, 2) := by decide +kernel
theorem dL_acts_913 : decode cL_acts 913 = .ok (.iconst 1, 1) := by decide +kernel
theorem dL_acts_914 : decode cL_acts 914 = .ok (.if_icmp .le 13, 3) := by decide +kernel
theorem dL_acts_917 : decode cL_acts 917 = .ok (.iload 16, 2) := by decide +kernel
theorem dL_acts_919 : decode cL_acts 919 = .ok (.ldc 18, 2) := by decide +kernel
theorem dL_acts_921 : decode cL_acts 921 = .ok (.if_icmp .ne 27, 3) := by decide +kernel
theorem dL_acts_924 : decode cL_acts 924 = .ok (.goto 20, 3) := by decide +kernel
theorem dL_acts_927 : decode cL_acts 927 = .ok (.iload 16, 2) := by decide +kernel
theorem dL_acts_929 : decode cL_acts 929 = .ok (.ifCond .lt 19, 3) := by decide +kernel
theorem dL_acts_932 : decode cL_acts 932 = .ok (.aload_n 0, 1) := by decide +kernel
theorem dL_acts_933 : decode cL_acts 933 = .ok (.iload 7, 2) := by decide +kernel
theorem dL_acts_935 : decode cL_acts 935 = .ok (.iload 12, 2) := by decide +kernel
theorem dL_acts_937 : decode cL_acts 937 = .ok (.invokestatic 150, 3) := by decide +kernel
theorem dL_acts_940 : decode cL_acts 940 = .ok (.iconst 2, 1) := by decide +kernel
theorem dL_acts_941 : decode cL_acts 941 = .ok (.if_icmp .ne 7, 3) := by decide +kernel
theorem dL_acts_944 : decode cL_acts 944 = .ok (.iconst 1, 1) := by decide +kernel
theorem dL_acts_945 : decode cL_acts 945 = .ok (.goto 4, 3) := by decide +kernel
theorem dL_acts_948 : decode cL_acts 948 = .ok (.iconst 0, 1) := by decide +kernel
theorem dL_acts_949 : decode cL_acts 949 = .ok (.istore 17, 2) := by decide +kernel
theorem dL_acts_951 : decode cL_acts 951 = .ok (.iload 17, 2) := by decide +kernel
theorem dL_acts_953 : decode cL_acts 953 = .ok (.ifCond .eq 58, 3) := by decide +kernel
theorem dL_acts_956 : decode cL_acts 956 = .ok (.iload 14, 2) := by decide +kernel
theorem dL_acts_958 : decode cL_acts 958 = .ok (.iconst 1, 1) := by decide +kernel
theorem dL_acts_959 : decode cL_acts 959 = .ok (.if_icmp .ne 24, 3) := by decide +kernel
theorem dL_acts_962 : decode cL_acts 962 = .ok (.aload_n 0, 1) := by decide +kernel
theorem dL_acts_963 : decode cL_acts 963 = .ok (.aload_n 3, 1) := by decide +kernel
theorem dL_acts_964 : decode cL_acts 964 = .ok (.bipush 8, 2) := by decide +kernel
theorem dL_acts_966 : decode cL_acts 966 = .ok (.iload 7, 2) := by decide +kernel
theorem dL_acts_968 : decode cL_acts 968 = .ok (.imul, 1) := by decide +kernel
theorem dL_acts_969 : decode cL_acts 969 = .ok (.iload 12, 2) := by decide +kernel
theorem dL_acts_971 : decode cL_acts 971 = .ok (.iadd, 1) := by decide +kernel
theorem dL_acts_972 : decode cL_acts 972 = .ok (.iaload, 1) := by decide +kernel
theorem dL_acts_973 : decode cL_acts 973 = .ok (.invokestatic 156, 3) := by decide +kernel
theorem dL_acts_976 : decode cL_acts 976 = .ok (.iload 15, 2) := by decide +kernel
theorem dL_acts_978 : decode cL_acts 978 = .ok (.iconst 1, 1) := by decide +kernel
theorem dL_acts_979 : decode cL_acts 979 = .ok (.iadd, 1) := by decide +kernel
theorem dL_acts_980 : decode cL_acts 980 = .ok (.if_icmp .ne 31, 3) := by decide +kernel
theorem dL_acts_983 : decode cL_acts 983 = .ok (.iload 14, 2) := by decide +kernel
theorem dL_acts_985 : decode cL_acts 985 = .ok (.ifCond .ne 22, 3) := by decide +kernel
theorem dL_acts_988 : decode cL_acts 988 = .ok (.aload_n 0, 1) := by decide +kernel
theorem dL_acts_989 : decode cL_acts 989 = .ok (.aload_n 3, 1) := by decide +kernel
theorem dL_acts_990 : decode cL_acts 990 = .ok (.bipush 8, 2) := by decide +kernel
theorem dL_acts_992 : decode cL_acts 992 = .ok (.iload 7, 2) := by decide +kernel
theorem dL_acts_994 : decode cL_acts 994 = .ok (.imul, 1) := by decide +kernel
theorem dL_acts_995 : decode cL_acts 995 = .ok (.iload 12, 2) := by decide +kernel
theorem dL_acts_997 : decode cL_acts 997 = .ok (.iadd, 1) := by decide +kernel
theorem dL_acts_998 : decode cL_acts 998 = .ok (.iaload, 1) := by decide +kernel
theorem dL_acts_999 : decode cL_acts 999 = .ok (.invokestatic 156, 3) := by decide +kernel
theorem dL_acts_1002 : decode cL_acts 1002 = .ok (.iload 15, 2) := by decide +kernel
theorem dL_acts_1004 : decode cL_acts 1004 = .ok (.if_icmp .ne 7, 3) := by decide +kernel
theorem dL_acts_1007 : decode cL_acts 1007 = .ok (.iconst 1, 1) := by decide +kernel
theorem dL_acts_1008 : decode cL_acts 1008 = .ok (.goto 4, 3) := by decide +kernel
theorem dL_acts_1011 : decode cL_acts 1011 = .ok (.iconst 0, 1) := by decide +kernel
theorem dL_acts_1012 : decode cL_acts 1012 = .ok (.ireturn, 1) := by decide +kernel
theorem dL_acts_1013 : decode cL_acts 1013 = .ok (.iload 6, 2) := by decide +kernel
theorem dL_acts_1015 : decode cL_acts 1015 = .ok (.bipush 15, 2) := by decide +kernel
theorem dL_acts_1017 : decode cL_acts 1017 = .ok (.if_icmp .ne 228, 3) := by decide +kernel
theorem dL_acts_1020 : decode cL_acts 1020 = .ok (.iload 5, 2) := by decide +kernel
theorem dL_acts_1022 : decode cL_acts 1022 = .ok (.bipush 8, 2) := by decide +kernel
theorem dL_acts_1024 : decode cL_acts 1024 = .ok (.ishr, 1) := by decide +kernel
theorem dL_acts_1025 : decode cL_acts 1025 = .ok (.iconst 2, 1) := by decide +kernel
theorem dL_acts_1026 : decode cL_acts 1026 = .ok (.invokestatic 192, 3) := by decide +kernel
theorem dL_acts_1029 : decode cL_acts 1029 = .ok (.ifCond .ne 7, 3) := by decide +kernel
theorem dL_acts_1032 : decode cL_acts 1032 = .ok (.iconst 1, 1) := by decide +kernel
theorem dL_acts_1033 : decode cL_acts 1033 = .ok (.goto 4, 3) := by decide +kernel
theorem dL_acts_1036 : decode cL_acts 1036 = .ok (.iconst 0, 1) := by decide +kernel
theorem dL_acts_1037 : decode cL_acts 1037 = .ok (.istore 13, 2) := by decide +kernel
theorem dL_acts_1039 : decode cL_acts 1039 = .ok (.iload 8, 2) := by decide +kernel
theorem dL_acts_1041 : decode cL_acts 1041 = .ok (.ifCond .eq 35, 3) := by decide +kernel
theorem dL_acts_1044 : decode cL_acts 1044 = .ok (.iload 12, 2) := by decide +kernel
theorem dL_acts_1046 : decode cL_acts 1046 = .ok (.iload 10, 2) := by decide +kernel
theorem dL_acts_1048 : decode cL_acts 1048 = .ok (.if_icmp .ge 28, 3) := by decide +kernel
theorem dL_acts_1051 : decode cL_acts 1051 = .ok (.iload 5, 2) := by decide +kernel
theorem dL_acts_1053 : decode cL_acts 1053 = .ok (.bipush 7, 2) := by decide +kernel
theorem dL_acts_1055 : decode cL_acts 1055 = .ok (.ishr, 1) := by decide +kernel
theorem dL_acts_1056 : decode cL_acts 1056 = .ok (.iconst 3, 1) := by decide +kernel
theorem dL_acts_1057 : decode cL_acts 1057 = .ok (.invokestatic 192, 3) := by decide +kernel
theorem dL_acts_1060 : decode cL_acts 1060 = .ok (.ifCond .le 16, 3) := by decide +kernel
theorem dL_acts_1063 : decode cL_acts 1063 = .ok (.aload_n 3, 1) := by decide +kernel
theorem dL_acts_1064 : decode cL_acts 1064 = .ok (.bipush 8, 2) := by decide +kernel
theorem dL_acts_1066 : decode cL_acts 1066 = .ok (.iload 7, 2) := by decide +kernel
theorem dL_acts_1068 : decode cL_acts 1068 = .ok (.imul, 1) := by decide +kernel
theorem dL_acts_1069 : decode cL_acts 1069 = .ok (.iload 12, 2) := by decide +kernel
theorem dL_acts_1071 : decode cL_acts 1071 = .ok (.iadd, 1) := by decide +kernel
theorem dL_acts_1072 : decode cL_acts 1072 = .ok (.iaload, 1) := by decide +kernel
theorem dL_acts_1073 : decode cL_acts 1073 = .ok (.goto 5, 3) := by decide +kernel
theorem dL_acts_1076 : decode cL_acts 1076 = .ok (.iload 11, 2) := by decide +kernel
theorem dL_acts_1078 : decode cL_acts 1078 = .ok (.istore 14, 2) := by decide +kernel
theorem dL_acts_1080 : decode cL_acts 1080 = .ok (.iload 13, 2) := by decide +kernel
theorem dL_acts_1082 : decode cL_acts 1082 = .ok (.ifCond .eq 12, 3) := by decide +kernel
theorem dL_acts_1085 : decode cL_acts 1085 = .ok (.aload_n 0, 1) := by decide +kernel
theorem dL_acts_1086 : decode cL_acts 1086 = .ok (.iload 7, 2) := by decide +kernel
theorem dL_acts_1088 : decode cL_acts 1088 = .ok (.invokestatic 208, 3) := by decide +kernel
theorem dL_acts_1091 : decode cL_acts 1091 = .ok (.goto 13, 3) := by decide +kernel
theorem dL_acts_1094 : decode cL_acts 1094 = .ok (.aload_n 0, 1) := by decide +kernel
theorem dL_acts_1095 : decode cL_acts 1095 = .ok (.iload 14, 2) := by decide +kernel
theorem dL_acts_1097 : decode cL_acts 1097 = .ok (.iload 7, 2) := by decide +kernel
theorem dL_acts_1099 : decode cL_acts 1099 = .ok (.iload 12, 2) := by decide +kernel
theorem dL_acts_1101 : decode cL_acts 1101 = .ok (.invokestatic 210, 3) := by decide +kernel
theorem dL_acts_1104 : decode cL_acts 1104 = .ok (.istore 15, 2) := by decide +kernel
theorem dL_acts_1106 : decode cL_acts 1106 = .ok (.iload 8, 2) := by decide +kernel
theorem dL_acts_1108 : decode cL_acts 1108 = .ok (.ifCond .eq 38, 3) := by decide +kernel
theorem dL_acts_1111 : decode cL_acts 1111 = .ok (.iload 9, 2) := by decide +kernel
theorem dL_acts_1113 : decode cL_acts 1113 = .ok (.iconst 1, 1) := by decide +kernel
theorem dL_acts_1114 : decode cL_acts 1114 = .ok (.if_icmp .ne 32, 3) := by decide +kernel
theorem dL_acts_1117 : decode cL_acts 1117 = .ok (.iload 13, 2) := by decide +kernel
theorem dL_acts_1119 : decode cL_acts 1119 = .ok (.ifCond .ne 23, 3) := by decide +kernel
theorem dL_acts_1122 : decode cL_acts 1122 = .ok (.iload 12, 2) := by decide +kernel
theorem dL_acts_1124 : decode cL_acts 1124 = .ok (.iload 10, 2) := by decide +kernel
theorem dL_acts_1126 : decode cL_acts 1126 = .ok (.if_icmp .ge 20, 3) := by decide +kernel
theorem dL_acts_1129 : decode cL_acts 1129 = .ok (.aload_n 1, 1) := by decide +kernel
theorem dL_acts_1130 : decode cL_acts 1130 = .ok (.iload 14, 2) := by decide +kernel
theorem dL_acts_1132 : decode cL_acts 1132 = .ok (.iload 7, 2) := by decide +kernel
theorem dL_acts_1134 : decode cL_acts 1134 = .ok (.iload 12, 2) := by decide +kernel
theorem dL_acts_1136 : decode cL_acts 1136 = .ok (.invokestatic 167, 3) := by decide +kernel
theorem dL_acts_1139 : decode cL_acts 1139 = .ok (.ifCond .ne 7, 3) := by decide +kernel
theorem dL_acts_1142 : decode cL_acts 1142 = .ok (.iconst 1, 1) := by decide +kernel
theorem dL_acts_1143 : decode cL_acts 1143 = .ok (.goto 4, 3) := by decide +kernel
theorem dL_acts_1146 : decode cL_acts 1146 = .ok (.iconst 0, 1) := by decide +kernel
theorem dL_acts_1147 : decode cL_acts 1147 = .ok (.istore 16, 2) := by decide +kernel
theorem dL_acts_1149 : decode cL_acts 1149 = .ok (.iload 13, 2) := by decide +kernel
theorem dL_acts_1151 : decode cL_acts 1151 = .ok (.ifCond .eq 12, 3) := by decide +kernel
theorem dL_acts_1154 : decode cL_acts 1154 = .ok (.aload_n 1, 1) := by decide +kernel
theorem dL_acts_1155 : decode cL_acts 1155 = .ok (.iload 7, 2) := by decide +kernel
theorem dL_acts_1157 : decode cL_acts 1157 = .ok (.invokestatic 208, 3) := by decide +kernel
theorem dL_acts_1160 : decode cL_acts 1160 = .ok (.goto 13, 3) := by decide +kernel
theorem dL_acts_1163 : decode cL_acts 1163 = .ok (.aload_n 1, 1) := by decide +kernel
theorem dL_acts_1164 : decode cL_acts 1164 = .ok (.iload 14, 2) := by decide +kernel
theorem dL_acts_1166 : decode cL_acts 1166 = .ok (.iload 7, 2) := by decide +kernel
theorem dL_acts_1168 : decode cL_acts 1168 = .ok (.iload 12, 2) := by decide +kernel
theorem dL_acts_1170 : decode cL_acts 1170 = .ok (.invokestatic 210, 3) := by decide +kernel
theorem dL_acts_1173 : decode cL_acts 1173 = .ok (.iload 15, 2) := by decide +kernel
theorem dL_acts_1175 : decode cL_acts 1175 = .ok (.if_icmp .ne 68, 3) := by decide +kernel
theorem dL_acts_1178 : decode cL_acts 1178 = .ok (.iload 16, 2) := by decide +kernel
theorem dL_acts_1180 : decode cL_acts 1180 = .ok (.ifCond .eq 30, 3) := by decide +kernel
theorem dL_acts_1183 : decode cL_acts 1183 = .ok (.iload 15, 2) := by decide +kernel
theorem dL_acts_1185 : decode cL_acts 1185 = .ok (.ifCond .le 58, 3) := by decide +kernel
theorem dL_acts_1188 : decode cL_acts 1188 = .ok (.aload_n 0, 1) := by decide +kernel
theorem dL_acts_1189 : decode cL_acts 1189 = .ok (.iload 7, 2) := by decide +kernel
theorem dL_acts_1191 : decode cL_acts 1191 = .ok (.invokestatic 136, 3) := by decide +kernel
theorem dL_acts_1194 : decode cL_acts 1194 = .ok (.iload 13, 2) := by decide +kernel
theorem dL_acts_1196 : decode cL_acts 1196 = .ok (.ifCond .eq 7, 3) := by decide +kernel
theorem dL_acts_1199 : decode cL_acts 1199 = .ok (.iconst 4, 1) := by decide +kernel
theorem dL_acts_1200 : decode cL_acts 1200 = .ok (.goto 4, 3) := by decide +kernel
theorem dL_acts_1203 : decode cL_acts 1203 = .ok (.iconst 3, 1) := by decide +kernel
theorem dL_acts_1204 : decode cL_acts 1204 = .ok (.if_icmp .ne 39, 3) := by decide +kernel
theorem dL_acts_1207 : decode cL_acts 1207 = .ok (.goto 32, 3) := by decide +kernel
theorem dL_acts_1210 : decode cL_acts 1210 = .ok (.iload 15, 2) := by decide +kernel
theorem dL_acts_1212 : decode cL_acts 1212 = .ok (.iload 8, 2) := by decide +kernel
theorem dL_acts_1214 : decode cL_acts 1214 = .ok (.ifCond .eq 20, 3) := by decide +kernel
theorem dL_acts_1217 : decode cL_acts 1217 = .ok (.iload 13, 2) := by decide +kernel
theorem dL_acts_1219 : decode cL_acts 1219 = .ok (.ifCond .ne 10, 3) := by decide +kernel
theorem dL_acts_1222 : decode cL_acts 1222 = .ok (.iload 12, 2) := by decide +kernel
theorem dL_acts_1224 : decode cL_acts 1224 = .ok (.iload 10, 2) := by decide +kernel
theorem dL_acts_1226 : decode cL_acts 1226 = .ok (.if_icmp .ge 8, 3) := by decide +kernel
theorem dL_acts_1229 : decode cL_acts 1229 = .ok (.ldc 18, 2) := by decide +kernel
theorem dL_acts_1231 : decode cL_acts 1231 = .ok (.goto 5, 3) := by decide +kernel
theorem dL_acts_1234 : decode cL_acts 1234 = .ok (.ldc 25, 2) := by decide +kernel
theorem dL_acts_1236 : decode cL_acts 1236 = .ok (.if_icmp .ne 7, 3) := by decide +kernel
theorem dL_acts_1239 : decode cL_acts 1239 = .ok (.iconst 1, 1) := by decide +kernel
theorem dL_acts_1240 : decode cL_acts 1240 = .ok (.goto 4, 3) := by decide +kernel
theorem dL_acts_1243 : decode cL_acts 1243 = .ok (.iconst 0, 1) := by decide +kernel
theorem dL_acts_1244 : decode cL_acts 1244 = .ok (.ireturn, 1) := by decide +kernel
theorem dL_acts_1245 : decode cL_acts 1245 = .ok (.iload 6, 2) := by decide +kernel
theorem dL_acts_1247 : decode cL_acts 1247 = .ok (.bipush 18, 2) := by decide +kernel
theorem dL_acts_1249 : decode cL_acts 1249 = .ok (.if_icmp .ge 196, 3) := by decide +kernel
theorem dL_acts_1252 : decode cL_acts 1252 = .ok (.iload 5, 2) := by decide +kernel
theorem dL_acts_1254 : decode cL_acts 1254 = .ok (.iconst 3, 1) := by decide +kernel
theorem dL_acts_1255 : decode cL_acts 1255 = .ok (.ishr, 1) := by decide +kernel
theorem dL_acts_1256 : decode cL_acts 1256 = .ok (.bipush 8, 2) := by decide +kernel
theorem dL_acts_1258 : decode cL_acts 1258 = .ok (.invokestatic 192, 3) := by decide +kernel
theorem dL_acts_1261 : decode cL_acts 1261 = .ok (.istore 13, 2) := by decide +kernel
theorem dL_acts_1263 : decode cL_acts 1263 = .ok (.aload_n 0, 1) := by decide +kernel
theorem dL_acts_1264 : decode cL_acts 1264 = .ok (.invokevirtual 130, 3) := by decide +kernel
theorem dL_acts_1267 : decode cL_acts 1267 = .ok (.iload 5, 2) := by decide +kernel
theorem dL_acts_1269 : decode cL_acts 1269 = .ok (.bipush 6, 2) := by decide +kernel
theorem dL_acts_1271 : decode cL_acts 1271 = .ok (.ishr, 1) := by decide +kernel
theorem dL_acts_1272 : decode cL_acts 1272 = .ok (.iconst 5, 1) := by decide +kernel
theorem dL_acts_1273 : decode cL_acts 1273 = .ok (.invokestatic 192, 3) := by decide +kernel
theorem dL_acts_1276 : decode cL_acts 1276 = .ok (.iadd, 1) := by decide +kernel
theorem dL_acts_1277 : decode cL_acts 1277 = .ok (.iconst 1, 1) := by decide +kernel
theorem dL_acts_1278 : decode cL_acts 1278 = .ok (.isub, 1) := by decide +kernel
theorem dL_acts_1279 : decode cL_acts 1279 = .ok (.istore 14, 2) := by decide +kernel
theorem dL_acts_1281 : decode cL_acts 1281 = .ok (.iload 14, 2) := by decide +kernel
theorem dL_acts_1283 : decode cL_acts 1283 = .ok (.iload 5, 2) := by decide +kernel
theorem dL_acts_1285 : decode cL_acts 1285 = .ok (.bipush 9, 2) := by decide +kernel
theorem dL_acts_1287 : decode cL_acts 1287 = .ok (.ishr, 1) := by decide +kernel
theorem dL_acts_1288 : decode cL_acts 1288 = .ok (.bipush 12, 2) := by decide +kernel
theorem dL_acts_1290 : decode cL_acts 1290 = .ok (.invokestatic 192, 3) := by decide +kernel
theorem dL_acts_1293 : decode cL_acts 1293 = .ok (.iadd, 1) := by decide +kernel
theorem dL_acts_1294 : decode cL_acts 1294 = .ok (.iconst 1, 1) := by decide +kernel
theorem dL_acts_1295 : decode cL_acts 1295 = .ok (.isub, 1) := by decide +kernel
theorem dL_acts_1296 : decode cL_acts 1296 = .ok (.istore 15, 2) := by decide +kernel
theorem dL_acts_1298 : decode cL_acts 1298 = .ok (.iload 5, 2) := by decide +kernel
theorem dL_acts_1300 : decode cL_acts 1300 = .ok (.bipush 13, 2) := by decide +kernel
theorem dL_acts_1302 : decode cL_acts 1302 = .ok (.ishr, 1) := by decide +kernel
theorem dL_acts_1303 : decode cL_acts 1303 = .ok (.bipush 11, 2) := by decide +kernel
theorem dL_acts_1305 : decode cL_acts 1305 = .ok (.invokestatic 192, 3) := by decide +kernel
theorem dL_acts_1308 : decode cL_acts 1308 = .ok (.istore 16, 2) := by decide +kernel
theorem dL_acts_1310 : decode cL_acts 1310 = .ok (.iload 11, 2) := by decide +kernel
theorem dL_acts_1312 : decode cL_acts 1312 = .ok (.iload 13, 2) := by decide +kernel
theorem dL_acts_1314 : decode cL_acts 1314 = .ok (.if_icmp .eq 35, 3) := by decide +kernel
theorem dL_acts_1317 : decode cL_acts 1317 = .ok (.iload 14, 2) := by decide +kernel
theorem dL_acts_1319 : decode cL_acts 1319 = .ok (.aload_n 0, 1) := by decide +kernel
theorem dL_acts_1320 : decode cL_acts 1320 = .ok (.invokevirtual 130, 3) := by decide +kernel
theorem dL_acts_1323 : decode cL_acts 1323 = .ok (.if_icmp .lt 26, 3) := by decide +kernel
theorem dL_acts_1326 : decode cL_acts 1326 = .ok (.iload 15, 2) := by decide +kernel
theorem dL_acts_1328 : decode cL_acts 1328 = .ok (.iload 14, 2) := by decide +kernel
theorem dL_acts_1330 : decode cL_acts 1330 = .ok (.if_icmp .lt 19, 3) := by decide +kernel
theorem dL_acts_1333 : decode cL_acts 1333 = .ok (.iload 16, 2) := by decide +kernel
theorem dL_acts_1335 : decode cL_acts 1335 = .ok (.ifCond .le 14, 3) := by decide +kernel
theorem dL_acts_1338 : decode cL_acts 1338 = .ok (.iload 16, 2) := by decide +kernel
theorem dL_acts_1340 : decode cL_acts 1340 = .ok (.bipush 10, 2) := by decide +kernel
theorem dL_acts_1342 : decode cL_acts 1342 = .ok (.if_icmp .ge 7, 3) := by decide +kernel
theorem dL_acts_1345 : decode cL_acts 1345 = .ok (.iconst 1, 1) := by decide +kernel
theorem dL_acts_1346 : decode cL_acts 1346 = .ok (.goto 4, 3) := by decide +kernel
theorem dL_acts_1349 : decode cL_acts 1349 = .ok (.iconst 0, 1) := by decide +kernel
theorem dL_acts_1350 : decode cL_acts 1350 = .ok (.istore 17, 2) := by decide +kernel
theorem dL_acts_1352 : decode cL_acts 1352 = .ok (.aload_n 0, 1) := by decide +kernel
theorem dL_acts_1353 : decode cL_acts 1353 = .ok (.iload 11, 2) := by decide +kernel
theorem dL_acts_1355 : decode cL_acts 1355 = .ok (.iload 13, 2) := by decide +kernel
theorem dL_acts_1357 : decode cL_acts 1357 = .ok (.iload 14, 2) := by decide +kernel
theorem dL_acts_1359 : decode cL_acts 1359 = .ok (.iload 15, 2) := by decide +kernel
theorem dL_acts_1361 : decode cL_acts 1361 = .ok (.iload 16, 2) := by decide +kernel
theorem dL_acts_1363 : decode cL_acts 1363 = .ok (.invokestatic 212, 3) := by decide +kernel
theorem dL_acts_1366 : decode cL_acts 1366 = .ok (.istore 18, 2) := by decide +kernel
theorem dL_acts_1368 : decode cL_acts 1368 = .ok (.aload_n 1, 1) := by decide +kernel
theorem dL_acts_1369 : decode cL_acts 1369 = .ok (.iload 11, 2) := by decide +kernel
theorem dL_acts_1371 : decode cL_acts 1371 = .ok (.iload 13, 2) := by decide +kernel
theorem dL_acts_1373 : decode cL_acts 1373 = .ok (.iload 14, 2) := by decide +kernel
theorem dL_acts_1375 : decode cL_acts 1375 = .ok (.iload 15, 2) := by decide +kernel
theorem dL_acts_1377 : decode cL_acts 1377 = .ok (.iload 16, 2) := by decide +kernel
theorem dL_acts_1379 : decode cL_acts 1379 = .ok (.invokestatic 212, 3) := by decide +kernel
theorem dL_acts_1382 : decode cL_acts 1382 = .ok (.iload 18, 2) := by decide +kernel
theorem dL_acts_1384 : decode cL_acts 1384 = .ok (.if_icmp .ne 59, 3) := by decide +kernel
theorem dL_acts_1387 : decode cL_acts 1387 = .ok (.iload 17, 2) := by decide +kernel
theorem dL_acts_1389 : decode cL_acts 1389 = .ok (.ifCond .eq 43, 3) := by decide +kernel
theorem dL_acts_1392 : decode cL_acts 1392 = .ok (.iload 18, 2) := by decide +kernel
theorem dL_acts_1394 : decode cL_acts 1394 = .ok (.iconst (-1), 1) := by decide +kernel
theorem dL_acts_1395 : decode cL_acts 1395 = .ok (.if_icmp .lt 48, 3) := by decide +kernel
theorem dL_acts_1398 : decode cL_acts 1398 = .ok (.iload 18, 2) := by decide +kernel
theorem dL_acts_1400 : decode cL_acts 1400 = .ok (.bipush 8, 2) := by decide +kernel
theorem dL_acts_1402 : decode cL_acts 1402 = .ok (.if_icmp .ge 41, 3) := by decide +kernel
theorem dL_acts_1405 : decode cL_acts 1405 = .ok (.aload_n 0, 1) := by decide +kernel
theorem dL_acts_1406 : decode cL_acts 1406 = .ok (.iload 11, 2) := by decide +kernel
theorem dL_acts_1408 : decode cL_acts 1408 = .ok (.invokestatic 154, 3) := by decide +kernel
theorem dL_acts_1411 : decode cL_acts 1411 = .ok (.iload 14, 2) := by decide +kernel
theorem dL_acts_1413 : decode cL_acts 1413 = .ok (.aload_n 0, 1) := by decide +kernel
theorem dL_acts_1414 : decode cL_acts 1414 = .ok (.invokevirtual 130, 3) := by decide +kernel
theorem dL_acts_1417 : decode cL_acts 1417 = .ok (.if_icmp .ne 8, 3) := by decide +kernel
theorem dL_acts_1420 : decode cL_acts 1420 = .ok (.iload 13, 2) := by decide +kernel
theorem dL_acts_1422 : decode cL_acts 1422 = .ok (.goto 4, 3) := by decide +kernel
theorem dL_acts_1425 : decode cL_acts 1425 = .ok (.iconst (-1), 1) := by decide +kernel
theorem dL_acts_1426 : decode cL_acts 1426 = .ok (.if_icmp .ne 17, 3) := by decide +kernel
theorem dL_acts_1429 : decode cL_acts 1429 = .ok (.goto 10, 3) := by decide +kernel
theorem dL_acts_1432 : decode cL_acts 1432 = .ok (.iload 18, 2) := by decide +kernel
theorem dL_acts_1434 : decode cL_acts 1434 = .ok (.ldc 28, 2) := by decide +kernel
theorem dL_acts_1436 : decode cL_acts 1436 = .ok (.if_icmp .ne 7, 3) := by decide +kernel
theorem dL_acts_1439 : decode cL_acts 1439 = .ok (.iconst 1, 1) := by decide +kernel
theorem dL_acts_1440 : decode cL_acts 1440 = .ok (.goto 4, 3) := by decide +kernel
theorem dL_acts_1443 : decode cL_acts 1443 = .ok (.iconst 0, 1) := by decide +kernel
theorem dL_acts_1444 : decode cL_acts 1444 = .ok (.ireturn, 1) := by decide +kernel
theorem dL_acts_1445 : decode cL_acts 1445 = .ok (.iload 6, 2) := by decide +kernel
theorem dL_acts_1447 : decode cL_acts 1447 = .ok (.bipush 18, 2) := by decide +kernel
theorem dL_acts_1449 : decode cL_acts 1449 = .ok (.if_icmp .ne 68, 3) := by decide +kernel
theorem dL_acts_1452 : decode cL_acts 1452 = .ok (.aload_n 0, 1) := by decide +kernel
theorem dL_acts_1453 : decode cL_acts 1453 = .ok (.iload 11, 2) := by decide +kernel
theorem dL_acts_1455 : decode cL_acts 1455 = .ok (.invokestatic 215, 3) := by decide +kernel
theorem dL_acts_1458 : decode cL_acts 1458 = .ok (.istore 13, 2) := by decide +kernel
theorem dL_acts_1460 : decode cL_acts 1460 = .ok (.aload_n 1, 1) := by decide +kernel
theorem dL_acts_1461 : decode cL_acts 1461 = .ok (.iload 11, 2) := by decide +kernel
theorem dL_acts_1463 : decode cL_acts 1463 = .ok (.invokestatic 215, 3) := by decide +kernel
theorem dL_acts_1466 : decode cL_acts 1466 = .ok (.iload 13, 2) := by decide +kernel
theorem dL_acts_1468 : decode cL_acts 1468 = .ok (.if_icmp .ne 47, 3) := by decide +kernel
theorem dL_acts_1471 : decode cL_acts 1471 = .ok (.iload 13, 2) := by decide +kernel
theorem dL_acts_1473 : decode cL_acts 1473 = .ok (.ldc 18, 2) := by decide +kernel
theorem dL_acts_1475 : decode cL_acts 1475 = .ok (.if_icmp .eq 15, 3) := by decide +kernel
theorem dL_acts_1478 : decode cL_acts 1478 = .ok (.iload 13, 2) := by decide +kernel
theorem dL_acts_1480 : decode cL_acts 1480 = .ok (.ifCond .lt 35, 3) := by decide +kernel
theorem dL_acts_1483 : decode cL_acts 1483 = .ok (.iload 13, 2) := by decide +kernel
theorem dL_acts_1485 : decode cL_acts 1485 = .ok (.bipush 8, 2) := by decide +kernel
theorem dL_acts_1487 : decode cL_acts 1487 = .ok (.if_icmp .ge 28, 3) := by decide +kernel
theorem dL_acts_1490 : decode cL_acts 1490 = .ok (.aload_n 0, 1) := by decide +kernel
theorem dL_acts_1491 : decode cL_acts 1491 = .ok (.iload 11, 2) := by decide +kernel
theorem dL_acts_1493 : decode cL_acts 1493 = .ok (.invokestatic 154, 3) := by decide +kernel
theorem dL_acts_1496 : decode cL_acts 1496 = .ok (.iconst (-1), 1) := by decide +kernel
theorem dL_acts_1497 : decode cL_acts 1497 = .ok (.if_icmp .ne 18, 3) := by decide +kernel
theorem dL_acts_1500 : decode cL_acts 1500 = .ok (.aload_n 0, 1) := by decide +kernel
theorem dL_acts_1501 : decode cL_acts 1501 = .ok (.iload 11, 2) := by decide +kernel
theorem dL_acts_1503 : decode cL_acts 1503 = .ok (.invokestatic 215, 3) := by decide +kernel
theorem dL_acts_1506 : decode cL_acts 1506 = .ok (.ldc 18, 2) := by decide +kernel
theorem dL_acts_1508 : decode cL_acts 1508 = .ok (.if_icmp .ne 7, 3) := by decide +kernel
theorem dL_acts_1511 : decode cL_acts 1511 = .ok (.iconst 1, 1) := by decide +kernel
theorem dL_acts_1512 : decode cL_acts 1512 = .ok (.goto 4, 3) := by decide +kernel
theorem dL_acts_1515 : decode cL_acts 1515 = .ok (.iconst 0, 1) := by decide +kernel
theorem dL_acts_1516 : decode cL_acts 1516 = .ok (.ireturn, 1) := by decide +kernel
theorem dL_acts_1517 : decode cL_acts 1517 = .ok (.aload_n 0, 1) := by decide +kernel
theorem dL_acts_1518 : decode cL_acts 1518 = .ok (.aload_n 1, 1) := by decide +kernel
theorem dL_acts_1519 : decode cL_acts 1519 = .ok (.iconst 1, 1) := by decide +kernel
theorem dL_acts_1520 : decode cL_acts 1520 = .ok (.iload 5, 2) := by decide +kernel
theorem dL_acts_1522 : decode cL_acts 1522 = .ok (.iload 5, 2) := by decide +kernel
theorem dL_acts_1524 : decode cL_acts 1524 = .ok (.bipush 6, 2) := by decide +kernel
theorem dL_acts_1526 : decode cL_acts 1526 = .ok (.ishr, 1) := by decide +kernel
theorem dL_acts_1527 : decode cL_acts 1527 = .ok (.iconst 4, 1) := by decide +kernel
theorem dL_acts_1528 : decode cL_acts 1528 = .ok (.invokestatic 192, 3) := by decide +kernel
theorem dL_acts_1531 : decode cL_acts 1531 = .ok (.ifCond .ne 8, 3) := by decide +kernel
theorem dL_acts_1534 : decode cL_acts 1534 = .ok (.bipush 60, 2) := by decide +kernel
theorem dL_acts_1536 : decode cL_acts 1536 = .ok (.goto 5, 3) := by decide +kernel
theorem dL_acts_1539 : decode cL_acts 1539 = .ok (.bipush 7, 2) := by decide +kernel
theorem dL_acts_1541 : decode cL_acts 1541 = .ok (.invokestatic 192, 3) := by decide +kernel
theorem dL_acts_1544 : decode cL_acts 1544 = .ok (.iadd, 1) := by decide +kernel
theorem dL_acts_1545 : decode cL_acts 1545 = .ok (.iload 7, 2) := by decide +kernel
theorem dL_acts_1547 : decode cL_acts 1547 = .ok (.invokestatic 217, 3) := by decide +kernel
theorem dL_acts_1550 : decode cL_acts 1550 = .ok (.ireturn, 1) := by decide +kernel
section
variable {p : Program} {l : Launch} {e : Env} {s : State} {m : MethodId} {args : Array Value} {below : List Frame} {meth : Method} {c : Code} {D : va_G} {cA : Nat → ClassId} {A : Nat → Prop} {q0 t0 : Nat → Nat} {q tq : Nat → Nat → Nat} {ab aw : Nat}
variable {Qf : Int32 × Dk × Dk × (Nat → Int32) × (Nat → Int32) → State → Prop}
abbrev rm_L_acts : Room := { frames := 10, cells := 81, slots := 772, locals := 189 }
def f_L_acts_1541 (d : Dk) (u : Dk) (b : (Nat → Int32)) (w : (Nat → Int32)) (x7 : Int32) (s0 : Int32) (s1 : Int32) (s2 : Int32) : Option (Int32 × Dk × Dk × (Nat → Int32) × (Nat → Int32)) := ((f_L_low s1 s0).bind fun z1 => ((f_L_passes d u (s2 + z1) x7).bind fun z2 => (if z2.2.1.1 = d.1 ∧ z2.2.2.1 = u.1 then (if z2.1 = 0 ∨ z2.1 = 1 then (some (z2.1, z2.2.1, z2.2.2, b, w)) else none) else none)))
set_option maxHeartbeats 1000000 in
set_option maxRecDepth 100000 in
theorem jl_acts_1541  (X : LCx p l s m args meth c cL_acts 19 D cA A) (hE : ∀ (z : Int32 × Dk × Dk × (Nat → Int32) × (Nat → Int32)) (q tq : Nat → Nat → Nat) (pc : Nat) (H : Heap) (locs : List Loc) (ls : Array Slot) (cells slots : Nat), (z.1 = 0 ∨ z.1 = 1) → decode cL_acts pc = .ok (.ireturn, 1) → cells ≤ 81 → slots ≤ 772 → St D A s.heap (aW q0 q cA z.2.1 t0 tq z.2.2.1 ab aw z.2.2.2.1 z.2.2.2.2) H locs → W p l e rm_L_acts s m args below meth c H locs cells slots (Qf z) (F0 m pc ls [.int z.1])) (d : Dk) (u : Dk) (b : (Nat → Int32)) (w : (Nat → Int32)) (x7 : Int32) (s0 : Int32) (s1 : Int32) (s2 : Int32) (z : Int32 × Dk × Dk × (Nat → Int32) × (Nat → Int32)) (hf : f_L_acts_1541 d u b w x7 s0 s1 s2 = some z) (H : Heap) (locs : List Loc) (ls : Array Slot) (h : St D A s.heap (aW q0 q cA d t0 tq u ab aw b w) H locs) (hl : lv_has ls 19 [(7, .int x7)]) : W p l e rm_L_acts s m args below meth c H locs 77 748 (Qf z) (F0 m 1541 ls [.int s0, .int s1, .int s2, .ref (t0 0), .ref (q0 0)]) := by
  obtain ⟨C, hl0, hXA, hN⟩ := id X
  obtain ⟨hx, hb, hml, hown, hts, hK, hlk⟩ := id C
  rw [f_L_acts_1541] at hf
  obtain ⟨z1, hc1, hf⟩ := bdS hf
  refine call_SR (pc := 1541) (As := [.int s1, .int s0]) (rest := [.int s2, .ref (t0 0), .ref (q0 0)]) (wc := []) C h (k_L_low s1 s0 hc1) cw_L_192 [] rfl rfl rfl rfl hl.1 (Nat.le_of_ble_eq_true rfl) dL_acts_1541 ⟨(Nat.le_of_ble_eq_true rfl), (Nat.le_of_ble_eq_true rfl)⟩ rfl rfl ⟨(Nat.le_of_ble_eq_true rfl), (Nat.le_of_ble_eq_true rfl)⟩ (fun H locs h => ?_)
  refine W.eq (g2 := F0 m 1544 ls [.int z1, .int s2, .ref (t0 0), .ref (q0 0)]) rfl ?_
  refine lv_iadd (pc := 1544) hx hb dL_acts_1544 ?_
  refine lv_iload (pc := 1545) hx hb dL_acts_1545 (lv_at hl 0 rfl) ?_
  obtain ⟨z2, hc2, hf⟩ := bdS hf
  obtain ⟨hg2, hf⟩ := ifS hf
  refine call_K (pc := 1547) (As := [.ref (q0 0), .ref (t0 0), .int (s2 + z1), .int x7]) (rest := []) (ws' := (aW q0 q cA z2.2.1 t0 tq z2.2.2 ab aw b w)) X h (k_L_passes d u (s2 + z1) x7 hc2) cw_L_217 (aW_p q0 q cA d t0 tq u ab aw b w) (aW_p q0 q cA z2.2.1 t0 tq z2.2.2 ab aw b w).symm (kkW_fst _ _ _ _ _ _ _ _ _ hg2.1 hg2.2) rfl rfl hl.1 (Nat.le_of_ble_eq_true rfl) dL_acts_1547 ⟨(Nat.le_of_ble_eq_true rfl), (Nat.le_of_ble_eq_true rfl)⟩ rfl rfl ⟨(Nat.le_of_ble_eq_true rfl), (Nat.le_of_ble_eq_true rfl)⟩ (fun H locs h => ?_)
  refine W.eq (g2 := F0 m 1550 ls [.int z2.1]) rfl ?_
  obtain ⟨hbo, hf⟩ := ifS hf
  cases hf
  exact hE (z2.1, z2.2.1, z2.2.2, b, w) q tq 1550 _ _ _ _ _ hbo dL_acts_1550 (Nat.le_of_ble_eq_true rfl) (Nat.le_of_ble_eq_true rfl) h
def f_L_acts_1490 (d : Dk) (u : Dk) (b : (Nat → Int32)) (w : (Nat → Int32)) (x11 : Int32) : Option (Int32 × Dk × Dk × (Nat → Int32) × (Nat → Int32)) := ((gm_delegateToday d x11).bind fun z1 => (if z1 = (-1 : Int32) then ((gm_revoke d x11).bind fun z2 => (if z2.1 = (-1000003 : Int32) then (some ((1 : Int32), z2.2, u, b, w)) else (some ((0 : Int32), z2.2, u, b, w)))) else (some ((0 : Int32), d, u, b, w))))
set_option maxHeartbeats 1000000 in
set_option maxRecDepth 100000 in
theorem jl_acts_1490  (X : LCx p l s m args meth c cL_acts 19 D cA A) (hE : ∀ (z : Int32 × Dk × Dk × (Nat → Int32) × (Nat → Int32)) (q tq : Nat → Nat → Nat) (pc : Nat) (H : Heap) (locs : List Loc) (ls : Array Slot) (cells slots : Nat), (z.1 = 0 ∨ z.1 = 1) → decode cL_acts pc = .ok (.ireturn, 1) → cells ≤ 81 → slots ≤ 772 → St D A s.heap (aW q0 q cA z.2.1 t0 tq z.2.2.1 ab aw z.2.2.2.1 z.2.2.2.2) H locs → W p l e rm_L_acts s m args below meth c H locs cells slots (Qf z) (F0 m pc ls [.int z.1])) (d : Dk) (u : Dk) (b : (Nat → Int32)) (w : (Nat → Int32)) (x11 : Int32) (z : Int32 × Dk × Dk × (Nat → Int32) × (Nat → Int32)) (hf : f_L_acts_1490 d u b w x11 = some z) (H : Heap) (locs : List Loc) (ls : Array Slot) (h : St D A s.heap (aW q0 q cA d t0 tq u ab aw b w) H locs) (hl : lv_has ls 19 [(0, .ref (q0 0)), (11, .int x11)]) : W p l e rm_L_acts s m args below meth c H locs 75 736 (Qf z) (F0 m 1490 ls []) := by
  obtain ⟨C, hl0, hXA, hN⟩ := id X
  obtain ⟨hx, hb, hml, hown, hts, hK, hlk⟩ := id C
  rw [f_L_acts_1490] at hf
  refine lv_aload_n (pc := 1490) hx hb dL_acts_1490 rfl (lv_at hl 0 rfl) ?_
  refine lv_iload (pc := 1491) hx hb dL_acts_1491 (lv_at hl 1 rfl) ?_
  obtain ⟨z1, hc1, hf⟩ := bdS hf
  refine call_H (pc := 1493) (As := [.ref (q0 0), .int x11]) (rest := []) (ws' := (aW q0 q cA d t0 tq u ab aw b w)) X h (vm_delegateToday d x11 hc1) cx_L_154 (aW_o q0 q cA d t0 tq u ab aw b w) (aW_o q0 q cA d t0 tq u ab aw b w).symm rfl rfl rfl hl.1 (Nat.le_of_ble_eq_true rfl) dL_acts_1493 ⟨(Nat.le_of_ble_eq_true rfl), (Nat.le_of_ble_eq_true rfl)⟩ rfl rfl ⟨(Nat.le_of_ble_eq_true rfl), (Nat.le_of_ble_eq_true rfl)⟩ (fun H locs h => ?_)
  refine W.eq (g2 := F0 m 1496 ls [.int z1]) rfl ?_
  refine lv_iconst (pc := 1496) (v := -1) hx hb dL_acts_1496 (by decide) ?_
  refine lv_icmp_ne (pc := 1497) (tgt := 1515) hx hb dL_acts_1497 (by decide) (fun c9 => ?_) (fun c9 => ?_)
  · have hf := ifF c9 hf
    refine lv_iconst (pc := 1515) (v := 0) hx hb dL_acts_1515 (by decide) ?_
    cases hf
    exact hE ((0 : Int32), d, u, b, w) q tq 1516 _ _ _ _ _ (Or.inl rfl) dL_acts_1516 (Nat.le_of_ble_eq_true rfl) (Nat.le_of_ble_eq_true rfl) h
  · have hf := ifT c9 hf
    refine lv_aload_n (pc := 1500) hx hb dL_acts_1500 rfl (lv_at hl 0 rfl) ?_
    refine lv_iload (pc := 1501) hx hb dL_acts_1501 (lv_at hl 1 rfl) ?_
    obtain ⟨z2, hc2, hf⟩ := bdS hf
    refine call_H (pc := 1503) (As := [.ref (q0 0), .int x11]) (rest := []) (ws' := (aW q0 q cA z2.2 t0 tq u ab aw b w)) X h (vm_revoke d x11 hc2) cx_L_215 (aW_o q0 q cA d t0 tq u ab aw b w) (aW_o q0 q cA z2.2 t0 tq u ab aw b w).symm (kW_fst _ _ _ _ _ (nm_revoke hc2)) rfl rfl hl.1 (Nat.le_of_ble_eq_true rfl) dL_acts_1503 ⟨(Nat.le_of_ble_eq_true rfl), (Nat.le_of_ble_eq_true rfl)⟩ rfl rfl ⟨(Nat.le_of_ble_eq_true rfl), (Nat.le_of_ble_eq_true rfl)⟩ (fun H locs h => ?_)
    refine W.eq (g2 := F0 m 1506 ls [.int z2.1]) rfl ?_
    refine lv_ldc (pc := 1506) (v := -1000003) hx hb hown (hts _ kc_L_18) dL_acts_1506 ?_
    refine lv_icmp_ne (pc := 1508) (tgt := 1515) hx hb dL_acts_1508 (by decide) (fun c9 => ?_) (fun c9 => ?_)
    · have hf := ifF c9 hf
      refine lv_iconst (pc := 1515) (v := 0) hx hb dL_acts_1515 (by decide) ?_
      cases hf
      exact hE ((0 : Int32), z2.2, u, b, w) q tq 1516 _ _ _ _ _ (Or.inl rfl) dL_acts_1516 (Nat.le_of_ble_eq_true rfl) (Nat.le_of_ble_eq_true rfl) h
    · have hf := ifT c9 hf
      refine lv_iconst (pc := 1511) (v := 1) hx hb dL_acts_1511 (by decide) ?_
      refine lv_goto (pc := 1512) (tgt := 1516) hx hb dL_acts_1512 (by decide) ?_
      cases hf
      exact hE ((1 : Int32), z2.2, u, b, w) q tq 1516 _ _ _ _ _ (Or.inr rfl) dL_acts_1516 (Nat.le_of_ble_eq_true rfl) (Nat.le_of_ble_eq_true rfl) h
def f_L_acts_1426 (d : Dk) (u : Dk) (b : (Nat → Int32)) (w : (Nat → Int32)) (s0 : Int32) (s1 : Int32) : Option (Int32 × Dk × Dk × (Nat → Int32) × (Nat → Int32)) := (if s1 = s0 then (some ((1 : Int32), d, u, b, w)) else (some ((0 : Int32), d, u, b, w)))
set_option maxHeartbeats 1000000 in
set_option maxRecDepth 100000 in
theorem jl_acts_1426  (X : LCx p l s m args meth c cL_acts 19 D cA A) (hE : ∀ (z : Int32 × Dk × Dk × (Nat → Int32) × (Nat → Int32)) (q tq : Nat → Nat → Nat) (pc : Nat) (H : Heap) (locs : List Loc) (ls : Array Slot) (cells slots : Nat), (z.1 = 0 ∨ z.1 = 1) → decode cL_acts pc = .ok (.ireturn, 1) → cells ≤ 81 → slots ≤ 772 → St D A s.heap (aW q0 q cA z.2.1 t0 tq z.2.2.1 ab aw z.2.2.2.1 z.2.2.2.2) H locs → W p l e rm_L_acts s m args below meth c H locs cells slots (Qf z) (F0 m pc ls [.int z.1])) (d : Dk) (u : Dk) (b : (Nat → Int32)) (w : (Nat → Int32)) (s0 : Int32) (s1 : Int32) (z : Int32 × Dk × Dk × (Nat → Int32) × (Nat → Int32)) (hf : f_L_acts_1426 d u b w s0 s1 = some z) (H : Heap) (locs : List Loc) (ls : Array Slot) (h : St D A s.heap (aW q0 q cA d t0 tq u ab aw b w) H locs) (hl : lv_has ls 19 []) : W p l e rm_L_acts s m args below meth c H locs 73 724 (Qf z) (F0 m 1426 ls [.int s0, .int s1]) := by
  obtain ⟨C, hl0, hXA, hN⟩ := id X
  obtain ⟨hx, hb, hml, hown, hts, hK, hlk⟩ := id C
  rw [f_L_acts_1426] at hf
  refine lv_icmp_ne (pc := 1426) (tgt := 1443) hx hb dL_acts_1426 (by decide) (fun c9 => ?_) (fun c9 => ?_)
  · have hf := ifF c9 hf
    refine lv_iconst (pc := 1443) (v := 0) hx hb dL_acts_1443 (by decide) ?_
    cases hf
    exact hE ((0 : Int32), d, u, b, w) q tq 1444 _ _ _ _ _ (Or.inl rfl) dL_acts_1444 (Nat.le_of_ble_eq_true rfl) (Nat.le_of_ble_eq_true rfl) h
  · have hf := ifT c9 hf
    refine lv_goto (pc := 1429) (tgt := 1439) hx hb dL_acts_1429 (by decide) ?_
    refine lv_iconst (pc := 1439) (v := 1) hx hb dL_acts_1439 (by decide) ?_
    refine lv_goto (pc := 1440) (tgt := 1444) hx hb dL_acts_1440 (by decide) ?_
    cases hf
    exact hE ((1 : Int32), d, u, b, w) q tq 1444 _ _ _ _ _ (Or.inr rfl) dL_acts_1444 (Nat.le_of_ble_eq_true rfl) (Nat.le_of_ble_eq_true rfl) h
def f_L_acts_1350 (d : Dk) (u : Dk) (b : (Nat → Int32)) (w : (Nat → Int32)) (x11 : Int32) (x13 : Int32) (x14 : Int32) (x15 : Int32) (x16 : Int32) (s0 : Int32) : Option (Int32 × Dk × Dk × (Nat → Int32) × (Nat → Int32)) := ((gm_delegate d x11 x13 x14 x15 x16).bind fun z1 => ((gm_delegate u x11 x13 x14 x15 x16).bind fun z2 => (if z2.1 = z1.1 then (if s0 = 0 then (if z1.1 = (-1000002 : Int32) then (some ((1 : Int32), z1.2, z2.2, b, w)) else (some ((0 : Int32), z1.2, z2.2, b, w))) else (if z1.1 < (-1 : Int32) then (some ((0 : Int32), z1.2, z2.2, b, w)) else (if (8 : Int32) ≤ z1.1 then (some ((0 : Int32), z1.2, z2.2, b, w)) else ((gm_delegateToday z1.2 x11).bind fun z3 => ((gn_today z1.2).bind fun z4 => (if x14 = z4 then (f_L_acts_1426 z1.2 z2.2 b w x13 z3) else (f_L_acts_1426 z1.2 z2.2 b w (-1 : Int32) z3))))))) else (some ((0 : Int32), z1.2, z2.2, b, w)))))
set_option maxHeartbeats 1000000 in
set_option maxRecDepth 100000 in
theorem jl_acts_1350  (X : LCx p l s m args meth c cL_acts 19 D cA A) (hE : ∀ (z : Int32 × Dk × Dk × (Nat → Int32) × (Nat → Int32)) (q tq : Nat → Nat → Nat) (pc : Nat) (H : Heap) (locs : List Loc) (ls : Array Slot) (cells slots : Nat), (z.1 = 0 ∨ z.1 = 1) → decode cL_acts pc = .ok (.ireturn, 1) → cells ≤ 81 → slots ≤ 772 → St D A s.heap (aW q0 q cA z.2.1 t0 tq z.2.2.1 ab aw z.2.2.2.1 z.2.2.2.2) H locs → W p l e rm_L_acts s m args below meth c H locs cells slots (Qf z) (F0 m pc ls [.int z.1])) (d : Dk) (u : Dk) (b : (Nat → Int32)) (w : (Nat → Int32)) (x11 : Int32) (x13 : Int32) (x14 : Int32) (x15 : Int32) (x16 : Int32) (s0 : Int32) (z : Int32 × Dk × Dk × (Nat → Int32) × (Nat → Int32)) (hf : f_L_acts_1350 d u b w x11 x13 x14 x15 x16 s0 = some z) (H : Heap) (locs : List Loc) (ls : Array Slot) (h : St D A s.heap (aW q0 q cA d t0 tq u ab aw b w) H locs) (hl : lv_has ls 19 [(0, .ref (q0 0)), (1, .ref (t0 0)), (11, .int x11), (13, .int x13), (14, .int x14), (15, .int x15), (16, .int x16)]) : W p l e rm_L_acts s m args below meth c H locs 70 706 (Qf z) (F0 m 1350 ls [.int s0]) := by
  obtain ⟨C, hl0, hXA, hN⟩ := id X
  obtain ⟨hx, hb, hml, hown, hts, hK, hlk⟩ := id C
  rw [f_L_acts_1350] at hf
  refine lv_istore (pc := 1350) (lv' := [(17, .int s0), (0, .ref (q0 0)), (1, .ref (t0 0)), (11, .int x11), (13, .int x13), (14, .int x14), (15, .int x15), (16, .int x16)]) hx hb dL_acts_1350 hl (by decide) rfl (fun ls hl => ?_)
  refine lv_aload_n (pc := 1352) hx hb dL_acts_1352 rfl (lv_at hl 1 rfl) ?_
  refine lv_iload (pc := 1353) hx hb dL_acts_1353 (lv_at hl 3 rfl) ?_
  refine lv_iload (pc := 1355) hx hb dL_acts_1355 (lv_at hl 4 rfl) ?_
  refine lv_iload (pc := 1357) hx hb dL_acts_1357 (lv_at hl 5 rfl) ?_
  refine lv_iload (pc := 1359) hx hb dL_acts_1359 (lv_at hl 6 rfl) ?_
  refine lv_iload (pc := 1361) hx hb dL_acts_1361 (lv_at hl 7 rfl) ?_
  obtain ⟨z1, hc1, hf⟩ := bdS hf
  refine call_H (pc := 1363) (As := [.ref (q0 0), .int x11, .int x13, .int x14, .int x15, .int x16]) (rest := []) (ws' := (aW q0 q cA z1.2 t0 tq u ab aw b w)) X h (vm_delegate d x11 x13 x14 x15 x16 hc1) cx_L_212 (aW_o q0 q cA d t0 tq u ab aw b w) (aW_o q0 q cA z1.2 t0 tq u ab aw b w).symm (kW_fst _ _ _ _ _ (nm_delegate hc1)) rfl rfl hl.1 (Nat.le_of_ble_eq_true rfl) dL_acts_1363 ⟨(Nat.le_of_ble_eq_true rfl), (Nat.le_of_ble_eq_true rfl)⟩ rfl rfl ⟨(Nat.le_of_ble_eq_true rfl), (Nat.le_of_ble_eq_true rfl)⟩ (fun H locs h => ?_)
  refine W.eq (g2 := F0 m 1366 ls [.int z1.1]) rfl ?_
  refine lv_istore (pc := 1366) (lv' := [(18, .int z1.1), (17, .int s0), (0, .ref (q0 0)), (1, .ref (t0 0)), (11, .int x11), (13, .int x13), (14, .int x14), (15, .int x15), (16, .int x16)]) hx hb dL_acts_1366 hl (by decide) rfl (fun ls hl => ?_)
  refine lv_aload_n (pc := 1368) hx hb dL_acts_1368 rfl (lv_at hl 3 rfl) ?_
  refine lv_iload (pc := 1369) hx hb dL_acts_1369 (lv_at hl 4 rfl) ?_
  refine lv_iload (pc := 1371) hx hb dL_acts_1371 (lv_at hl 5 rfl) ?_
  refine lv_iload (pc := 1373) hx hb dL_acts_1373 (lv_at hl 6 rfl) ?_
  refine lv_iload (pc := 1375) hx hb dL_acts_1375 (lv_at hl 7 rfl) ?_
  refine lv_iload (pc := 1377) hx hb dL_acts_1377 (lv_at hl 8 rfl) ?_
  obtain ⟨z2, hc2, hf⟩ := bdS hf
  refine call_H (pc := 1379) (As := [.ref (t0 0), .int x11, .int x13, .int x14, .int x15, .int x16]) (rest := []) (ws' := (aW q0 q cA z1.2 t0 tq z2.2 ab aw b w)) X h (vm_delegate u x11 x13 x14 x15 x16 hc2) cx_L_212 (aW_t q0 q cA z1.2 t0 tq u ab aw b w) (aW_t q0 q cA z1.2 t0 tq z2.2 ab aw b w).symm (kW_fst _ _ _ _ _ (nm_delegate hc2)) rfl rfl hl.1 (Nat.le_of_ble_eq_true rfl) dL_acts_1379 ⟨(Nat.le_of_ble_eq_true rfl), (Nat.le_of_ble_eq_true rfl)⟩ rfl rfl ⟨(Nat.le_of_ble_eq_true rfl), (Nat.le_of_ble_eq_true rfl)⟩ (fun H locs h => ?_)
  refine W.eq (g2 := F0 m 1382 ls [.int z2.1]) rfl ?_
  refine lv_iload (pc := 1382) hx hb dL_acts_1382 (lv_at hl 0 rfl) ?_
  refine lv_icmp_ne (pc := 1384) (tgt := 1443) hx hb dL_acts_1384 (by decide) (fun c9 => ?_) (fun c9 => ?_)
  · have hf := ifF c9 hf
    refine lv_iconst (pc := 1443) (v := 0) hx hb dL_acts_1443 (by decide) ?_
    cases hf
    exact hE ((0 : Int32), z1.2, z2.2, b, w) q tq 1444 _ _ _ _ _ (Or.inl rfl) dL_acts_1444 (Nat.le_of_ble_eq_true rfl) (Nat.le_of_ble_eq_true rfl) h
  · have hf := ifT c9 hf
    refine lv_iload (pc := 1387) hx hb dL_acts_1387 (lv_at hl 1 rfl) ?_
    refine lv_if_eq (pc := 1389) (tgt := 1432) hx hb dL_acts_1389 (by decide) (fun c9 => ?_) (fun c9 => ?_)
    · have hf := ifT c9 hf
      refine lv_iload (pc := 1432) hx hb dL_acts_1432 (lv_at hl 0 rfl) ?_
      refine lv_ldc (pc := 1434) (v := -1000002) hx hb hown (hts _ kc_L_28) dL_acts_1434 ?_
      refine lv_icmp_ne (pc := 1436) (tgt := 1443) hx hb dL_acts_1436 (by decide) (fun c9 => ?_) (fun c9 => ?_)
      · have hf := ifF c9 hf
        refine lv_iconst (pc := 1443) (v := 0) hx hb dL_acts_1443 (by decide) ?_
        cases hf
        exact hE ((0 : Int32), z1.2, z2.2, b, w) q tq 1444 _ _ _ _ _ (Or.inl rfl) dL_acts_1444 (Nat.le_of_ble_eq_true rfl) (Nat.le_of_ble_eq_true rfl) h
      · have hf := ifT c9 hf
        refine lv_iconst (pc := 1439) (v := 1) hx hb dL_acts_1439 (by decide) ?_
        refine lv_goto (pc := 1440) (tgt := 1444) hx hb dL_acts_1440 (by decide) ?_
        cases hf
        exact hE ((1 : Int32), z1.2, z2.2, b, w) q tq 1444 _ _ _ _ _ (Or.inr rfl) dL_acts_1444 (Nat.le_of_ble_eq_true rfl) (Nat.le_of_ble_eq_true rfl) h
    · have hf := ifF c9 hf
      refine lv_iload (pc := 1392) hx hb dL_acts_1392 (lv_at hl 0 rfl) ?_
      refine lv_iconst (pc := 1394) (v := -1) hx hb dL_acts_1394 (by decide) ?_
      refine lv_icmp_lt (pc := 1395) (tgt := 1443) hx hb dL_acts_1395 (by decide) (fun c9 => ?_) (fun c9 => ?_)
      · have hf := ifT c9 hf
        refine lv_iconst (pc := 1443) (v := 0) hx hb dL_acts_1443 (by decide) ?_
        cases hf
        exact hE ((0 : Int32), z1.2, z2.2, b, w) q tq 1444 _ _ _ _ _ (Or.inl rfl) dL_acts_1444 (Nat.le_of_ble_eq_true rfl) (Nat.le_of_ble_eq_true rfl) h
      · have hf := ifF c9 hf
        refine lv_iload (pc := 1398) hx hb dL_acts_1398 (lv_at hl 0 rfl) ?_
        refine lv_bipush (pc := 1400) (v := 8) hx hb dL_acts_1400 (by decide) ?_
        refine lv_icmp_ge (pc := 1402) (tgt := 1443) hx hb dL_acts_1402 (by decide) (fun c9 => ?_) (fun c9 => ?_)
        · have hf := ifT c9 hf
          refine lv_iconst (pc := 1443) (v := 0) hx hb dL_acts_1443 (by decide) ?_
          cases hf
          exact hE ((0 : Int32), z1.2, z2.2, b, w) q tq 1444 _ _ _ _ _ (Or.inl rfl) dL_acts_1444 (Nat.le_of_ble_eq_true rfl) (Nat.le_of_ble_eq_true rfl) h
        · have hf := ifF c9 hf
          refine lv_aload_n (pc := 1405) hx hb dL_acts_1405 rfl (lv_at hl 2 rfl) ?_
          refine lv_iload (pc := 1406) hx hb dL_acts_1406 (lv_at hl 4 rfl) ?_
          obtain ⟨z3, hc3, hf⟩ := bdS hf
          refine call_H (pc := 1408) (As := [.ref (q0 0), .int x11]) (rest := []) (ws' := (aW q0 q cA z1.2 t0 tq z2.2 ab aw b w)) X h (vm_delegateToday z1.2 x11 hc3) cx_L_154 (aW_o q0 q cA z1.2 t0 tq z2.2 ab aw b w) (aW_o q0 q cA z1.2 t0 tq z2.2 ab aw b w).symm rfl rfl rfl hl.1 (Nat.le_of_ble_eq_true rfl) dL_acts_1408 ⟨(Nat.le_of_ble_eq_true rfl), (Nat.le_of_ble_eq_true rfl)⟩ rfl rfl ⟨(Nat.le_of_ble_eq_true rfl), (Nat.le_of_ble_eq_true rfl)⟩ (fun H locs h => ?_)
          refine W.eq (g2 := F0 m 1411 ls [.int z3]) rfl ?_
          refine lv_iload (pc := 1411) hx hb dL_acts_1411 (lv_at hl 6 rfl) ?_
          refine lv_aload_n (pc := 1413) hx hb dL_acts_1413 rfl (lv_at hl 2 rfl) ?_
          obtain ⟨z4, hc4, hf⟩ := bdS hf
          obtain ⟨hn4, hv4⟩ := gn_today_s hc4
          refine call_VRp (pc := 1414) (rest := [.int x14, .int z3]) (As := []) C h (k_X4_today hn4 (q0 := q0) (q := q) z1.2.2.1 z1.2.2.2 hv4) cw_L_130 (kW_c0 q0 q cA z1.2) rfl (aW_o ..) rfl rfl hl.1 (Nat.le_of_ble_eq_true rfl) dL_acts_1414 ⟨(Nat.le_of_ble_eq_true rfl), (Nat.le_of_ble_eq_true rfl)⟩ rfl rfl ⟨(Nat.le_of_ble_eq_true rfl), (Nat.le_of_ble_eq_true rfl)⟩ (fun H locs h => ?_)
          refine W.eq (g2 := F0 m 1417 ls [.int z4, .int x14, .int z3]) rfl ?_
          refine lv_icmp_ne (pc := 1417) (tgt := 1425) hx hb dL_acts_1417 (by decide) (fun c9 => ?_) (fun c9 => ?_)
          · have hf := ifF c9 hf
            refine lv_iconst (pc := 1425) (v := -1) hx hb dL_acts_1425 (by decide) ?_
            exact jl_acts_1426 X hE   _ _ _ _ _ _ _ hf _ _ _ h (lv_sub hl [] rfl)
          · have hf := ifT c9 hf
            refine lv_iload (pc := 1420) hx hb dL_acts_1420 (lv_at hl 5 rfl) ?_
            refine lv_goto (pc := 1422) (tgt := 1426) hx hb dL_acts_1422 (by decide) ?_
            exact jl_acts_1426 X hE   _ _ _ _ _ _ _ hf _ _ _ h (lv_sub hl [] rfl)
def f_L_acts_1349 (d : Dk) (u : Dk) (b : (Nat → Int32)) (w : (Nat → Int32)) (x11 : Int32) (x13 : Int32) (x14 : Int32) (x15 : Int32) (x16 : Int32) : Option (Int32 × Dk × Dk × (Nat → Int32) × (Nat → Int32)) := (f_L_acts_1350 d u b w x11 x13 x14 x15 x16 (0 : Int32))
set_option maxHeartbeats 1000000 in
set_option maxRecDepth 100000 in
theorem jl_acts_1349  (X : LCx p l s m args meth c cL_acts 19 D cA A) (hE : ∀ (z : Int32 × Dk × Dk × (Nat → Int32) × (Nat → Int32)) (q tq : Nat → Nat → Nat) (pc : Nat) (H : Heap) (locs : List Loc) (ls : Array Slot) (cells slots : Nat), (z.1 = 0 ∨ z.1 = 1) → decode cL_acts pc = .ok (.ireturn, 1) → cells ≤ 81 → slots ≤ 772 → St D A s.heap (aW q0 q cA z.2.1 t0 tq z.2.2.1 ab aw z.2.2.2.1 z.2.2.2.2) H locs → W p l e rm_L_acts s m args below meth c H locs cells slots (Qf z) (F0 m pc ls [.int z.1])) (d : Dk) (u : Dk) (b : (Nat → Int32)) (w : (Nat → Int32)) (x11 : Int32) (x13 : Int32) (x14 : Int32) (x15 : Int32) (x16 : Int32) (z : Int32 × Dk × Dk × (Nat → Int32) × (Nat → Int32)) (hf : f_L_acts_1349 d u b w x11 x13 x14 x15 x16 = some z) (H : Heap) (locs : List Loc) (ls : Array Slot) (h : St D A s.heap (aW q0 q cA d t0 tq u ab aw b w) H locs) (hl : lv_has ls 19 [(0, .ref (q0 0)), (1, .ref (t0 0)), (11, .int x11), (13, .int x13), (14, .int x14), (15, .int x15), (16, .int x16)]) : W p l e rm_L_acts s m args below meth c H locs 70 706 (Qf z) (F0 m 1349 ls []) := by
  obtain ⟨C, hl0, hXA, hN⟩ := id X
  obtain ⟨hx, hb, hml, hown, hts, hK, hlk⟩ := id C
  rw [f_L_acts_1349] at hf
  refine lv_iconst (pc := 1349) (v := 0) hx hb dL_acts_1349 (by decide) ?_
  exact jl_acts_1350 X hE   _ _ _ _ _ _ _ _ _ _ _ hf _ _ _ h (lv_sub hl [0, 1, 2, 3, 4, 5, 6] rfl)
def f_L_acts_1236 (d : Dk) (u : Dk) (b : (Nat → Int32)) (w : (Nat → Int32)) (s0 : Int32) (s1 : Int32) : Option (Int32 × Dk × Dk × (Nat → Int32) × (Nat → Int32)) := (if s1 = s0 then (some ((1 : Int32), d, u, b, w)) else (some ((0 : Int32), d, u, b, w)))
set_option maxHeartbeats 1000000 in
set_option maxRecDepth 100000 in
theorem jl_acts_1236  (X : LCx p l s m args meth c cL_acts 19 D cA A) (hE : ∀ (z : Int32 × Dk × Dk × (Nat → Int32) × (Nat → Int32)) (q tq : Nat → Nat → Nat) (pc : Nat) (H : Heap) (locs : List Loc) (ls : Array Slot) (cells slots : Nat), (z.1 = 0 ∨ z.1 = 1) → decode cL_acts pc = .ok (.ireturn, 1) → cells ≤ 81 → slots ≤ 772 → St D A s.heap (aW q0 q cA z.2.1 t0 tq z.2.2.1 ab aw z.2.2.2.1 z.2.2.2.2) H locs → W p l e rm_L_acts s m args below meth c H locs cells slots (Qf z) (F0 m pc ls [.int z.1])) (d : Dk) (u : Dk) (b : (Nat → Int32)) (w : (Nat → Int32)) (s0 : Int32) (s1 : Int32) (z : Int32 × Dk × Dk × (Nat → Int32) × (Nat → Int32)) (hf : f_L_acts_1236 d u b w s0 s1 = some z) (H : Heap) (locs : List Loc) (ls : Array Slot) (h : St D A s.heap (aW q0 q cA d t0 tq u ab aw b w) H locs) (hl : lv_has ls 19 []) : W p l e rm_L_acts s m args below meth c H locs 70 706 (Qf z) (F0 m 1236 ls [.int s0, .int s1]) := by
  obtain ⟨C, hl0, hXA, hN⟩ := id X
  obtain ⟨hx, hb, hml, hown, hts, hK, hlk⟩ := id C
  rw [f_L_acts_1236] at hf
  refine lv_icmp_ne (pc := 1236) (tgt := 1243) hx hb dL_acts_1236 (by decide) (fun c9 => ?_) (fun c9 => ?_)
  · have hf := ifF c9 hf
    refine lv_iconst (pc := 1243) (v := 0) hx hb dL_acts_1243 (by decide) ?_
    cases hf
    exact hE ((0 : Int32), d, u, b, w) q tq 1244 _ _ _ _ _ (Or.inl rfl) dL_acts_1244 (Nat.le_of_ble_eq_true rfl) (Nat.le_of_ble_eq_true rfl) h
  · have hf := ifT c9 hf
    refine lv_iconst (pc := 1239) (v := 1) hx hb dL_acts_1239 (by decide) ?_
    refine lv_goto (pc := 1240) (tgt := 1244) hx hb dL_acts_1240 (by decide) ?_
    cases hf
    exact hE ((1 : Int32), d, u, b, w) q tq 1244 _ _ _ _ _ (Or.inr rfl) dL_acts_1244 (Nat.le_of_ble_eq_true rfl) (Nat.le_of_ble_eq_true rfl) h
def f_L_acts_1234 (d : Dk) (u : Dk) (b : (Nat → Int32)) (w : (Nat → Int32)) (s0 : Int32) : Option (Int32 × Dk × Dk × (Nat → Int32) × (Nat → Int32)) := (f_L_acts_1236 d u b w (-1000001 : Int32) s0)
set_option maxHeartbeats 1000000 in
set_option maxRecDepth 100000 in
theorem jl_acts_1234  (X : LCx p l s m args meth c cL_acts 19 D cA A) (hE : ∀ (z : Int32 × Dk × Dk × (Nat → Int32) × (Nat → Int32)) (q tq : Nat → Nat → Nat) (pc : Nat) (H : Heap) (locs : List Loc) (ls : Array Slot) (cells slots : Nat), (z.1 = 0 ∨ z.1 = 1) → decode cL_acts pc = .ok (.ireturn, 1) → cells ≤ 81 → slots ≤ 772 → St D A s.heap (aW q0 q cA z.2.1 t0 tq z.2.2.1 ab aw z.2.2.2.1 z.2.2.2.2) H locs → W p l e rm_L_acts s m args below meth c H locs cells slots (Qf z) (F0 m pc ls [.int z.1])) (d : Dk) (u : Dk) (b : (Nat → Int32)) (w : (Nat → Int32)) (s0 : Int32) (z : Int32 × Dk × Dk × (Nat → Int32) × (Nat → Int32)) (hf : f_L_acts_1234 d u b w s0 = some z) (H : Heap) (locs : List Loc) (ls : Array Slot) (h : St D A s.heap (aW q0 q cA d t0 tq u ab aw b w) H locs) (hl : lv_has ls 19 []) : W p l e rm_L_acts s m args below meth c H locs 70 706 (Qf z) (F0 m 1234 ls [.int s0]) := by
  obtain ⟨C, hl0, hXA, hN⟩ := id X
  obtain ⟨hx, hb, hml, hown, hts, hK, hlk⟩ := id C
  rw [f_L_acts_1234] at hf
  refine lv_ldc (pc := 1234) (v := -1000001) hx hb hown (hts _ kc_L_25) dL_acts_1234 ?_
  exact jl_acts_1236 X hE   _ _ _ _ _ _ _ hf _ _ _ h (lv_sub hl [] rfl)
def f_L_acts_1204 (d : Dk) (u : Dk) (b : (Nat → Int32)) (w : (Nat → Int32)) (s0 : Int32) (s1 : Int32) : Option (Int32 × Dk × Dk × (Nat → Int32) × (Nat → Int32)) := (if s1 = s0 then (some ((1 : Int32), d, u, b, w)) else (some ((0 : Int32), d, u, b, w)))
set_option maxHeartbeats 1000000 in
set_option maxRecDepth 100000 in
theorem jl_acts_1204  (X : LCx p l s m args meth c cL_acts 19 D cA A) (hE : ∀ (z : Int32 × Dk × Dk × (Nat → Int32) × (Nat → Int32)) (q tq : Nat → Nat → Nat) (pc : Nat) (H : Heap) (locs : List Loc) (ls : Array Slot) (cells slots : Nat), (z.1 = 0 ∨ z.1 = 1) → decode cL_acts pc = .ok (.ireturn, 1) → cells ≤ 81 → slots ≤ 772 → St D A s.heap (aW q0 q cA z.2.1 t0 tq z.2.2.1 ab aw z.2.2.2.1 z.2.2.2.2) H locs → W p l e rm_L_acts s m args below meth c H locs cells slots (Qf z) (F0 m pc ls [.int z.1])) (d : Dk) (u : Dk) (b : (Nat → Int32)) (w : (Nat → Int32)) (s0 : Int32) (s1 : Int32) (z : Int32 × Dk × Dk × (Nat → Int32) × (Nat → Int32)) (hf : f_L_acts_1204 d u b w s0 s1 = some z) (H : Heap) (locs : List Loc) (ls : Array Slot) (h : St D A s.heap (aW q0 q cA d t0 tq u ab aw b w) H locs) (hl : lv_has ls 19 []) : W p l e rm_L_acts s m args below meth c H locs 70 706 (Qf z) (F0 m 1204 ls [.int s0, .int s1]) := by
  obtain ⟨C, hl0, hXA, hN⟩ := id X
  obtain ⟨hx, hb, hml, hown, hts, hK, hlk⟩ := id C
  rw [f_L_acts_1204] at hf
  refine lv_icmp_ne (pc := 1204) (tgt := 1243) hx hb dL_acts_1204 (by decide) (fun c9 => ?_) (fun c9 => ?_)
  · have hf := ifF c9 hf
    refine lv_iconst (pc := 1243) (v := 0) hx hb dL_acts_1243 (by decide) ?_
    cases hf
    exact hE ((0 : Int32), d, u, b, w) q tq 1244 _ _ _ _ _ (Or.inl rfl) dL_acts_1244 (Nat.le_of_ble_eq_true rfl) (Nat.le_of_ble_eq_true rfl) h
  · have hf := ifT c9 hf
    refine lv_goto (pc := 1207) (tgt := 1239) hx hb dL_acts_1207 (by decide) ?_
    refine lv_iconst (pc := 1239) (v := 1) hx hb dL_acts_1239 (by decide) ?_
    refine lv_goto (pc := 1240) (tgt := 1244) hx hb dL_acts_1240 (by decide) ?_
    cases hf
    exact hE ((1 : Int32), d, u, b, w) q tq 1244 _ _ _ _ _ (Or.inr rfl) dL_acts_1244 (Nat.le_of_ble_eq_true rfl) (Nat.le_of_ble_eq_true rfl) h
def f_L_acts_1173 (d : Dk) (u : Dk) (b : (Nat → Int32)) (w : (Nat → Int32)) (x7 : Int32) (x8 : Int32) (x10 : Int32) (x12 : Int32) (x13 : Int32) (x15 : Int32) (x16 : Int32) (s0 : Int32) : Option (Int32 × Dk × Dk × (Nat → Int32) × (Nat → Int32)) := (if s0 = x15 then (if x16 = 0 then (if x8 = 0 then (f_L_acts_1234 d u b w x15) else (if x13 = 0 then (if x10 ≤ x12 then (f_L_acts_1234 d u b w x15) else (f_L_acts_1236 d u b w (-1000003 : Int32) x15)) else (f_L_acts_1236 d u b w (-1000003 : Int32) x15))) else (if x15 ≤ 0 then (some ((0 : Int32), d, u, b, w)) else ((gm_state d x7).bind fun z1 => (if x13 = 0 then (f_L_acts_1204 d u b w (3 : Int32) z1) else (f_L_acts_1204 d u b w (4 : Int32) z1))))) else (some ((0 : Int32), d, u, b, w)))
set_option maxHeartbeats 1000000 in
set_option maxRecDepth 100000 in
theorem jl_acts_1173  (X : LCx p l s m args meth c cL_acts 19 D cA A) (hE : ∀ (z : Int32 × Dk × Dk × (Nat → Int32) × (Nat → Int32)) (q tq : Nat → Nat → Nat) (pc : Nat) (H : Heap) (locs : List Loc) (ls : Array Slot) (cells slots : Nat), (z.1 = 0 ∨ z.1 = 1) → decode cL_acts pc = .ok (.ireturn, 1) → cells ≤ 81 → slots ≤ 772 → St D A s.heap (aW q0 q cA z.2.1 t0 tq z.2.2.1 ab aw z.2.2.2.1 z.2.2.2.2) H locs → W p l e rm_L_acts s m args below meth c H locs cells slots (Qf z) (F0 m pc ls [.int z.1])) (d : Dk) (u : Dk) (b : (Nat → Int32)) (w : (Nat → Int32)) (x7 : Int32) (x8 : Int32) (x10 : Int32) (x12 : Int32) (x13 : Int32) (x15 : Int32) (x16 : Int32) (s0 : Int32) (z : Int32 × Dk × Dk × (Nat → Int32) × (Nat → Int32)) (hf : f_L_acts_1173 d u b w x7 x8 x10 x12 x13 x15 x16 s0 = some z) (H : Heap) (locs : List Loc) (ls : Array Slot) (h : St D A s.heap (aW q0 q cA d t0 tq u ab aw b w) H locs) (hl : lv_has ls 19 [(0, .ref (q0 0)), (7, .int x7), (8, .int x8), (10, .int x10), (12, .int x12), (13, .int x13), (15, .int x15), (16, .int x16)]) : W p l e rm_L_acts s m args below meth c H locs 69 700 (Qf z) (F0 m 1173 ls [.int s0]) := by
  obtain ⟨C, hl0, hXA, hN⟩ := id X
  obtain ⟨hx, hb, hml, hown, hts, hK, hlk⟩ := id C
  rw [f_L_acts_1173] at hf
  refine lv_iload (pc := 1173) hx hb dL_acts_1173 (lv_at hl 6 rfl) ?_
  refine lv_icmp_ne (pc := 1175) (tgt := 1243) hx hb dL_acts_1175 (by decide) (fun c9 => ?_) (fun c9 => ?_)
  · have hf := ifF c9 hf
    refine lv_iconst (pc := 1243) (v := 0) hx hb dL_acts_1243 (by decide) ?_
    cases hf
    exact hE ((0 : Int32), d, u, b, w) q tq 1244 _ _ _ _ _ (Or.inl rfl) dL_acts_1244 (Nat.le_of_ble_eq_true rfl) (Nat.le_of_ble_eq_true rfl) h
  · have hf := ifT c9 hf
    refine lv_iload (pc := 1178) hx hb dL_acts_1178 (lv_at hl 7 rfl) ?_
    refine lv_if_eq (pc := 1180) (tgt := 1210) hx hb dL_acts_1180 (by decide) (fun c9 => ?_) (fun c9 => ?_)
    · have hf := ifT c9 hf
      refine lv_iload (pc := 1210) hx hb dL_acts_1210 (lv_at hl 6 rfl) ?_
      refine lv_iload (pc := 1212) hx hb dL_acts_1212 (lv_at hl 2 rfl) ?_
      refine lv_if_eq (pc := 1214) (tgt := 1234) hx hb dL_acts_1214 (by decide) (fun c9 => ?_) (fun c9 => ?_)
      · have hf := ifT c9 hf
        exact W.widen (Nat.le_of_ble_eq_true rfl : 69 ≤ 70) (Nat.le_of_ble_eq_true rfl : 700 ≤ 706) (jl_acts_1234 X hE   _ _ _ _ _ _ hf _ _ _ h (lv_sub hl [] rfl))
      · have hf := ifF c9 hf
        refine lv_iload (pc := 1217) hx hb dL_acts_1217 (lv_at hl 5 rfl) ?_
        refine lv_if_ne (pc := 1219) (tgt := 1229) hx hb dL_acts_1219 (by decide) (fun c9 => ?_) (fun c9 => ?_)
        · have hf := ifF c9 hf
          refine lv_ldc (pc := 1229) (v := -1000003) hx hb hown (hts _ kc_L_18) dL_acts_1229 ?_
          refine lv_goto (pc := 1231) (tgt := 1236) hx hb dL_acts_1231 (by decide) ?_
          exact W.widen (Nat.le_of_ble_eq_true rfl : 69 ≤ 70) (Nat.le_of_ble_eq_true rfl : 700 ≤ 706) (jl_acts_1236 X hE   _ _ _ _ _ _ _ hf _ _ _ h (lv_sub hl [] rfl))
        · have hf := ifT c9 hf
          refine lv_iload (pc := 1222) hx hb dL_acts_1222 (lv_at hl 4 rfl) ?_
          refine lv_iload (pc := 1224) hx hb dL_acts_1224 (lv_at hl 3 rfl) ?_
          refine lv_icmp_ge (pc := 1226) (tgt := 1234) hx hb dL_acts_1226 (by decide) (fun c9 => ?_) (fun c9 => ?_)
          · have hf := ifT c9 hf
            exact W.widen (Nat.le_of_ble_eq_true rfl : 69 ≤ 70) (Nat.le_of_ble_eq_true rfl : 700 ≤ 706) (jl_acts_1234 X hE   _ _ _ _ _ _ hf _ _ _ h (lv_sub hl [] rfl))
          · have hf := ifF c9 hf
            refine lv_ldc (pc := 1229) (v := -1000003) hx hb hown (hts _ kc_L_18) dL_acts_1229 ?_
            refine lv_goto (pc := 1231) (tgt := 1236) hx hb dL_acts_1231 (by decide) ?_
            exact W.widen (Nat.le_of_ble_eq_true rfl : 69 ≤ 70) (Nat.le_of_ble_eq_true rfl : 700 ≤ 706) (jl_acts_1236 X hE   _ _ _ _ _ _ _ hf _ _ _ h (lv_sub hl [] rfl))
    · have hf := ifF c9 hf
      refine lv_iload (pc := 1183) hx hb dL_acts_1183 (lv_at hl 6 rfl) ?_
      refine lv_if_le (pc := 1185) (tgt := 1243) hx hb dL_acts_1185 (by decide) (fun c9 => ?_) (fun c9 => ?_)
      · have hf := ifT c9 hf
        refine lv_iconst (pc := 1243) (v := 0) hx hb dL_acts_1243 (by decide) ?_
        cases hf
        exact hE ((0 : Int32), d, u, b, w) q tq 1244 _ _ _ _ _ (Or.inl rfl) dL_acts_1244 (Nat.le_of_ble_eq_true rfl) (Nat.le_of_ble_eq_true rfl) h
      · have hf := ifF c9 hf
        refine lv_aload_n (pc := 1188) hx hb dL_acts_1188 rfl (lv_at hl 0 rfl) ?_
        refine lv_iload (pc := 1189) hx hb dL_acts_1189 (lv_at hl 1 rfl) ?_
        obtain ⟨z1, hc1, hf⟩ := bdS hf
        refine call_H (pc := 1191) (As := [.ref (q0 0), .int x7]) (rest := []) (ws' := (aW q0 q cA d t0 tq u ab aw b w)) X h (vm_state d x7 hc1) cx_L_136 (aW_o q0 q cA d t0 tq u ab aw b w) (aW_o q0 q cA d t0 tq u ab aw b w).symm rfl rfl rfl hl.1 (Nat.le_of_ble_eq_true rfl) dL_acts_1191 ⟨(Nat.le_of_ble_eq_true rfl), (Nat.le_of_ble_eq_true rfl)⟩ rfl rfl ⟨(Nat.le_of_ble_eq_true rfl), (Nat.le_of_ble_eq_true rfl)⟩ (fun H locs h => ?_)
        refine W.eq (g2 := F0 m 1194 ls [.int z1]) rfl ?_
        refine lv_iload (pc := 1194) hx hb dL_acts_1194 (lv_at hl 5 rfl) ?_
        refine lv_if_eq (pc := 1196) (tgt := 1203) hx hb dL_acts_1196 (by decide) (fun c9 => ?_) (fun c9 => ?_)
        · have hf := ifT c9 hf
          refine lv_iconst (pc := 1203) (v := 3) hx hb dL_acts_1203 (by decide) ?_
          exact jl_acts_1204 X hE   _ _ _ _ _ _ _ hf _ _ _ h (lv_sub hl [] rfl)
        · have hf := ifF c9 hf
          refine lv_iconst (pc := 1199) (v := 4) hx hb dL_acts_1199 (by decide) ?_
          refine lv_goto (pc := 1200) (tgt := 1204) hx hb dL_acts_1200 (by decide) ?_
          exact jl_acts_1204 X hE   _ _ _ _ _ _ _ hf _ _ _ h (lv_sub hl [] rfl)
def f_L_acts_1147 (d : Dk) (u : Dk) (b : (Nat → Int32)) (w : (Nat → Int32)) (x7 : Int32) (x8 : Int32) (x10 : Int32) (x12 : Int32) (x13 : Int32) (x14 : Int32) (x15 : Int32) (s0 : Int32) : Option (Int32 × Dk × Dk × (Nat → Int32) × (Nat → Int32)) := (if x13 = 0 then ((gm_decline u x14 x7 x12).bind fun z1 => (f_L_acts_1173 d z1.2 b w x7 x8 x10 x12 x13 x15 s0 z1.1)) else ((gm_cancel u x7).bind fun z1 => (f_L_acts_1173 d z1.2 b w x7 x8 x10 x12 x13 x15 s0 z1.1)))
set_option maxHeartbeats 1000000 in
set_option maxRecDepth 100000 in
theorem jl_acts_1147  (X : LCx p l s m args meth c cL_acts 19 D cA A) (hE : ∀ (z : Int32 × Dk × Dk × (Nat → Int32) × (Nat → Int32)) (q tq : Nat → Nat → Nat) (pc : Nat) (H : Heap) (locs : List Loc) (ls : Array Slot) (cells slots : Nat), (z.1 = 0 ∨ z.1 = 1) → decode cL_acts pc = .ok (.ireturn, 1) → cells ≤ 81 → slots ≤ 772 → St D A s.heap (aW q0 q cA z.2.1 t0 tq z.2.2.1 ab aw z.2.2.2.1 z.2.2.2.2) H locs → W p l e rm_L_acts s m args below meth c H locs cells slots (Qf z) (F0 m pc ls [.int z.1])) (d : Dk) (u : Dk) (b : (Nat → Int32)) (w : (Nat → Int32)) (x7 : Int32) (x8 : Int32) (x10 : Int32) (x12 : Int32) (x13 : Int32) (x14 : Int32) (x15 : Int32) (s0 : Int32) (z : Int32 × Dk × Dk × (Nat → Int32) × (Nat → Int32)) (hf : f_L_acts_1147 d u b w x7 x8 x10 x12 x13 x14 x15 s0 = some z) (H : Heap) (locs : List Loc) (ls : Array Slot) (h : St D A s.heap (aW q0 q cA d t0 tq u ab aw b w) H locs) (hl : lv_has ls 19 [(0, .ref (q0 0)), (1, .ref (t0 0)), (7, .int x7), (8, .int x8), (10, .int x10), (12, .int x12), (13, .int x13), (14, .int x14), (15, .int x15)]) : W p l e rm_L_acts s m args below meth c H locs 67 688 (Qf z) (F0 m 1147 ls [.int s0]) := by
  obtain ⟨C, hl0, hXA, hN⟩ := id X
  obtain ⟨hx, hb, hml, hown, hts, hK, hlk⟩ := id C
  rw [f_L_acts_1147] at hf
  refine lv_istore (pc := 1147) (lv' := [(16, .int s0), (0, .ref (q0 0)), (1, .ref (t0 0)), (7, .int x7), (8, .int x8), (10, .int x10), (12, .int x12), (13, .int x13), (14, .int x14), (15, .int x15)]) hx hb dL_acts_1147 hl (by decide) rfl (fun ls hl => ?_)
  refine lv_iload (pc := 1149) hx hb dL_acts_1149 (lv_at hl 7 rfl) ?_
  refine lv_if_eq (pc := 1151) (tgt := 1163) hx hb dL_acts_1151 (by decide) (fun c9 => ?_) (fun c9 => ?_)
  · have hf := ifT c9 hf
    refine lv_aload_n (pc := 1163) hx hb dL_acts_1163 rfl (lv_at hl 2 rfl) ?_
    refine lv_iload (pc := 1164) hx hb dL_acts_1164 (lv_at hl 8 rfl) ?_
    refine lv_iload (pc := 1166) hx hb dL_acts_1166 (lv_at hl 3 rfl) ?_
    refine lv_iload (pc := 1168) hx hb dL_acts_1168 (lv_at hl 6 rfl) ?_
    obtain ⟨z1, hc1, hf⟩ := bdS hf
    refine call_H (pc := 1170) (As := [.ref (t0 0), .int x14, .int x7, .int x12]) (rest := []) (ws' := (aW q0 q cA d t0 tq z1.2 ab aw b w)) X h (vm_decline u x14 x7 x12 hc1) cx_L_210 (aW_t q0 q cA d t0 tq u ab aw b w) (aW_t q0 q cA d t0 tq z1.2 ab aw b w).symm (kW_fst _ _ _ _ _ (nm_decline hc1)) rfl rfl hl.1 (Nat.le_of_ble_eq_true rfl) dL_acts_1170 ⟨(Nat.le_of_ble_eq_true rfl), (Nat.le_of_ble_eq_true rfl)⟩ rfl rfl ⟨(Nat.le_of_ble_eq_true rfl), (Nat.le_of_ble_eq_true rfl)⟩ (fun H locs h => ?_)
    refine W.eq (g2 := F0 m 1173 ls [.int z1.1]) rfl ?_
    exact W.widen (Nat.le_of_ble_eq_true rfl : 68 ≤ 69) (Nat.le_of_ble_eq_true rfl : 694 ≤ 700) (jl_acts_1173 X hE   _ _ _ _ _ _ _ _ _ _ _ _ _ hf _ _ _ h (lv_sub hl [1, 3, 4, 5, 6, 7, 9, 0] rfl))
  · have hf := ifF c9 hf
    refine lv_aload_n (pc := 1154) hx hb dL_acts_1154 rfl (lv_at hl 2 rfl) ?_
    refine lv_iload (pc := 1155) hx hb dL_acts_1155 (lv_at hl 3 rfl) ?_
    obtain ⟨z1, hc1, hf⟩ := bdS hf
    refine call_H (pc := 1157) (As := [.ref (t0 0), .int x7]) (rest := []) (ws' := (aW q0 q cA d t0 tq z1.2 ab aw b w)) X h (vm_cancel u x7 hc1) cx_L_208 (aW_t q0 q cA d t0 tq u ab aw b w) (aW_t q0 q cA d t0 tq z1.2 ab aw b w).symm (kW_fst _ _ _ _ _ (nm_cancel hc1)) rfl rfl hl.1 (Nat.le_of_ble_eq_true rfl) dL_acts_1157 ⟨(Nat.le_of_ble_eq_true rfl), (Nat.le_of_ble_eq_true rfl)⟩ rfl rfl ⟨(Nat.le_of_ble_eq_true rfl), (Nat.le_of_ble_eq_true rfl)⟩ (fun H locs h => ?_)
    refine W.eq (g2 := F0 m 1160 ls [.int z1.1]) rfl ?_
    refine lv_goto (pc := 1160) (tgt := 1173) hx hb dL_acts_1160 (by decide) ?_
    exact W.widen (Nat.le_of_ble_eq_true rfl : 68 ≤ 69) (Nat.le_of_ble_eq_true rfl : 694 ≤ 700) (jl_acts_1173 X hE   _ _ _ _ _ _ _ _ _ _ _ _ _ hf _ _ _ h (lv_sub hl [1, 3, 4, 5, 6, 7, 9, 0] rfl))
def f_L_acts_1146 (d : Dk) (u : Dk) (b : (Nat → Int32)) (w : (Nat → Int32)) (x7 : Int32) (x8 : Int32) (x10 : Int32) (x12 : Int32) (x13 : Int32) (x14 : Int32) (x15 : Int32) : Option (Int32 × Dk × Dk × (Nat → Int32) × (Nat → Int32)) := (f_L_acts_1147 d u b w x7 x8 x10 x12 x13 x14 x15 (0 : Int32))
set_option maxHeartbeats 1000000 in
set_option maxRecDepth 100000 in
theorem jl_acts_1146  (X : LCx p l s m args meth c cL_acts 19 D cA A) (hE : ∀ (z : Int32 × Dk × Dk × (Nat → Int32) × (Nat → Int32)) (q tq : Nat → Nat → Nat) (pc : Nat) (H : Heap) (locs : List Loc) (ls : Array Slot) (cells slots : Nat), (z.1 = 0 ∨ z.1 = 1) → decode cL_acts pc = .ok (.ireturn, 1) → cells ≤ 81 → slots ≤ 772 → St D A s.heap (aW q0 q cA z.2.1 t0 tq z.2.2.1 ab aw z.2.2.2.1 z.2.2.2.2) H locs → W p l e rm_L_acts s m args below meth c H locs cells slots (Qf z) (F0 m pc ls [.int z.1])) (d : Dk) (u : Dk) (b : (Nat → Int32)) (w : (Nat → Int32)) (x7 : Int32) (x8 : Int32) (x10 : Int32) (x12 : Int32) (x13 : Int32) (x14 : Int32) (x15 : Int32) (z : Int32 × Dk × Dk × (Nat → Int32) × (Nat → Int32)) (hf : f_L_acts_1146 d u b w x7 x8 x10 x12 x13 x14 x15 = some z) (H : Heap) (locs : List Loc) (ls : Array Slot) (h : St D A s.heap (aW q0 q cA d t0 tq u ab aw b w) H locs) (hl : lv_has ls 19 [(0, .ref (q0 0)), (1, .ref (t0 0)), (7, .int x7), (8, .int x8), (10, .int x10), (12, .int x12), (13, .int x13), (14, .int x14), (15, .int x15)]) : W p l e rm_L_acts s m args below meth c H locs 67 688 (Qf z) (F0 m 1146 ls []) := by
  obtain ⟨C, hl0, hXA, hN⟩ := id X
  obtain ⟨hx, hb, hml, hown, hts, hK, hlk⟩ := id C
  rw [f_L_acts_1146] at hf
  refine lv_iconst (pc := 1146) (v := 0) hx hb dL_acts_1146 (by decide) ?_
  exact jl_acts_1147 X hE   _ _ _ _ _ _ _ _ _ _ _ _ _ hf _ _ _ h (lv_sub hl [0, 1, 2, 3, 4, 5, 6, 7, 8] rfl)
def f_L_acts_1104 (d : Dk) (u : Dk) (b : (Nat → Int32)) (w : (Nat → Int32)) (x7 : Int32) (x8 : Int32) (x9 : Int32) (x10 : Int32) (x12 : Int32) (x13 : Int32) (x14 : Int32) (s0 : Int32) : Option (Int32 × Dk × Dk × (Nat → Int32) × (Nat → Int32)) := (if x8 = 0 then (f_L_acts_1146 d u b w x7 x8 x10 x12 x13 x14 s0) else (if x9 = (1 : Int32) then (if x13 = 0 then (if x10 ≤ x12 then (f_L_acts_1146 d u b w x7 x8 x10 x12 x13 x14 s0) else ((gm_whyNot u x14 x7 x12).bind fun z1 => (if z1 = 0 then (f_L_acts_1147 d u b w x7 x8 x10 x12 x13 x14 s0 (1 : Int32)) else (f_L_acts_1146 d u b w x7 x8 x10 x12 x13 x14 s0)))) else (f_L_acts_1147 d u b w x7 x8 x10 x12 x13 x14 s0 (1 : Int32))) else (f_L_acts_1146 d u b w x7 x8 x10 x12 x13 x14 s0)))
set_option maxHeartbeats 1000000 in
set_option maxRecDepth 100000 in
theorem jl_acts_1104  (X : LCx p l s m args meth c cL_acts 19 D cA A) (hE : ∀ (z : Int32 × Dk × Dk × (Nat → Int32) × (Nat → Int32)) (q tq : Nat → Nat → Nat) (pc : Nat) (H : Heap) (locs : List Loc) (ls : Array Slot) (cells slots : Nat), (z.1 = 0 ∨ z.1 = 1) → decode cL_acts pc = .ok (.ireturn, 1) → cells ≤ 81 → slots ≤ 772 → St D A s.heap (aW q0 q cA z.2.1 t0 tq z.2.2.1 ab aw z.2.2.2.1 z.2.2.2.2) H locs → W p l e rm_L_acts s m args below meth c H locs cells slots (Qf z) (F0 m pc ls [.int z.1])) (d : Dk) (u : Dk) (b : (Nat → Int32)) (w : (Nat → Int32)) (x7 : Int32) (x8 : Int32) (x9 : Int32) (x10 : Int32) (x12 : Int32) (x13 : Int32) (x14 : Int32) (s0 : Int32) (z : Int32 × Dk × Dk × (Nat → Int32) × (Nat → Int32)) (hf : f_L_acts_1104 d u b w x7 x8 x9 x10 x12 x13 x14 s0 = some z) (H : Heap) (locs : List Loc) (ls : Array Slot) (h : St D A s.heap (aW q0 q cA d t0 tq u ab aw b w) H locs) (hl : lv_has ls 19 [(0, .ref (q0 0)), (1, .ref (t0 0)), (7, .int x7), (8, .int x8), (9, .int x9), (10, .int x10), (12, .int x12), (13, .int x13), (14, .int x14)]) : W p l e rm_L_acts s m args below meth c H locs 66 682 (Qf z) (F0 m 1104 ls [.int s0]) := by
  obtain ⟨C, hl0, hXA, hN⟩ := id X
  obtain ⟨hx, hb, hml, hown, hts, hK, hlk⟩ := id C
  rw [f_L_acts_1104] at hf
  refine lv_istore (pc := 1104) (lv' := [(15, .int s0), (0, .ref (q0 0)), (1, .ref (t0 0)), (7, .int x7), (8, .int x8), (9, .int x9), (10, .int x10), (12, .int x12), (13, .int x13), (14, .int x14)]) hx hb dL_acts_1104 hl (by decide) rfl (fun ls hl => ?_)
  refine lv_iload (pc := 1106) hx hb dL_acts_1106 (lv_at hl 4 rfl) ?_
  refine lv_if_eq (pc := 1108) (tgt := 1146) hx hb dL_acts_1108 (by decide) (fun c9 => ?_) (fun c9 => ?_)
  · have hf := ifT c9 hf
    exact W.widen (Nat.le_of_ble_eq_true rfl : 66 ≤ 67) (Nat.le_of_ble_eq_true rfl : 682 ≤ 688) (jl_acts_1146 X hE   _ _ _ _ _ _ _ _ _ _ _ _ hf _ _ _ h (lv_sub hl [1, 2, 3, 4, 6, 7, 8, 9, 0] rfl))
  · have hf := ifF c9 hf
    refine lv_iload (pc := 1111) hx hb dL_acts_1111 (lv_at hl 5 rfl) ?_
    refine lv_iconst (pc := 1113) (v := 1) hx hb dL_acts_1113 (by decide) ?_
    refine lv_icmp_ne (pc := 1114) (tgt := 1146) hx hb dL_acts_1114 (by decide) (fun c9 => ?_) (fun c9 => ?_)
    · have hf := ifF c9 hf
      exact W.widen (Nat.le_of_ble_eq_true rfl : 66 ≤ 67) (Nat.le_of_ble_eq_true rfl : 682 ≤ 688) (jl_acts_1146 X hE   _ _ _ _ _ _ _ _ _ _ _ _ hf _ _ _ h (lv_sub hl [1, 2, 3, 4, 6, 7, 8, 9, 0] rfl))
    · have hf := ifT c9 hf
      refine lv_iload (pc := 1117) hx hb dL_acts_1117 (lv_at hl 8 rfl) ?_
      refine lv_if_ne (pc := 1119) (tgt := 1142) hx hb dL_acts_1119 (by decide) (fun c9 => ?_) (fun c9 => ?_)
      · have hf := ifF c9 hf
        refine lv_iconst (pc := 1142) (v := 1) hx hb dL_acts_1142 (by decide) ?_
        refine lv_goto (pc := 1143) (tgt := 1147) hx hb dL_acts_1143 (by decide) ?_
        exact W.widen (Nat.le_of_ble_eq_true rfl : 66 ≤ 67) (Nat.le_of_ble_eq_true rfl : 682 ≤ 688) (jl_acts_1147 X hE   _ _ _ _ _ _ _ _ _ _ _ _ _ hf _ _ _ h (lv_sub hl [1, 2, 3, 4, 6, 7, 8, 9, 0] rfl))
      · have hf := ifT c9 hf
        refine lv_iload (pc := 1122) hx hb dL_acts_1122 (lv_at hl 7 rfl) ?_
        refine lv_iload (pc := 1124) hx hb dL_acts_1124 (lv_at hl 6 rfl) ?_
        refine lv_icmp_ge (pc := 1126) (tgt := 1146) hx hb dL_acts_1126 (by decide) (fun c9 => ?_) (fun c9 => ?_)
        · have hf := ifT c9 hf
          exact W.widen (Nat.le_of_ble_eq_true rfl : 66 ≤ 67) (Nat.le_of_ble_eq_true rfl : 682 ≤ 688) (jl_acts_1146 X hE   _ _ _ _ _ _ _ _ _ _ _ _ hf _ _ _ h (lv_sub hl [1, 2, 3, 4, 6, 7, 8, 9, 0] rfl))
        · have hf := ifF c9 hf
          refine lv_aload_n (pc := 1129) hx hb dL_acts_1129 rfl (lv_at hl 2 rfl) ?_
          refine lv_iload (pc := 1130) hx hb dL_acts_1130 (lv_at hl 9 rfl) ?_
          refine lv_iload (pc := 1132) hx hb dL_acts_1132 (lv_at hl 3 rfl) ?_
          refine lv_iload (pc := 1134) hx hb dL_acts_1134 (lv_at hl 7 rfl) ?_
          obtain ⟨z1, hc1, hf⟩ := bdS hf
          refine call_H (pc := 1136) (As := [.ref (t0 0), .int x14, .int x7, .int x12]) (rest := []) (ws' := (aW q0 q cA d t0 tq u ab aw b w)) X h (vm_whyNot u x14 x7 x12 hc1) cx_L_167 (aW_t q0 q cA d t0 tq u ab aw b w) (aW_t q0 q cA d t0 tq u ab aw b w).symm rfl rfl rfl hl.1 (Nat.le_of_ble_eq_true rfl) dL_acts_1136 ⟨(Nat.le_of_ble_eq_true rfl), (Nat.le_of_ble_eq_true rfl)⟩ rfl rfl ⟨(Nat.le_of_ble_eq_true rfl), (Nat.le_of_ble_eq_true rfl)⟩ (fun H locs h => ?_)
          refine W.eq (g2 := F0 m 1139 ls [.int z1]) rfl ?_
          refine lv_if_ne (pc := 1139) (tgt := 1146) hx hb dL_acts_1139 (by decide) (fun c9 => ?_) (fun c9 => ?_)
          · have hf := ifF c9 hf
            exact jl_acts_1146 X hE   _ _ _ _ _ _ _ _ _ _ _ _ hf _ _ _ h (lv_sub hl [1, 2, 3, 4, 6, 7, 8, 9, 0] rfl)
          · have hf := ifT c9 hf
            refine lv_iconst (pc := 1142) (v := 1) hx hb dL_acts_1142 (by decide) ?_
            refine lv_goto (pc := 1143) (tgt := 1147) hx hb dL_acts_1143 (by decide) ?_
            exact jl_acts_1147 X hE   _ _ _ _ _ _ _ _ _ _ _ _ _ hf _ _ _ h (lv_sub hl [1, 2, 3, 4, 6, 7, 8, 9, 0] rfl)
def f_L_acts_1078 (d : Dk) (u : Dk) (b : (Nat → Int32)) (w : (Nat → Int32)) (x7 : Int32) (x8 : Int32) (x9 : Int32) (x10 : Int32) (x12 : Int32) (x13 : Int32) (s0 : Int32) : Option (Int32 × Dk × Dk × (Nat → Int32) × (Nat → Int32)) := (if x13 = 0 then ((gm_decline d s0 x7 x12).bind fun z1 => (f_L_acts_1104 z1.2 u b w x7 x8 x9 x10 x12 x13 s0 z1.1)) else ((gm_cancel d x7).bind fun z1 => (f_L_acts_1104 z1.2 u b w x7 x8 x9 x10 x12 x13 s0 z1.1)))
set_option maxHeartbeats 1000000 in
set_option maxRecDepth 100000 in
theorem jl_acts_1078  (X : LCx p l s m args meth c cL_acts 19 D cA A) (hE : ∀ (z : Int32 × Dk × Dk × (Nat → Int32) × (Nat → Int32)) (q tq : Nat → Nat → Nat) (pc : Nat) (H : Heap) (locs : List Loc) (ls : Array Slot) (cells slots : Nat), (z.1 = 0 ∨ z.1 = 1) → decode cL_acts pc = .ok (.ireturn, 1) → cells ≤ 81 → slots ≤ 772 → St D A s.heap (aW q0 q cA z.2.1 t0 tq z.2.2.1 ab aw z.2.2.2.1 z.2.2.2.2) H locs → W p l e rm_L_acts s m args below meth c H locs cells slots (Qf z) (F0 m pc ls [.int z.1])) (d : Dk) (u : Dk) (b : (Nat → Int32)) (w : (Nat → Int32)) (x7 : Int32) (x8 : Int32) (x9 : Int32) (x10 : Int32) (x12 : Int32) (x13 : Int32) (s0 : Int32) (z : Int32 × Dk × Dk × (Nat → Int32) × (Nat → Int32)) (hf : f_L_acts_1078 d u b w x7 x8 x9 x10 x12 x13 s0 = some z) (H : Heap) (locs : List Loc) (ls : Array Slot) (h : St D A s.heap (aW q0 q cA d t0 tq u ab aw b w) H locs) (hl : lv_has ls 19 [(0, .ref (q0 0)), (1, .ref (t0 0)), (7, .int x7), (8, .int x8), (9, .int x9), (10, .int x10), (12, .int x12), (13, .int x13)]) : W p l e rm_L_acts s m args below meth c H locs 64 670 (Qf z) (F0 m 1078 ls [.int s0]) := by
  obtain ⟨C, hl0, hXA, hN⟩ := id X
  obtain ⟨hx, hb, hml, hown, hts, hK, hlk⟩ := id C
  rw [f_L_acts_1078] at hf
  refine lv_istore (pc := 1078) (lv' := [(14, .int s0), (0, .ref (q0 0)), (1, .ref (t0 0)), (7, .int x7), (8, .int x8), (9, .int x9), (10, .int x10), (12, .int x12), (13, .int x13)]) hx hb dL_acts_1078 hl (by decide) rfl (fun ls hl => ?_)
  refine lv_iload (pc := 1080) hx hb dL_acts_1080 (lv_at hl 8 rfl) ?_
  refine lv_if_eq (pc := 1082) (tgt := 1094) hx hb dL_acts_1082 (by decide) (fun c9 => ?_) (fun c9 => ?_)
  · have hf := ifT c9 hf
    refine lv_aload_n (pc := 1094) hx hb dL_acts_1094 rfl (lv_at hl 1 rfl) ?_
    refine lv_iload (pc := 1095) hx hb dL_acts_1095 (lv_at hl 0 rfl) ?_
    refine lv_iload (pc := 1097) hx hb dL_acts_1097 (lv_at hl 3 rfl) ?_
    refine lv_iload (pc := 1099) hx hb dL_acts_1099 (lv_at hl 7 rfl) ?_
    obtain ⟨z1, hc1, hf⟩ := bdS hf
    refine call_H (pc := 1101) (As := [.ref (q0 0), .int s0, .int x7, .int x12]) (rest := []) (ws' := (aW q0 q cA z1.2 t0 tq u ab aw b w)) X h (vm_decline d s0 x7 x12 hc1) cx_L_210 (aW_o q0 q cA d t0 tq u ab aw b w) (aW_o q0 q cA z1.2 t0 tq u ab aw b w).symm (kW_fst _ _ _ _ _ (nm_decline hc1)) rfl rfl hl.1 (Nat.le_of_ble_eq_true rfl) dL_acts_1101 ⟨(Nat.le_of_ble_eq_true rfl), (Nat.le_of_ble_eq_true rfl)⟩ rfl rfl ⟨(Nat.le_of_ble_eq_true rfl), (Nat.le_of_ble_eq_true rfl)⟩ (fun H locs h => ?_)
    refine W.eq (g2 := F0 m 1104 ls [.int z1.1]) rfl ?_
    exact W.widen (Nat.le_of_ble_eq_true rfl : 65 ≤ 66) (Nat.le_of_ble_eq_true rfl : 676 ≤ 682) (jl_acts_1104 X hE   _ _ _ _ _ _ _ _ _ _ _ _ _ hf _ _ _ h (lv_sub hl [1, 2, 3, 4, 5, 6, 7, 8, 0] rfl))
  · have hf := ifF c9 hf
    refine lv_aload_n (pc := 1085) hx hb dL_acts_1085 rfl (lv_at hl 1 rfl) ?_
    refine lv_iload (pc := 1086) hx hb dL_acts_1086 (lv_at hl 3 rfl) ?_
    obtain ⟨z1, hc1, hf⟩ := bdS hf
    refine call_H (pc := 1088) (As := [.ref (q0 0), .int x7]) (rest := []) (ws' := (aW q0 q cA z1.2 t0 tq u ab aw b w)) X h (vm_cancel d x7 hc1) cx_L_208 (aW_o q0 q cA d t0 tq u ab aw b w) (aW_o q0 q cA z1.2 t0 tq u ab aw b w).symm (kW_fst _ _ _ _ _ (nm_cancel hc1)) rfl rfl hl.1 (Nat.le_of_ble_eq_true rfl) dL_acts_1088 ⟨(Nat.le_of_ble_eq_true rfl), (Nat.le_of_ble_eq_true rfl)⟩ rfl rfl ⟨(Nat.le_of_ble_eq_true rfl), (Nat.le_of_ble_eq_true rfl)⟩ (fun H locs h => ?_)
    refine W.eq (g2 := F0 m 1091 ls [.int z1.1]) rfl ?_
    refine lv_goto (pc := 1091) (tgt := 1104) hx hb dL_acts_1091 (by decide) ?_
    exact W.widen (Nat.le_of_ble_eq_true rfl : 65 ≤ 66) (Nat.le_of_ble_eq_true rfl : 676 ≤ 682) (jl_acts_1104 X hE   _ _ _ _ _ _ _ _ _ _ _ _ _ hf _ _ _ h (lv_sub hl [1, 2, 3, 4, 5, 6, 7, 8, 0] rfl))
def f_L_acts_1076 (d : Dk) (u : Dk) (b : (Nat → Int32)) (w : (Nat → Int32)) (x7 : Int32) (x8 : Int32) (x9 : Int32) (x10 : Int32) (x11 : Int32) (x12 : Int32) (x13 : Int32) : Option (Int32 × Dk × Dk × (Nat → Int32) × (Nat → Int32)) := (f_L_acts_1078 d u b w x7 x8 x9 x10 x12 x13 x11)
set_option maxHeartbeats 1000000 in
set_option maxRecDepth 100000 in
theorem jl_acts_1076  (X : LCx p l s m args meth c cL_acts 19 D cA A) (hE : ∀ (z : Int32 × Dk × Dk × (Nat → Int32) × (Nat → Int32)) (q tq : Nat → Nat → Nat) (pc : Nat) (H : Heap) (locs : List Loc) (ls : Array Slot) (cells slots : Nat), (z.1 = 0 ∨ z.1 = 1) → decode cL_acts pc = .ok (.ireturn, 1) → cells ≤ 81 → slots ≤ 772 → St D A s.heap (aW q0 q cA z.2.1 t0 tq z.2.2.1 ab aw z.2.2.2.1 z.2.2.2.2) H locs → W p l e rm_L_acts s m args below meth c H locs cells slots (Qf z) (F0 m pc ls [.int z.1])) (d : Dk) (u : Dk) (b : (Nat → Int32)) (w : (Nat → Int32)) (x7 : Int32) (x8 : Int32) (x9 : Int32) (x10 : Int32) (x11 : Int32) (x12 : Int32) (x13 : Int32) (z : Int32 × Dk × Dk × (Nat → Int32) × (Nat → Int32)) (hf : f_L_acts_1076 d u b w x7 x8 x9 x10 x11 x12 x13 = some z) (H : Heap) (locs : List Loc) (ls : Array Slot) (h : St D A s.heap (aW q0 q cA d t0 tq u ab aw b w) H locs) (hl : lv_has ls 19 [(0, .ref (q0 0)), (1, .ref (t0 0)), (7, .int x7), (8, .int x8), (9, .int x9), (10, .int x10), (11, .int x11), (12, .int x12), (13, .int x13)]) : W p l e rm_L_acts s m args below meth c H locs 64 670 (Qf z) (F0 m 1076 ls []) := by
  obtain ⟨C, hl0, hXA, hN⟩ := id X
  obtain ⟨hx, hb, hml, hown, hts, hK, hlk⟩ := id C
  rw [f_L_acts_1076] at hf
  refine lv_iload (pc := 1076) hx hb dL_acts_1076 (lv_at hl 6 rfl) ?_
  exact jl_acts_1078 X hE   _ _ _ _ _ _ _ _ _ _ _ _ hf _ _ _ h (lv_sub hl [0, 1, 2, 3, 4, 5, 7, 8] rfl)
def f_L_acts_1037 (d : Dk) (u : Dk) (b : (Nat → Int32)) (w : (Nat → Int32)) (x5 : Int32) (x7 : Int32) (x8 : Int32) (x9 : Int32) (x10 : Int32) (x11 : Int32) (x12 : Int32) (s0 : Int32) : Option (Int32 × Dk × Dk × (Nat → Int32) × (Nat → Int32)) := (if x8 = 0 then (f_L_acts_1076 d u b w x7 x8 x9 x10 x11 x12 s0) else (if x10 ≤ x12 then (f_L_acts_1076 d u b w x7 x8 x9 x10 x11 x12 s0) else ((f_L_low (x5 >>> ((7 : Int32) &&& 31)) (3 : Int32)).bind fun z1 => (if z1 ≤ 0 then (f_L_acts_1076 d u b w x7 x8 x9 x10 x11 x12 s0) else (if inb (((8 : Int32) * x7) + x12) 48 then (f_L_acts_1078 d u b w x7 x8 x9 x10 x12 s0 (w (((8 : Int32) * x7) + x12).toNatClampNeg)) else none)))))
set_option maxHeartbeats 1000000 in
set_option maxRecDepth 100000 in
theorem jl_acts_1037  (X : LCx p l s m args meth c cL_acts 19 D cA A) (hE : ∀ (z : Int32 × Dk × Dk × (Nat → Int32) × (Nat → Int32)) (q tq : Nat → Nat → Nat) (pc : Nat) (H : Heap) (locs : List Loc) (ls : Array Slot) (cells slots : Nat), (z.1 = 0 ∨ z.1 = 1) → decode cL_acts pc = .ok (.ireturn, 1) → cells ≤ 81 → slots ≤ 772 → St D A s.heap (aW q0 q cA z.2.1 t0 tq z.2.2.1 ab aw z.2.2.2.1 z.2.2.2.2) H locs → W p l e rm_L_acts s m args below meth c H locs cells slots (Qf z) (F0 m pc ls [.int z.1])) (d : Dk) (u : Dk) (b : (Nat → Int32)) (w : (Nat → Int32)) (x5 : Int32) (x7 : Int32) (x8 : Int32) (x9 : Int32) (x10 : Int32) (x11 : Int32) (x12 : Int32) (s0 : Int32) (z : Int32 × Dk × Dk × (Nat → Int32) × (Nat → Int32)) (hf : f_L_acts_1037 d u b w x5 x7 x8 x9 x10 x11 x12 s0 = some z) (H : Heap) (locs : List Loc) (ls : Array Slot) (h : St D A s.heap (aW q0 q cA d t0 tq u ab aw b w) H locs) (hl : lv_has ls 19 [(0, .ref (q0 0)), (1, .ref (t0 0)), (3, .ref (aw)), (5, .int x5), (7, .int x7), (8, .int x8), (9, .int x9), (10, .int x10), (11, .int x11), (12, .int x12)]) : W p l e rm_L_acts s m args below meth c H locs 64 670 (Qf z) (F0 m 1037 ls [.int s0]) := by
  obtain ⟨C, hl0, hXA, hN⟩ := id X
  obtain ⟨hx, hb, hml, hown, hts, hK, hlk⟩ := id C
  rw [f_L_acts_1037] at hf
  refine lv_istore (pc := 1037) (lv' := [(13, .int s0), (0, .ref (q0 0)), (1, .ref (t0 0)), (3, .ref (aw)), (5, .int x5), (7, .int x7), (8, .int x8), (9, .int x9), (10, .int x10), (11, .int x11), (12, .int x12)]) hx hb dL_acts_1037 hl (by decide) rfl (fun ls hl => ?_)
  refine lv_iload (pc := 1039) hx hb dL_acts_1039 (lv_at hl 6 rfl) ?_
  refine lv_if_eq (pc := 1041) (tgt := 1076) hx hb dL_acts_1041 (by decide) (fun c9 => ?_) (fun c9 => ?_)
  · have hf := ifT c9 hf
    exact jl_acts_1076 X hE   _ _ _ _ _ _ _ _ _ _ _ _ hf _ _ _ h (lv_sub hl [1, 2, 5, 6, 7, 8, 9, 10, 0] rfl)
  · have hf := ifF c9 hf
    refine lv_iload (pc := 1044) hx hb dL_acts_1044 (lv_at hl 10 rfl) ?_
    refine lv_iload (pc := 1046) hx hb dL_acts_1046 (lv_at hl 8 rfl) ?_
    refine lv_icmp_ge (pc := 1048) (tgt := 1076) hx hb dL_acts_1048 (by decide) (fun c9 => ?_) (fun c9 => ?_)
    · have hf := ifT c9 hf
      exact jl_acts_1076 X hE   _ _ _ _ _ _ _ _ _ _ _ _ hf _ _ _ h (lv_sub hl [1, 2, 5, 6, 7, 8, 9, 10, 0] rfl)
    · have hf := ifF c9 hf
      refine lv_iload (pc := 1051) hx hb dL_acts_1051 (lv_at hl 4 rfl) ?_
      refine lv_bipush (pc := 1053) (v := 7) hx hb dL_acts_1053 (by decide) ?_
      refine lv_ishr (pc := 1055) hx hb dL_acts_1055 ?_
      refine lv_iconst (pc := 1056) (v := 3) hx hb dL_acts_1056 (by decide) ?_
      obtain ⟨z1, hc1, hf⟩ := bdS hf
      refine call_SR (pc := 1057) (As := [.int (x5 >>> ((7 : Int32) &&& 31)), .int (3 : Int32)]) (rest := []) (wc := []) C h (k_L_low (x5 >>> ((7 : Int32) &&& 31)) (3 : Int32) hc1) cw_L_192 [] rfl rfl rfl rfl hl.1 (Nat.le_of_ble_eq_true rfl) dL_acts_1057 ⟨(Nat.le_of_ble_eq_true rfl), (Nat.le_of_ble_eq_true rfl)⟩ rfl rfl ⟨(Nat.le_of_ble_eq_true rfl), (Nat.le_of_ble_eq_true rfl)⟩ (fun H locs h => ?_)
      refine W.eq (g2 := F0 m 1060 ls [.int z1]) rfl ?_
      refine lv_if_le (pc := 1060) (tgt := 1076) hx hb dL_acts_1060 (by decide) (fun c9 => ?_) (fun c9 => ?_)
      · have hf := ifT c9 hf
        exact jl_acts_1076 X hE   _ _ _ _ _ _ _ _ _ _ _ _ hf _ _ _ h (lv_sub hl [1, 2, 5, 6, 7, 8, 9, 10, 0] rfl)
      · have hf := ifF c9 hf
        refine lv_aload_n (pc := 1063) hx hb dL_acts_1063 rfl (lv_at hl 3 rfl) ?_
        refine lv_bipush (pc := 1064) (v := 8) hx hb dL_acts_1064 (by decide) ?_
        refine lv_iload (pc := 1066) hx hb dL_acts_1066 (lv_at hl 5 rfl) ?_
        refine lv_imul (pc := 1068) hx hb dL_acts_1068 ?_
        refine lv_iload (pc := 1069) hx hb dL_acts_1069 (lv_at hl 10 rfl) ?_
        refine lv_iadd (pc := 1071) hx hb dL_acts_1071 ?_
        obtain ⟨hin, hf⟩ := ifS hf
        refine g_ild (pc := 1072) (n := 48) (f := w) C h.1 1 (aW_1 ..) hin dL_acts_1072 ?_
        refine lv_goto (pc := 1073) (tgt := 1078) hx hb dL_acts_1073 (by decide) ?_
        exact jl_acts_1078 X hE   _ _ _ _ _ _ _ _ _ _ _ _ hf _ _ _ h (lv_sub hl [1, 2, 5, 6, 7, 8, 10, 0] rfl)
def f_L_acts_983 (d : Dk) (u : Dk) (b : (Nat → Int32)) (w : (Nat → Int32)) (x7 : Int32) (x12 : Int32) (x14 : Int32) (x15 : Int32) : Option (Int32 × Dk × Dk × (Nat → Int32) × (Nat → Int32)) := (if x14 = 0 then (if inb (((8 : Int32) * x7) + x12) 48 then ((gm_signedFor d (w (((8 : Int32) * x7) + x12).toNatClampNeg)).bind fun z1 => (if z1 = x15 then (some ((1 : Int32), d, u, b, w)) else (some ((0 : Int32), d, u, b, w)))) else none) else (some ((1 : Int32), d, u, b, w)))
set_option maxHeartbeats 1000000 in
set_option maxRecDepth 100000 in
theorem jl_acts_983  (X : LCx p l s m args meth c cL_acts 19 D cA A) (hE : ∀ (z : Int32 × Dk × Dk × (Nat → Int32) × (Nat → Int32)) (q tq : Nat → Nat → Nat) (pc : Nat) (H : Heap) (locs : List Loc) (ls : Array Slot) (cells slots : Nat), (z.1 = 0 ∨ z.1 = 1) → decode cL_acts pc = .ok (.ireturn, 1) → cells ≤ 81 → slots ≤ 772 → St D A s.heap (aW q0 q cA z.2.1 t0 tq z.2.2.1 ab aw z.2.2.2.1 z.2.2.2.2) H locs → W p l e rm_L_acts s m args below meth c H locs cells slots (Qf z) (F0 m pc ls [.int z.1])) (d : Dk) (u : Dk) (b : (Nat → Int32)) (w : (Nat → Int32)) (x7 : Int32) (x12 : Int32) (x14 : Int32) (x15 : Int32) (z : Int32 × Dk × Dk × (Nat → Int32) × (Nat → Int32)) (hf : f_L_acts_983 d u b w x7 x12 x14 x15 = some z) (H : Heap) (locs : List Loc) (ls : Array Slot) (h : St D A s.heap (aW q0 q cA d t0 tq u ab aw b w) H locs) (hl : lv_has ls 19 [(0, .ref (q0 0)), (3, .ref (aw)), (7, .int x7), (12, .int x12), (14, .int x14), (15, .int x15)]) : W p l e rm_L_acts s m args below meth c H locs 63 664 (Qf z) (F0 m 983 ls []) := by
  obtain ⟨C, hl0, hXA, hN⟩ := id X
  obtain ⟨hx, hb, hml, hown, hts, hK, hlk⟩ := id C
  rw [f_L_acts_983] at hf
  refine lv_iload (pc := 983) hx hb dL_acts_983 (lv_at hl 4 rfl) ?_
  refine lv_if_ne (pc := 985) (tgt := 1007) hx hb dL_acts_985 (by decide) (fun c9 => ?_) (fun c9 => ?_)
  · have hf := ifF c9 hf
    refine lv_iconst (pc := 1007) (v := 1) hx hb dL_acts_1007 (by decide) ?_
    refine lv_goto (pc := 1008) (tgt := 1012) hx hb dL_acts_1008 (by decide) ?_
    cases hf
    exact hE ((1 : Int32), d, u, b, w) q tq 1012 _ _ _ _ _ (Or.inr rfl) dL_acts_1012 (Nat.le_of_ble_eq_true rfl) (Nat.le_of_ble_eq_true rfl) h
  · have hf := ifT c9 hf
    refine lv_aload_n (pc := 988) hx hb dL_acts_988 rfl (lv_at hl 0 rfl) ?_
    refine lv_aload_n (pc := 989) hx hb dL_acts_989 rfl (lv_at hl 1 rfl) ?_
    refine lv_bipush (pc := 990) (v := 8) hx hb dL_acts_990 (by decide) ?_
    refine lv_iload (pc := 992) hx hb dL_acts_992 (lv_at hl 2 rfl) ?_
    refine lv_imul (pc := 994) hx hb dL_acts_994 ?_
    refine lv_iload (pc := 995) hx hb dL_acts_995 (lv_at hl 3 rfl) ?_
    refine lv_iadd (pc := 997) hx hb dL_acts_997 ?_
    obtain ⟨hin, hf⟩ := ifS hf
    refine g_ild (pc := 998) (n := 48) (f := w) C h.1 1 (aW_1 ..) hin dL_acts_998 ?_
    obtain ⟨z1, hc1, hf⟩ := bdS hf
    refine call_H (pc := 999) (As := [.ref (q0 0), .int (w (((8 : Int32) * x7) + x12).toNatClampNeg)]) (rest := []) (ws' := (aW q0 q cA d t0 tq u ab aw b w)) X h (vm_signedFor d (w (((8 : Int32) * x7) + x12).toNatClampNeg) hc1) cx_L_156 (aW_o q0 q cA d t0 tq u ab aw b w) (aW_o q0 q cA d t0 tq u ab aw b w).symm rfl rfl rfl hl.1 (Nat.le_of_ble_eq_true rfl) dL_acts_999 ⟨(Nat.le_of_ble_eq_true rfl), (Nat.le_of_ble_eq_true rfl)⟩ rfl rfl ⟨(Nat.le_of_ble_eq_true rfl), (Nat.le_of_ble_eq_true rfl)⟩ (fun H locs h => ?_)
    refine W.eq (g2 := F0 m 1002 ls [.int z1]) rfl ?_
    refine lv_iload (pc := 1002) hx hb dL_acts_1002 (lv_at hl 5 rfl) ?_
    refine lv_icmp_ne (pc := 1004) (tgt := 1011) hx hb dL_acts_1004 (by decide) (fun c9 => ?_) (fun c9 => ?_)
    · have hf := ifF c9 hf
      refine lv_iconst (pc := 1011) (v := 0) hx hb dL_acts_1011 (by decide) ?_
      cases hf
      exact hE ((0 : Int32), d, u, b, w) q tq 1012 _ _ _ _ _ (Or.inl rfl) dL_acts_1012 (Nat.le_of_ble_eq_true rfl) (Nat.le_of_ble_eq_true rfl) h
    · have hf := ifT c9 hf
      refine lv_iconst (pc := 1007) (v := 1) hx hb dL_acts_1007 (by decide) ?_
      refine lv_goto (pc := 1008) (tgt := 1012) hx hb dL_acts_1008 (by decide) ?_
      cases hf
      exact hE ((1 : Int32), d, u, b, w) q tq 1012 _ _ _ _ _ (Or.inr rfl) dL_acts_1012 (Nat.le_of_ble_eq_true rfl) (Nat.le_of_ble_eq_true rfl) h
def f_L_acts_949 (d : Dk) (u : Dk) (b : (Nat → Int32)) (w : (Nat → Int32)) (x7 : Int32) (x12 : Int32) (x14 : Int32) (x15 : Int32) (s0 : Int32) : Option (Int32 × Dk × Dk × (Nat → Int32) × (Nat → Int32)) := (if s0 = 0 then (some ((0 : Int32), d, u, b, w)) else (if x14 = (1 : Int32) then (if inb (((8 : Int32) * x7) + x12) 48 then ((gm_signedFor d (w (((8 : Int32) * x7) + x12).toNatClampNeg)).bind fun z1 => (if z1 = (x15 + (1 : Int32)) then (f_L_acts_983 d u b w x7 x12 x14 x15) else (some ((0 : Int32), d, u, b, w)))) else none) else (f_L_acts_983 d u b w x7 x12 x14 x15)))
set_option maxHeartbeats 1000000 in
set_option maxRecDepth 100000 in
theorem jl_acts_949  (X : LCx p l s m args meth c cL_acts 19 D cA A) (hE : ∀ (z : Int32 × Dk × Dk × (Nat → Int32) × (Nat → Int32)) (q tq : Nat → Nat → Nat) (pc : Nat) (H : Heap) (locs : List Loc) (ls : Array Slot) (cells slots : Nat), (z.1 = 0 ∨ z.1 = 1) → decode cL_acts pc = .ok (.ireturn, 1) → cells ≤ 81 → slots ≤ 772 → St D A s.heap (aW q0 q cA z.2.1 t0 tq z.2.2.1 ab aw z.2.2.2.1 z.2.2.2.2) H locs → W p l e rm_L_acts s m args below meth c H locs cells slots (Qf z) (F0 m pc ls [.int z.1])) (d : Dk) (u : Dk) (b : (Nat → Int32)) (w : (Nat → Int32)) (x7 : Int32) (x12 : Int32) (x14 : Int32) (x15 : Int32) (s0 : Int32) (z : Int32 × Dk × Dk × (Nat → Int32) × (Nat → Int32)) (hf : f_L_acts_949 d u b w x7 x12 x14 x15 s0 = some z) (H : Heap) (locs : List Loc) (ls : Array Slot) (h : St D A s.heap (aW q0 q cA d t0 tq u ab aw b w) H locs) (hl : lv_has ls 19 [(0, .ref (q0 0)), (3, .ref (aw)), (7, .int x7), (12, .int x12), (14, .int x14), (15, .int x15)]) : W p l e rm_L_acts s m args below meth c H locs 62 658 (Qf z) (F0 m 949 ls [.int s0]) := by
  obtain ⟨C, hl0, hXA, hN⟩ := id X
  obtain ⟨hx, hb, hml, hown, hts, hK, hlk⟩ := id C
  rw [f_L_acts_949] at hf
  refine lv_istore (pc := 949) (lv' := [(17, .int s0), (0, .ref (q0 0)), (3, .ref (aw)), (7, .int x7), (12, .int x12), (14, .int x14), (15, .int x15)]) hx hb dL_acts_949 hl (by decide) rfl (fun ls hl => ?_)
  refine lv_iload (pc := 951) hx hb dL_acts_951 (lv_at hl 0 rfl) ?_
  refine lv_if_eq (pc := 953) (tgt := 1011) hx hb dL_acts_953 (by decide) (fun c9 => ?_) (fun c9 => ?_)
  · have hf := ifT c9 hf
    refine lv_iconst (pc := 1011) (v := 0) hx hb dL_acts_1011 (by decide) ?_
    cases hf
    exact hE ((0 : Int32), d, u, b, w) q tq 1012 _ _ _ _ _ (Or.inl rfl) dL_acts_1012 (Nat.le_of_ble_eq_true rfl) (Nat.le_of_ble_eq_true rfl) h
  · have hf := ifF c9 hf
    refine lv_iload (pc := 956) hx hb dL_acts_956 (lv_at hl 5 rfl) ?_
    refine lv_iconst (pc := 958) (v := 1) hx hb dL_acts_958 (by decide) ?_
    refine lv_icmp_ne (pc := 959) (tgt := 983) hx hb dL_acts_959 (by decide) (fun c9 => ?_) (fun c9 => ?_)
    · have hf := ifF c9 hf
      exact W.widen (Nat.le_of_ble_eq_true rfl : 62 ≤ 63) (Nat.le_of_ble_eq_true rfl : 658 ≤ 664) (jl_acts_983 X hE   _ _ _ _ _ _ _ _ _ hf _ _ _ h (lv_sub hl [1, 2, 3, 4, 5, 6] rfl))
    · have hf := ifT c9 hf
      refine lv_aload_n (pc := 962) hx hb dL_acts_962 rfl (lv_at hl 1 rfl) ?_
      refine lv_aload_n (pc := 963) hx hb dL_acts_963 rfl (lv_at hl 2 rfl) ?_
      refine lv_bipush (pc := 964) (v := 8) hx hb dL_acts_964 (by decide) ?_
      refine lv_iload (pc := 966) hx hb dL_acts_966 (lv_at hl 3 rfl) ?_
      refine lv_imul (pc := 968) hx hb dL_acts_968 ?_
      refine lv_iload (pc := 969) hx hb dL_acts_969 (lv_at hl 4 rfl) ?_
      refine lv_iadd (pc := 971) hx hb dL_acts_971 ?_
      obtain ⟨hin, hf⟩ := ifS hf
      refine g_ild (pc := 972) (n := 48) (f := w) C h.1 1 (aW_1 ..) hin dL_acts_972 ?_
      obtain ⟨z1, hc1, hf⟩ := bdS hf
      refine call_H (pc := 973) (As := [.ref (q0 0), .int (w (((8 : Int32) * x7) + x12).toNatClampNeg)]) (rest := []) (ws' := (aW q0 q cA d t0 tq u ab aw b w)) X h (vm_signedFor d (w (((8 : Int32) * x7) + x12).toNatClampNeg) hc1) cx_L_156 (aW_o q0 q cA d t0 tq u ab aw b w) (aW_o q0 q cA d t0 tq u ab aw b w).symm rfl rfl rfl hl.1 (Nat.le_of_ble_eq_true rfl) dL_acts_973 ⟨(Nat.le_of_ble_eq_true rfl), (Nat.le_of_ble_eq_true rfl)⟩ rfl rfl ⟨(Nat.le_of_ble_eq_true rfl), (Nat.le_of_ble_eq_true rfl)⟩ (fun H locs h => ?_)
      refine W.eq (g2 := F0 m 976 ls [.int z1]) rfl ?_
      refine lv_iload (pc := 976) hx hb dL_acts_976 (lv_at hl 6 rfl) ?_
      refine lv_iconst (pc := 978) (v := 1) hx hb dL_acts_978 (by decide) ?_
      refine lv_iadd (pc := 979) hx hb dL_acts_979 ?_
      refine lv_icmp_ne (pc := 980) (tgt := 1011) hx hb dL_acts_980 (by decide) (fun c9 => ?_) (fun c9 => ?_)
      · have hf := ifF c9 hf
        refine lv_iconst (pc := 1011) (v := 0) hx hb dL_acts_1011 (by decide) ?_
        cases hf
        exact hE ((0 : Int32), d, u, b, w) q tq 1012 _ _ _ _ _ (Or.inl rfl) dL_acts_1012 (Nat.le_of_ble_eq_true rfl) (Nat.le_of_ble_eq_true rfl) h
      · have hf := ifT c9 hf
        exact jl_acts_983 X hE   _ _ _ _ _ _ _ _ _ hf _ _ _ h (lv_sub hl [1, 2, 3, 4, 5, 6] rfl)
def f_L_acts_948 (d : Dk) (u : Dk) (b : (Nat → Int32)) (w : (Nat → Int32)) (x7 : Int32) (x12 : Int32) (x14 : Int32) (x15 : Int32) : Option (Int32 × Dk × Dk × (Nat → Int32) × (Nat → Int32)) := (f_L_acts_949 d u b w x7 x12 x14 x15 (0 : Int32))
set_option maxHeartbeats 1000000 in
set_option maxRecDepth 100000 in
theorem jl_acts_948  (X : LCx p l s m args meth c cL_acts 19 D cA A) (hE : ∀ (z : Int32 × Dk × Dk × (Nat → Int32) × (Nat → Int32)) (q tq : Nat → Nat → Nat) (pc : Nat) (H : Heap) (locs : List Loc) (ls : Array Slot) (cells slots : Nat), (z.1 = 0 ∨ z.1 = 1) → decode cL_acts pc = .ok (.ireturn, 1) → cells ≤ 81 → slots ≤ 772 → St D A s.heap (aW q0 q cA z.2.1 t0 tq z.2.2.1 ab aw z.2.2.2.1 z.2.2.2.2) H locs → W p l e rm_L_acts s m args below meth c H locs cells slots (Qf z) (F0 m pc ls [.int z.1])) (d : Dk) (u : Dk) (b : (Nat → Int32)) (w : (Nat → Int32)) (x7 : Int32) (x12 : Int32) (x14 : Int32) (x15 : Int32) (z : Int32 × Dk × Dk × (Nat → Int32) × (Nat → Int32)) (hf : f_L_acts_948 d u b w x7 x12 x14 x15 = some z) (H : Heap) (locs : List Loc) (ls : Array Slot) (h : St D A s.heap (aW q0 q cA d t0 tq u ab aw b w) H locs) (hl : lv_has ls 19 [(0, .ref (q0 0)), (3, .ref (aw)), (7, .int x7), (12, .int x12), (14, .int x14), (15, .int x15)]) : W p l e rm_L_acts s m args below meth c H locs 62 658 (Qf z) (F0 m 948 ls []) := by
  obtain ⟨C, hl0, hXA, hN⟩ := id X
  obtain ⟨hx, hb, hml, hown, hts, hK, hlk⟩ := id C
  rw [f_L_acts_948] at hf
  refine lv_iconst (pc := 948) (v := 0) hx hb dL_acts_948 (by decide) ?_
  exact jl_acts_949 X hE   _ _ _ _ _ _ _ _ _ _ hf _ _ _ h (lv_sub hl [0, 1, 2, 3, 4, 5] rfl)
def f_L_acts_867 (d : Dk) (u : Dk) (b : (Nat → Int32)) (w : (Nat → Int32)) (x7 : Int32) (x12 : Int32) (x13 : Int32) (x14 : Int32) (s0 : Int32) : Option (Int32 × Dk × Dk × (Nat → Int32) × (Nat → Int32)) := ((gm_sign d x13 x7 x12).bind fun z1 => ((gm_sign u x13 x7 x12).bind fun z2 => (if z2.1 = z1.1 then (if 0 ≤ x14 then (if x14 ≤ (1 : Int32) then (if z1.1 < 0 then (f_L_acts_948 z1.2 z2.2 b w x7 x12 x14 s0) else ((gm_slotState z1.2 x7 x12).bind fun z3 => (if z3 = (2 : Int32) then (f_L_acts_949 z1.2 z2.2 b w x7 x12 x14 s0 (1 : Int32)) else (f_L_acts_948 z1.2 z2.2 b w x7 x12 x14 s0)))) else (if z1.1 = (-1000003 : Int32) then (f_L_acts_949 z1.2 z2.2 b w x7 x12 x14 s0 (1 : Int32)) else (f_L_acts_948 z1.2 z2.2 b w x7 x12 x14 s0))) else (if z1.1 = (-1000001 : Int32) then (f_L_acts_949 z1.2 z2.2 b w x7 x12 x14 s0 (1 : Int32)) else (f_L_acts_948 z1.2 z2.2 b w x7 x12 x14 s0))) else (f_L_acts_948 z1.2 z2.2 b w x7 x12 x14 s0))))
set_option maxHeartbeats 1000000 in
set_option maxRecDepth 100000 in
theorem jl_acts_867  (X : LCx p l s m args meth c cL_acts 19 D cA A) (hE : ∀ (z : Int32 × Dk × Dk × (Nat → Int32) × (Nat → Int32)) (q tq : Nat → Nat → Nat) (pc : Nat) (H : Heap) (locs : List Loc) (ls : Array Slot) (cells slots : Nat), (z.1 = 0 ∨ z.1 = 1) → decode cL_acts pc = .ok (.ireturn, 1) → cells ≤ 81 → slots ≤ 772 → St D A s.heap (aW q0 q cA z.2.1 t0 tq z.2.2.1 ab aw z.2.2.2.1 z.2.2.2.2) H locs → W p l e rm_L_acts s m args below meth c H locs cells slots (Qf z) (F0 m pc ls [.int z.1])) (d : Dk) (u : Dk) (b : (Nat → Int32)) (w : (Nat → Int32)) (x7 : Int32) (x12 : Int32) (x13 : Int32) (x14 : Int32) (s0 : Int32) (z : Int32 × Dk × Dk × (Nat → Int32) × (Nat → Int32)) (hf : f_L_acts_867 d u b w x7 x12 x13 x14 s0 = some z) (H : Heap) (locs : List Loc) (ls : Array Slot) (h : St D A s.heap (aW q0 q cA d t0 tq u ab aw b w) H locs) (hl : lv_has ls 19 [(0, .ref (q0 0)), (1, .ref (t0 0)), (3, .ref (aw)), (7, .int x7), (12, .int x12), (13, .int x13), (14, .int x14)]) : W p l e rm_L_acts s m args below meth c H locs 59 640 (Qf z) (F0 m 867 ls [.int s0]) := by
  obtain ⟨C, hl0, hXA, hN⟩ := id X
  obtain ⟨hx, hb, hml, hown, hts, hK, hlk⟩ := id C
  rw [f_L_acts_867] at hf
  refine lv_istore (pc := 867) (lv' := [(15, .int s0), (0, .ref (q0 0)), (1, .ref (t0 0)), (3, .ref (aw)), (7, .int x7), (12, .int x12), (13, .int x13), (14, .int x14)]) hx hb dL_acts_867 hl (by decide) rfl (fun ls hl => ?_)
  refine lv_aload_n (pc := 869) hx hb dL_acts_869 rfl (lv_at hl 1 rfl) ?_
  refine lv_iload (pc := 870) hx hb dL_acts_870 (lv_at hl 6 rfl) ?_
  refine lv_iload (pc := 872) hx hb dL_acts_872 (lv_at hl 4 rfl) ?_
  refine lv_iload (pc := 874) hx hb dL_acts_874 (lv_at hl 5 rfl) ?_
  obtain ⟨z1, hc1, hf⟩ := bdS hf
  refine call_H (pc := 876) (As := [.ref (q0 0), .int x13, .int x7, .int x12]) (rest := []) (ws' := (aW q0 q cA z1.2 t0 tq u ab aw b w)) X h (vm_sign d x13 x7 x12 hc1) cx_L_206 (aW_o q0 q cA d t0 tq u ab aw b w) (aW_o q0 q cA z1.2 t0 tq u ab aw b w).symm (kW_fst _ _ _ _ _ (nm_sign hc1)) rfl rfl hl.1 (Nat.le_of_ble_eq_true rfl) dL_acts_876 ⟨(Nat.le_of_ble_eq_true rfl), (Nat.le_of_ble_eq_true rfl)⟩ rfl rfl ⟨(Nat.le_of_ble_eq_true rfl), (Nat.le_of_ble_eq_true rfl)⟩ (fun H locs h => ?_)
  refine W.eq (g2 := F0 m 879 ls [.int z1.1]) rfl ?_
  refine lv_istore (pc := 879) (lv' := [(16, .int z1.1), (15, .int s0), (0, .ref (q0 0)), (1, .ref (t0 0)), (3, .ref (aw)), (7, .int x7), (12, .int x12), (13, .int x13), (14, .int x14)]) hx hb dL_acts_879 hl (by decide) rfl (fun ls hl => ?_)
  refine lv_aload_n (pc := 881) hx hb dL_acts_881 rfl (lv_at hl 3 rfl) ?_
  refine lv_iload (pc := 882) hx hb dL_acts_882 (lv_at hl 7 rfl) ?_
  refine lv_iload (pc := 884) hx hb dL_acts_884 (lv_at hl 5 rfl) ?_
  refine lv_iload (pc := 886) hx hb dL_acts_886 (lv_at hl 6 rfl) ?_
  obtain ⟨z2, hc2, hf⟩ := bdS hf
  refine call_H (pc := 888) (As := [.ref (t0 0), .int x13, .int x7, .int x12]) (rest := []) (ws' := (aW q0 q cA z1.2 t0 tq z2.2 ab aw b w)) X h (vm_sign u x13 x7 x12 hc2) cx_L_206 (aW_t q0 q cA z1.2 t0 tq u ab aw b w) (aW_t q0 q cA z1.2 t0 tq z2.2 ab aw b w).symm (kW_fst _ _ _ _ _ (nm_sign hc2)) rfl rfl hl.1 (Nat.le_of_ble_eq_true rfl) dL_acts_888 ⟨(Nat.le_of_ble_eq_true rfl), (Nat.le_of_ble_eq_true rfl)⟩ rfl rfl ⟨(Nat.le_of_ble_eq_true rfl), (Nat.le_of_ble_eq_true rfl)⟩ (fun H locs h => ?_)
  refine W.eq (g2 := F0 m 891 ls [.int z2.1]) rfl ?_
  refine lv_iload (pc := 891) hx hb dL_acts_891 (lv_at hl 0 rfl) ?_
  refine lv_icmp_ne (pc := 893) (tgt := 948) hx hb dL_acts_893 (by decide) (fun c9 => ?_) (fun c9 => ?_)
  · have hf := ifF c9 hf
    exact W.widen (Nat.le_of_ble_eq_true rfl : 61 ≤ 62) (Nat.le_of_ble_eq_true rfl : 652 ≤ 658) (jl_acts_948 X hE   _ _ _ _ _ _ _ _ _ hf _ _ _ h (lv_sub hl [2, 4, 5, 6, 8, 1] rfl))
  · have hf := ifT c9 hf
    refine lv_iload (pc := 896) hx hb dL_acts_896 (lv_at hl 8 rfl) ?_
    refine lv_if_ge (pc := 898) (tgt := 911) hx hb dL_acts_898 (by decide) (fun c9 => ?_) (fun c9 => ?_)
    · have hf := ifT c9 hf
      refine lv_iload (pc := 911) hx hb dL_acts_911 (lv_at hl 8 rfl) ?_
      refine lv_iconst (pc := 913) (v := 1) hx hb dL_acts_913 (by decide) ?_
      refine lv_icmp_le (pc := 914) (tgt := 927) hx hb dL_acts_914 (by decide) (fun c9 => ?_) (fun c9 => ?_)
      · have hf := ifT c9 hf
        refine lv_iload (pc := 927) hx hb dL_acts_927 (lv_at hl 0 rfl) ?_
        refine lv_if_lt (pc := 929) (tgt := 948) hx hb dL_acts_929 (by decide) (fun c9 => ?_) (fun c9 => ?_)
        · have hf := ifT c9 hf
          exact W.widen (Nat.le_of_ble_eq_true rfl : 61 ≤ 62) (Nat.le_of_ble_eq_true rfl : 652 ≤ 658) (jl_acts_948 X hE   _ _ _ _ _ _ _ _ _ hf _ _ _ h (lv_sub hl [2, 4, 5, 6, 8, 1] rfl))
        · have hf := ifF c9 hf
          refine lv_aload_n (pc := 932) hx hb dL_acts_932 rfl (lv_at hl 2 rfl) ?_
          refine lv_iload (pc := 933) hx hb dL_acts_933 (lv_at hl 5 rfl) ?_
          refine lv_iload (pc := 935) hx hb dL_acts_935 (lv_at hl 6 rfl) ?_
          obtain ⟨z3, hc3, hf⟩ := bdS hf
          refine call_H (pc := 937) (As := [.ref (q0 0), .int x7, .int x12]) (rest := []) (ws' := (aW q0 q cA z1.2 t0 tq z2.2 ab aw b w)) X h (vm_slotState z1.2 x7 x12 hc3) cx_L_150 (aW_o q0 q cA z1.2 t0 tq z2.2 ab aw b w) (aW_o q0 q cA z1.2 t0 tq z2.2 ab aw b w).symm rfl rfl rfl hl.1 (Nat.le_of_ble_eq_true rfl) dL_acts_937 ⟨(Nat.le_of_ble_eq_true rfl), (Nat.le_of_ble_eq_true rfl)⟩ rfl rfl ⟨(Nat.le_of_ble_eq_true rfl), (Nat.le_of_ble_eq_true rfl)⟩ (fun H locs h => ?_)
          refine W.eq (g2 := F0 m 940 ls [.int z3]) rfl ?_
          refine lv_iconst (pc := 940) (v := 2) hx hb dL_acts_940 (by decide) ?_
          refine lv_icmp_ne (pc := 941) (tgt := 948) hx hb dL_acts_941 (by decide) (fun c9 => ?_) (fun c9 => ?_)
          · have hf := ifF c9 hf
            exact jl_acts_948 X hE   _ _ _ _ _ _ _ _ _ hf _ _ _ h (lv_sub hl [2, 4, 5, 6, 8, 1] rfl)
          · have hf := ifT c9 hf
            refine lv_iconst (pc := 944) (v := 1) hx hb dL_acts_944 (by decide) ?_
            refine lv_goto (pc := 945) (tgt := 949) hx hb dL_acts_945 (by decide) ?_
            exact jl_acts_949 X hE   _ _ _ _ _ _ _ _ _ _ hf _ _ _ h (lv_sub hl [2, 4, 5, 6, 8, 1] rfl)
      · have hf := ifF c9 hf
        refine lv_iload (pc := 917) hx hb dL_acts_917 (lv_at hl 0 rfl) ?_
        refine lv_ldc (pc := 919) (v := -1000003) hx hb hown (hts _ kc_L_18) dL_acts_919 ?_
        refine lv_icmp_ne (pc := 921) (tgt := 948) hx hb dL_acts_921 (by decide) (fun c9 => ?_) (fun c9 => ?_)
        · have hf := ifF c9 hf
          exact W.widen (Nat.le_of_ble_eq_true rfl : 61 ≤ 62) (Nat.le_of_ble_eq_true rfl : 652 ≤ 658) (jl_acts_948 X hE   _ _ _ _ _ _ _ _ _ hf _ _ _ h (lv_sub hl [2, 4, 5, 6, 8, 1] rfl))
        · have hf := ifT c9 hf
          refine lv_goto (pc := 924) (tgt := 944) hx hb dL_acts_924 (by decide) ?_
          refine lv_iconst (pc := 944) (v := 1) hx hb dL_acts_944 (by decide) ?_
          refine lv_goto (pc := 945) (tgt := 949) hx hb dL_acts_945 (by decide) ?_
          exact W.widen (Nat.le_of_ble_eq_true rfl : 61 ≤ 62) (Nat.le_of_ble_eq_true rfl : 652 ≤ 658) (jl_acts_949 X hE   _ _ _ _ _ _ _ _ _ _ hf _ _ _ h (lv_sub hl [2, 4, 5, 6, 8, 1] rfl))
    · have hf := ifF c9 hf
      refine lv_iload (pc := 901) hx hb dL_acts_901 (lv_at hl 0 rfl) ?_
      refine lv_ldc (pc := 903) (v := -1000001) hx hb hown (hts _ kc_L_25) dL_acts_903 ?_
      refine lv_icmp_ne (pc := 905) (tgt := 948) hx hb dL_acts_905 (by decide) (fun c9 => ?_) (fun c9 => ?_)
      · have hf := ifF c9 hf
        exact W.widen (Nat.le_of_ble_eq_true rfl : 61 ≤ 62) (Nat.le_of_ble_eq_true rfl : 652 ≤ 658) (jl_acts_948 X hE   _ _ _ _ _ _ _ _ _ hf _ _ _ h (lv_sub hl [2, 4, 5, 6, 8, 1] rfl))
      · have hf := ifT c9 hf
        refine lv_goto (pc := 908) (tgt := 944) hx hb dL_acts_908 (by decide) ?_
        refine lv_iconst (pc := 944) (v := 1) hx hb dL_acts_944 (by decide) ?_
        refine lv_goto (pc := 945) (tgt := 949) hx hb dL_acts_945 (by decide) ?_
        exact W.widen (Nat.le_of_ble_eq_true rfl : 61 ≤ 62) (Nat.le_of_ble_eq_true rfl : 652 ≤ 658) (jl_acts_949 X hE   _ _ _ _ _ _ _ _ _ _ hf _ _ _ h (lv_sub hl [2, 4, 5, 6, 8, 1] rfl))
def f_L_acts_866 (d : Dk) (u : Dk) (b : (Nat → Int32)) (w : (Nat → Int32)) (x7 : Int32) (x12 : Int32) (x13 : Int32) (x14 : Int32) : Option (Int32 × Dk × Dk × (Nat → Int32) × (Nat → Int32)) := (f_L_acts_867 d u b w x7 x12 x13 x14 (0 : Int32))
set_option maxHeartbeats 1000000 in
set_option maxRecDepth 100000 in
theorem jl_acts_866  (X : LCx p l s m args meth c cL_acts 19 D cA A) (hE : ∀ (z : Int32 × Dk × Dk × (Nat → Int32) × (Nat → Int32)) (q tq : Nat → Nat → Nat) (pc : Nat) (H : Heap) (locs : List Loc) (ls : Array Slot) (cells slots : Nat), (z.1 = 0 ∨ z.1 = 1) → decode cL_acts pc = .ok (.ireturn, 1) → cells ≤ 81 → slots ≤ 772 → St D A s.heap (aW q0 q cA z.2.1 t0 tq z.2.2.1 ab aw z.2.2.2.1 z.2.2.2.2) H locs → W p l e rm_L_acts s m args below meth c H locs cells slots (Qf z) (F0 m pc ls [.int z.1])) (d : Dk) (u : Dk) (b : (Nat → Int32)) (w : (Nat → Int32)) (x7 : Int32) (x12 : Int32) (x13 : Int32) (x14 : Int32) (z : Int32 × Dk × Dk × (Nat → Int32) × (Nat → Int32)) (hf : f_L_acts_866 d u b w x7 x12 x13 x14 = some z) (H : Heap) (locs : List Loc) (ls : Array Slot) (h : St D A s.heap (aW q0 q cA d t0 tq u ab aw b w) H locs) (hl : lv_has ls 19 [(0, .ref (q0 0)), (1, .ref (t0 0)), (3, .ref (aw)), (7, .int x7), (12, .int x12), (13, .int x13), (14, .int x14)]) : W p l e rm_L_acts s m args below meth c H locs 59 640 (Qf z) (F0 m 866 ls []) := by
  obtain ⟨C, hl0, hXA, hN⟩ := id X
  obtain ⟨hx, hb, hml, hown, hts, hK, hlk⟩ := id C
  rw [f_L_acts_866] at hf
  refine lv_iconst (pc := 866) (v := 0) hx hb dL_acts_866 (by decide) ?_
  exact jl_acts_867 X hE   _ _ _ _ _ _ _ _ _ _ hf _ _ _ h (lv_sub hl [0, 1, 2, 3, 4, 5, 6] rfl)
def f_L_acts_823 (d : Dk) (u : Dk) (b : (Nat → Int32)) (w : (Nat → Int32)) (x7 : Int32) (x8 : Int32) (x10 : Int32) (x12 : Int32) (s0 : Int32) : Option (Int32 × Dk × Dk × (Nat → Int32) × (Nat → Int32)) := ((gm_whyNot d s0 x7 x12).bind fun z1 => (if x8 = 0 then (f_L_acts_866 d u b w x7 x12 s0 z1) else (if x10 ≤ x12 then (f_L_acts_866 d u b w x7 x12 s0 z1) else (if inb (((8 : Int32) * x7) + x12) 48 then ((gm_signedFor d (w (((8 : Int32) * x7) + x12).toNatClampNeg)).bind fun z2 => (f_L_acts_867 d u b w x7 x12 s0 z1 z2)) else none))))
set_option maxHeartbeats 1000000 in
set_option maxRecDepth 100000 in
theorem jl_acts_823  (X : LCx p l s m args meth c cL_acts 19 D cA A) (hE : ∀ (z : Int32 × Dk × Dk × (Nat → Int32) × (Nat → Int32)) (q tq : Nat → Nat → Nat) (pc : Nat) (H : Heap) (locs : List Loc) (ls : Array Slot) (cells slots : Nat), (z.1 = 0 ∨ z.1 = 1) → decode cL_acts pc = .ok (.ireturn, 1) → cells ≤ 81 → slots ≤ 772 → St D A s.heap (aW q0 q cA z.2.1 t0 tq z.2.2.1 ab aw z.2.2.2.1 z.2.2.2.2) H locs → W p l e rm_L_acts s m args below meth c H locs cells slots (Qf z) (F0 m pc ls [.int z.1])) (d : Dk) (u : Dk) (b : (Nat → Int32)) (w : (Nat → Int32)) (x7 : Int32) (x8 : Int32) (x10 : Int32) (x12 : Int32) (s0 : Int32) (z : Int32 × Dk × Dk × (Nat → Int32) × (Nat → Int32)) (hf : f_L_acts_823 d u b w x7 x8 x10 x12 s0 = some z) (H : Heap) (locs : List Loc) (ls : Array Slot) (h : St D A s.heap (aW q0 q cA d t0 tq u ab aw b w) H locs) (hl : lv_has ls 19 [(0, .ref (q0 0)), (1, .ref (t0 0)), (3, .ref (aw)), (7, .int x7), (8, .int x8), (10, .int x10), (12, .int x12)]) : W p l e rm_L_acts s m args below meth c H locs 57 628 (Qf z) (F0 m 823 ls [.int s0]) := by
  obtain ⟨C, hl0, hXA, hN⟩ := id X
  obtain ⟨hx, hb, hml, hown, hts, hK, hlk⟩ := id C
  rw [f_L_acts_823] at hf
  refine lv_istore (pc := 823) (lv' := [(13, .int s0), (0, .ref (q0 0)), (1, .ref (t0 0)), (3, .ref (aw)), (7, .int x7), (8, .int x8), (10, .int x10), (12, .int x12)]) hx hb dL_acts_823 hl (by decide) rfl (fun ls hl => ?_)
  refine lv_aload_n (pc := 825) hx hb dL_acts_825 rfl (lv_at hl 1 rfl) ?_
  refine lv_iload (pc := 826) hx hb dL_acts_826 (lv_at hl 0 rfl) ?_
  refine lv_iload (pc := 828) hx hb dL_acts_828 (lv_at hl 4 rfl) ?_
  refine lv_iload (pc := 830) hx hb dL_acts_830 (lv_at hl 7 rfl) ?_
  obtain ⟨z1, hc1, hf⟩ := bdS hf
  refine call_H (pc := 832) (As := [.ref (q0 0), .int s0, .int x7, .int x12]) (rest := []) (ws' := (aW q0 q cA d t0 tq u ab aw b w)) X h (vm_whyNot d s0 x7 x12 hc1) cx_L_167 (aW_o q0 q cA d t0 tq u ab aw b w) (aW_o q0 q cA d t0 tq u ab aw b w).symm rfl rfl rfl hl.1 (Nat.le_of_ble_eq_true rfl) dL_acts_832 ⟨(Nat.le_of_ble_eq_true rfl), (Nat.le_of_ble_eq_true rfl)⟩ rfl rfl ⟨(Nat.le_of_ble_eq_true rfl), (Nat.le_of_ble_eq_true rfl)⟩ (fun H locs h => ?_)
  refine W.eq (g2 := F0 m 835 ls [.int z1]) rfl ?_
  refine lv_istore (pc := 835) (lv' := [(14, .int z1), (13, .int s0), (0, .ref (q0 0)), (1, .ref (t0 0)), (3, .ref (aw)), (7, .int x7), (8, .int x8), (10, .int x10), (12, .int x12)]) hx hb dL_acts_835 hl (by decide) rfl (fun ls hl => ?_)
  refine lv_iload (pc := 837) hx hb dL_acts_837 (lv_at hl 6 rfl) ?_
  refine lv_if_eq (pc := 839) (tgt := 866) hx hb dL_acts_839 (by decide) (fun c9 => ?_) (fun c9 => ?_)
  · have hf := ifT c9 hf
    exact W.widen (Nat.le_of_ble_eq_true rfl : 58 ≤ 59) (Nat.le_of_ble_eq_true rfl : 634 ≤ 640) (jl_acts_866 X hE   _ _ _ _ _ _ _ _ _ hf _ _ _ h (lv_sub hl [2, 3, 4, 5, 8, 1, 0] rfl))
  · have hf := ifF c9 hf
    refine lv_iload (pc := 842) hx hb dL_acts_842 (lv_at hl 8 rfl) ?_
    refine lv_iload (pc := 844) hx hb dL_acts_844 (lv_at hl 7 rfl) ?_
    refine lv_icmp_ge (pc := 846) (tgt := 866) hx hb dL_acts_846 (by decide) (fun c9 => ?_) (fun c9 => ?_)
    · have hf := ifT c9 hf
      exact W.widen (Nat.le_of_ble_eq_true rfl : 58 ≤ 59) (Nat.le_of_ble_eq_true rfl : 634 ≤ 640) (jl_acts_866 X hE   _ _ _ _ _ _ _ _ _ hf _ _ _ h (lv_sub hl [2, 3, 4, 5, 8, 1, 0] rfl))
    · have hf := ifF c9 hf
      refine lv_aload_n (pc := 849) hx hb dL_acts_849 rfl (lv_at hl 2 rfl) ?_
      refine lv_aload_n (pc := 850) hx hb dL_acts_850 rfl (lv_at hl 4 rfl) ?_
      refine lv_bipush (pc := 851) (v := 8) hx hb dL_acts_851 (by decide) ?_
      refine lv_iload (pc := 853) hx hb dL_acts_853 (lv_at hl 5 rfl) ?_
      refine lv_imul (pc := 855) hx hb dL_acts_855 ?_
      refine lv_iload (pc := 856) hx hb dL_acts_856 (lv_at hl 8 rfl) ?_
      refine lv_iadd (pc := 858) hx hb dL_acts_858 ?_
      obtain ⟨hin, hf⟩ := ifS hf
      refine g_ild (pc := 859) (n := 48) (f := w) C h.1 1 (aW_1 ..) hin dL_acts_859 ?_
      obtain ⟨z2, hc2, hf⟩ := bdS hf
      refine call_H (pc := 860) (As := [.ref (q0 0), .int (w (((8 : Int32) * x7) + x12).toNatClampNeg)]) (rest := []) (ws' := (aW q0 q cA d t0 tq u ab aw b w)) X h (vm_signedFor d (w (((8 : Int32) * x7) + x12).toNatClampNeg) hc2) cx_L_156 (aW_o q0 q cA d t0 tq u ab aw b w) (aW_o q0 q cA d t0 tq u ab aw b w).symm rfl rfl rfl hl.1 (Nat.le_of_ble_eq_true rfl) dL_acts_860 ⟨(Nat.le_of_ble_eq_true rfl), (Nat.le_of_ble_eq_true rfl)⟩ rfl rfl ⟨(Nat.le_of_ble_eq_true rfl), (Nat.le_of_ble_eq_true rfl)⟩ (fun H locs h => ?_)
      refine W.eq (g2 := F0 m 863 ls [.int z2]) rfl ?_
      refine lv_goto (pc := 863) (tgt := 867) hx hb dL_acts_863 (by decide) ?_
      exact jl_acts_867 X hE   _ _ _ _ _ _ _ _ _ _ hf _ _ _ h (lv_sub hl [2, 3, 4, 5, 8, 1, 0] rfl)
def f_L_acts_821 (d : Dk) (u : Dk) (b : (Nat → Int32)) (w : (Nat → Int32)) (x7 : Int32) (x8 : Int32) (x10 : Int32) (x11 : Int32) (x12 : Int32) : Option (Int32 × Dk × Dk × (Nat → Int32) × (Nat → Int32)) := (f_L_acts_823 d u b w x7 x8 x10 x12 x11)
set_option maxHeartbeats 1000000 in
set_option maxRecDepth 100000 in
theorem jl_acts_821  (X : LCx p l s m args meth c cL_acts 19 D cA A) (hE : ∀ (z : Int32 × Dk × Dk × (Nat → Int32) × (Nat → Int32)) (q tq : Nat → Nat → Nat) (pc : Nat) (H : Heap) (locs : List Loc) (ls : Array Slot) (cells slots : Nat), (z.1 = 0 ∨ z.1 = 1) → decode cL_acts pc = .ok (.ireturn, 1) → cells ≤ 81 → slots ≤ 772 → St D A s.heap (aW q0 q cA z.2.1 t0 tq z.2.2.1 ab aw z.2.2.2.1 z.2.2.2.2) H locs → W p l e rm_L_acts s m args below meth c H locs cells slots (Qf z) (F0 m pc ls [.int z.1])) (d : Dk) (u : Dk) (b : (Nat → Int32)) (w : (Nat → Int32)) (x7 : Int32) (x8 : Int32) (x10 : Int32) (x11 : Int32) (x12 : Int32) (z : Int32 × Dk × Dk × (Nat → Int32) × (Nat → Int32)) (hf : f_L_acts_821 d u b w x7 x8 x10 x11 x12 = some z) (H : Heap) (locs : List Loc) (ls : Array Slot) (h : St D A s.heap (aW q0 q cA d t0 tq u ab aw b w) H locs) (hl : lv_has ls 19 [(0, .ref (q0 0)), (1, .ref (t0 0)), (3, .ref (aw)), (7, .int x7), (8, .int x8), (10, .int x10), (11, .int x11), (12, .int x12)]) : W p l e rm_L_acts s m args below meth c H locs 57 628 (Qf z) (F0 m 821 ls []) := by
  obtain ⟨C, hl0, hXA, hN⟩ := id X
  obtain ⟨hx, hb, hml, hown, hts, hK, hlk⟩ := id C
  rw [f_L_acts_821] at hf
  refine lv_iload (pc := 821) hx hb dL_acts_821 (lv_at hl 6 rfl) ?_
  exact jl_acts_823 X hE   _ _ _ _ _ _ _ _ _ _ hf _ _ _ h (lv_sub hl [0, 1, 2, 3, 4, 5, 7] rfl)
def f_L_acts_695 (d : Dk) (u : Dk) (b : (Nat → Int32)) (w : (Nat → Int32)) (x13 : Int32) : Option (Int32 × Dk × Dk × (Nat → Int32) × (Nat → Int32)) := (if x13 = (-1000003 : Int32) then (some ((1 : Int32), d, u, b, w)) else (some ((0 : Int32), d, u, b, w)))
set_option maxHeartbeats 1000000 in
set_option maxRecDepth 100000 in
theorem jl_acts_695  (X : LCx p l s m args meth c cL_acts 19 D cA A) (hE : ∀ (z : Int32 × Dk × Dk × (Nat → Int32) × (Nat → Int32)) (q tq : Nat → Nat → Nat) (pc : Nat) (H : Heap) (locs : List Loc) (ls : Array Slot) (cells slots : Nat), (z.1 = 0 ∨ z.1 = 1) → decode cL_acts pc = .ok (.ireturn, 1) → cells ≤ 81 → slots ≤ 772 → St D A s.heap (aW q0 q cA z.2.1 t0 tq z.2.2.1 ab aw z.2.2.2.1 z.2.2.2.2) H locs → W p l e rm_L_acts s m args below meth c H locs cells slots (Qf z) (F0 m pc ls [.int z.1])) (d : Dk) (u : Dk) (b : (Nat → Int32)) (w : (Nat → Int32)) (x13 : Int32) (z : Int32 × Dk × Dk × (Nat → Int32) × (Nat → Int32)) (hf : f_L_acts_695 d u b w x13 = some z) (H : Heap) (locs : List Loc) (ls : Array Slot) (h : St D A s.heap (aW q0 q cA d t0 tq u ab aw b w) H locs) (hl : lv_has ls 19 [(13, .int x13)]) : W p l e rm_L_acts s m args below meth c H locs 54 610 (Qf z) (F0 m 695 ls []) := by
  obtain ⟨C, hl0, hXA, hN⟩ := id X
  obtain ⟨hx, hb, hml, hown, hts, hK, hlk⟩ := id C
  rw [f_L_acts_695] at hf
  refine lv_iload (pc := 695) hx hb dL_acts_695 (lv_at hl 0 rfl) ?_
  refine lv_ldc (pc := 697) (v := -1000003) hx hb hown (hts _ kc_L_18) dL_acts_697 ?_
  refine lv_icmp_ne (pc := 699) (tgt := 724) hx hb dL_acts_699 (by decide) (fun c9 => ?_) (fun c9 => ?_)
  · have hf := ifF c9 hf
    refine lv_iconst (pc := 724) (v := 0) hx hb dL_acts_724 (by decide) ?_
    cases hf
    exact hE ((0 : Int32), d, u, b, w) q tq 725 _ _ _ _ _ (Or.inl rfl) dL_acts_725 (Nat.le_of_ble_eq_true rfl) (Nat.le_of_ble_eq_true rfl) h
  · have hf := ifT c9 hf
    refine lv_goto (pc := 702) (tgt := 720) hx hb dL_acts_702 (by decide) ?_
    refine lv_iconst (pc := 720) (v := 1) hx hb dL_acts_720 (by decide) ?_
    refine lv_goto (pc := 721) (tgt := 725) hx hb dL_acts_721 (by decide) ?_
    cases hf
    exact hE ((1 : Int32), d, u, b, w) q tq 725 _ _ _ _ _ (Or.inr rfl) dL_acts_725 (Nat.le_of_ble_eq_true rfl) (Nat.le_of_ble_eq_true rfl) h
def f_L_acts_635 (d : Dk) (u : Dk) (b : (Nat → Int32)) (w : (Nat → Int32)) (s0 : Int32) (s1 : Int32) : Option (Int32 × Dk × Dk × (Nat → Int32) × (Nat → Int32)) := (if s1 = s0 then (some ((1 : Int32), d, u, b, w)) else (some ((0 : Int32), d, u, b, w)))
set_option maxHeartbeats 1000000 in
set_option maxRecDepth 100000 in
theorem jl_acts_635  (X : LCx p l s m args meth c cL_acts 19 D cA A) (hE : ∀ (z : Int32 × Dk × Dk × (Nat → Int32) × (Nat → Int32)) (q tq : Nat → Nat → Nat) (pc : Nat) (H : Heap) (locs : List Loc) (ls : Array Slot) (cells slots : Nat), (z.1 = 0 ∨ z.1 = 1) → decode cL_acts pc = .ok (.ireturn, 1) → cells ≤ 81 → slots ≤ 772 → St D A s.heap (aW q0 q cA z.2.1 t0 tq z.2.2.1 ab aw z.2.2.2.1 z.2.2.2.2) H locs → W p l e rm_L_acts s m args below meth c H locs cells slots (Qf z) (F0 m pc ls [.int z.1])) (d : Dk) (u : Dk) (b : (Nat → Int32)) (w : (Nat → Int32)) (s0 : Int32) (s1 : Int32) (z : Int32 × Dk × Dk × (Nat → Int32) × (Nat → Int32)) (hf : f_L_acts_635 d u b w s0 s1 = some z) (H : Heap) (locs : List Loc) (ls : Array Slot) (h : St D A s.heap (aW q0 q cA d t0 tq u ab aw b w) H locs) (hl : lv_has ls 19 []) : W p l e rm_L_acts s m args below meth c H locs 52 598 (Qf z) (F0 m 635 ls [.int s0, .int s1]) := by
  obtain ⟨C, hl0, hXA, hN⟩ := id X
  obtain ⟨hx, hb, hml, hown, hts, hK, hlk⟩ := id C
  rw [f_L_acts_635] at hf
  refine lv_icmp_ne (pc := 635) (tgt := 642) hx hb dL_acts_635 (by decide) (fun c9 => ?_) (fun c9 => ?_)
  · have hf := ifF c9 hf
    refine lv_iconst (pc := 642) (v := 0) hx hb dL_acts_642 (by decide) ?_
    cases hf
    exact hE ((0 : Int32), d, u, b, w) q tq 643 _ _ _ _ _ (Or.inl rfl) dL_acts_643 (Nat.le_of_ble_eq_true rfl) (Nat.le_of_ble_eq_true rfl) h
  · have hf := ifT c9 hf
    refine lv_iconst (pc := 638) (v := 1) hx hb dL_acts_638 (by decide) ?_
    refine lv_goto (pc := 639) (tgt := 643) hx hb dL_acts_639 (by decide) ?_
    cases hf
    exact hE ((1 : Int32), d, u, b, w) q tq 643 _ _ _ _ _ (Or.inr rfl) dL_acts_643 (Nat.le_of_ble_eq_true rfl) (Nat.le_of_ble_eq_true rfl) h
def f_L_acts_582 (d : Dk) (u : Dk) (b : (Nat → Int32)) (w : (Nat → Int32)) (x7 : Int32) (x8 : Int32) (x13 : Int32) (x14 : Int32) (s0 : Int32) : Option (Int32 × Dk × Dk × (Nat → Int32) × (Nat → Int32)) := ((gm_setTimes d x7 x14 s0).bind fun z1 => (if z1.1 = x13 then ((gm_setTimes u x7 x14 s0).bind fun z2 => (if z2.1 = x13 then ((gm_setTimes z1.2 x7 (31 : Int32) (0 : Int32)).bind fun z3 => (if x8 = 0 then (f_L_acts_635 z3.2 z2.2 b w (-1000001 : Int32) z3.1) else (f_L_acts_635 z3.2 z2.2 b w (-1000002 : Int32) z3.1))) else (some ((0 : Int32), z1.2, z2.2, b, w)))) else (some ((0 : Int32), z1.2, u, b, w))))
set_option maxHeartbeats 1000000 in
set_option maxRecDepth 100000 in
theorem jl_acts_582  (X : LCx p l s m args meth c cL_acts 19 D cA A) (hE : ∀ (z : Int32 × Dk × Dk × (Nat → Int32) × (Nat → Int32)) (q tq : Nat → Nat → Nat) (pc : Nat) (H : Heap) (locs : List Loc) (ls : Array Slot) (cells slots : Nat), (z.1 = 0 ∨ z.1 = 1) → decode cL_acts pc = .ok (.ireturn, 1) → cells ≤ 81 → slots ≤ 772 → St D A s.heap (aW q0 q cA z.2.1 t0 tq z.2.2.1 ab aw z.2.2.2.1 z.2.2.2.2) H locs → W p l e rm_L_acts s m args below meth c H locs cells slots (Qf z) (F0 m pc ls [.int z.1])) (d : Dk) (u : Dk) (b : (Nat → Int32)) (w : (Nat → Int32)) (x7 : Int32) (x8 : Int32) (x13 : Int32) (x14 : Int32) (s0 : Int32) (z : Int32 × Dk × Dk × (Nat → Int32) × (Nat → Int32)) (hf : f_L_acts_582 d u b w x7 x8 x13 x14 s0 = some z) (H : Heap) (locs : List Loc) (ls : Array Slot) (h : St D A s.heap (aW q0 q cA d t0 tq u ab aw b w) H locs) (hl : lv_has ls 19 [(0, .ref (q0 0)), (1, .ref (t0 0)), (7, .int x7), (8, .int x8), (13, .int x13), (14, .int x14)]) : W p l e rm_L_acts s m args below meth c H locs 49 580 (Qf z) (F0 m 582 ls [.int s0]) := by
  obtain ⟨C, hl0, hXA, hN⟩ := id X
  obtain ⟨hx, hb, hml, hown, hts, hK, hlk⟩ := id C
  rw [f_L_acts_582] at hf
  refine lv_istore (pc := 582) (lv' := [(15, .int s0), (0, .ref (q0 0)), (1, .ref (t0 0)), (7, .int x7), (8, .int x8), (13, .int x13), (14, .int x14)]) hx hb dL_acts_582 hl (by decide) rfl (fun ls hl => ?_)
  refine lv_aload_n (pc := 584) hx hb dL_acts_584 rfl (lv_at hl 1 rfl) ?_
  refine lv_iload (pc := 585) hx hb dL_acts_585 (lv_at hl 3 rfl) ?_
  refine lv_iload (pc := 587) hx hb dL_acts_587 (lv_at hl 6 rfl) ?_
  refine lv_iload (pc := 589) hx hb dL_acts_589 (lv_at hl 0 rfl) ?_
  obtain ⟨z1, hc1, hf⟩ := bdS hf
  refine call_H (pc := 591) (As := [.ref (q0 0), .int x7, .int x14, .int s0]) (rest := []) (ws' := (aW q0 q cA z1.2 t0 tq u ab aw b w)) X h (vm_setTimes d x7 x14 s0 hc1) cx_L_202 (aW_o q0 q cA d t0 tq u ab aw b w) (aW_o q0 q cA z1.2 t0 tq u ab aw b w).symm (kW_fst _ _ _ _ _ (nm_setTimes hc1)) rfl rfl hl.1 (Nat.le_of_ble_eq_true rfl) dL_acts_591 ⟨(Nat.le_of_ble_eq_true rfl), (Nat.le_of_ble_eq_true rfl)⟩ rfl rfl ⟨(Nat.le_of_ble_eq_true rfl), (Nat.le_of_ble_eq_true rfl)⟩ (fun H locs h => ?_)
  refine W.eq (g2 := F0 m 594 ls [.int z1.1]) rfl ?_
  refine lv_iload (pc := 594) hx hb dL_acts_594 (lv_at hl 5 rfl) ?_
  refine lv_icmp_ne (pc := 596) (tgt := 642) hx hb dL_acts_596 (by decide) (fun c9 => ?_) (fun c9 => ?_)
  · have hf := ifF c9 hf
    refine lv_iconst (pc := 642) (v := 0) hx hb dL_acts_642 (by decide) ?_
    cases hf
    exact hE ((0 : Int32), z1.2, u, b, w) q tq 643 _ _ _ _ _ (Or.inl rfl) dL_acts_643 (Nat.le_of_ble_eq_true rfl) (Nat.le_of_ble_eq_true rfl) h
  · have hf := ifT c9 hf
    refine lv_aload_n (pc := 599) hx hb dL_acts_599 rfl (lv_at hl 2 rfl) ?_
    refine lv_iload (pc := 600) hx hb dL_acts_600 (lv_at hl 3 rfl) ?_
    refine lv_iload (pc := 602) hx hb dL_acts_602 (lv_at hl 6 rfl) ?_
    refine lv_iload (pc := 604) hx hb dL_acts_604 (lv_at hl 0 rfl) ?_
    obtain ⟨z2, hc2, hf⟩ := bdS hf
    refine call_H (pc := 606) (As := [.ref (t0 0), .int x7, .int x14, .int s0]) (rest := []) (ws' := (aW q0 q cA z1.2 t0 tq z2.2 ab aw b w)) X h (vm_setTimes u x7 x14 s0 hc2) cx_L_202 (aW_t q0 q cA z1.2 t0 tq u ab aw b w) (aW_t q0 q cA z1.2 t0 tq z2.2 ab aw b w).symm (kW_fst _ _ _ _ _ (nm_setTimes hc2)) rfl rfl hl.1 (Nat.le_of_ble_eq_true rfl) dL_acts_606 ⟨(Nat.le_of_ble_eq_true rfl), (Nat.le_of_ble_eq_true rfl)⟩ rfl rfl ⟨(Nat.le_of_ble_eq_true rfl), (Nat.le_of_ble_eq_true rfl)⟩ (fun H locs h => ?_)
    refine W.eq (g2 := F0 m 609 ls [.int z2.1]) rfl ?_
    refine lv_iload (pc := 609) hx hb dL_acts_609 (lv_at hl 5 rfl) ?_
    refine lv_icmp_ne (pc := 611) (tgt := 642) hx hb dL_acts_611 (by decide) (fun c9 => ?_) (fun c9 => ?_)
    · have hf := ifF c9 hf
      refine lv_iconst (pc := 642) (v := 0) hx hb dL_acts_642 (by decide) ?_
      cases hf
      exact hE ((0 : Int32), z1.2, z2.2, b, w) q tq 643 _ _ _ _ _ (Or.inl rfl) dL_acts_643 (Nat.le_of_ble_eq_true rfl) (Nat.le_of_ble_eq_true rfl) h
    · have hf := ifT c9 hf
      refine lv_aload_n (pc := 614) hx hb dL_acts_614 rfl (lv_at hl 1 rfl) ?_
      refine lv_iload (pc := 615) hx hb dL_acts_615 (lv_at hl 3 rfl) ?_
      refine lv_bipush (pc := 617) (v := 31) hx hb dL_acts_617 (by decide) ?_
      refine lv_iconst (pc := 619) (v := 0) hx hb dL_acts_619 (by decide) ?_
      obtain ⟨z3, hc3, hf⟩ := bdS hf
      refine call_H (pc := 620) (As := [.ref (q0 0), .int x7, .int (31 : Int32), .int (0 : Int32)]) (rest := []) (ws' := (aW q0 q cA z3.2 t0 tq z2.2 ab aw b w)) X h (vm_setTimes z1.2 x7 (31 : Int32) (0 : Int32) hc3) cx_L_202 (aW_o q0 q cA z1.2 t0 tq z2.2 ab aw b w) (aW_o q0 q cA z3.2 t0 tq z2.2 ab aw b w).symm (kW_fst _ _ _ _ _ (nm_setTimes hc3)) rfl rfl hl.1 (Nat.le_of_ble_eq_true rfl) dL_acts_620 ⟨(Nat.le_of_ble_eq_true rfl), (Nat.le_of_ble_eq_true rfl)⟩ rfl rfl ⟨(Nat.le_of_ble_eq_true rfl), (Nat.le_of_ble_eq_true rfl)⟩ (fun H locs h => ?_)
      refine W.eq (g2 := F0 m 623 ls [.int z3.1]) rfl ?_
      refine lv_iload (pc := 623) hx hb dL_acts_623 (lv_at hl 4 rfl) ?_
      refine lv_if_eq (pc := 625) (tgt := 633) hx hb dL_acts_625 (by decide) (fun c9 => ?_) (fun c9 => ?_)
      · have hf := ifT c9 hf
        refine lv_ldc (pc := 633) (v := -1000001) hx hb hown (hts _ kc_L_25) dL_acts_633 ?_
        exact jl_acts_635 X hE   _ _ _ _ _ _ _ hf _ _ _ h (lv_sub hl [] rfl)
      · have hf := ifF c9 hf
        refine lv_ldc (pc := 628) (v := -1000002) hx hb hown (hts _ kc_L_28) dL_acts_628 ?_
        refine lv_goto (pc := 630) (tgt := 635) hx hb dL_acts_630 (by decide) ?_
        exact jl_acts_635 X hE   _ _ _ _ _ _ _ hf _ _ _ h (lv_sub hl [] rfl)
def f_L_acts_546 (d : Dk) (u : Dk) (b : (Nat → Int32)) (w : (Nat → Int32)) (x5 : Int32) (x7 : Int32) (x8 : Int32) (s0 : Int32) : Option (Int32 × Dk × Dk × (Nat → Int32) × (Nat → Int32)) := ((f_L_low x5 (7 : Int32)).bind fun z1 => ((f_L_low (x5 >>> ((4 : Int32) &&& 31)) (3 : Int32)).bind fun z2 => (if z2 = 0 then (f_L_acts_582 d u b w x7 x8 s0 z1 (0 : Int32)) else ((f_L_low (x5 >>> ((6 : Int32) &&& 31)) (61 : Int32)).bind fun z3 => (f_L_acts_582 d u b w x7 x8 s0 z1 z3)))))
set_option maxHeartbeats 1000000 in
set_option maxRecDepth 100000 in
theorem jl_acts_546  (X : LCx p l s m args meth c cL_acts 19 D cA A) (hE : ∀ (z : Int32 × Dk × Dk × (Nat → Int32) × (Nat → Int32)) (q tq : Nat → Nat → Nat) (pc : Nat) (H : Heap) (locs : List Loc) (ls : Array Slot) (cells slots : Nat), (z.1 = 0 ∨ z.1 = 1) → decode cL_acts pc = .ok (.ireturn, 1) → cells ≤ 81 → slots ≤ 772 → St D A s.heap (aW q0 q cA z.2.1 t0 tq z.2.2.1 ab aw z.2.2.2.1 z.2.2.2.2) H locs → W p l e rm_L_acts s m args below meth c H locs cells slots (Qf z) (F0 m pc ls [.int z.1])) (d : Dk) (u : Dk) (b : (Nat → Int32)) (w : (Nat → Int32)) (x5 : Int32) (x7 : Int32) (x8 : Int32) (s0 : Int32) (z : Int32 × Dk × Dk × (Nat → Int32) × (Nat → Int32)) (hf : f_L_acts_546 d u b w x5 x7 x8 s0 = some z) (H : Heap) (locs : List Loc) (ls : Array Slot) (h : St D A s.heap (aW q0 q cA d t0 tq u ab aw b w) H locs) (hl : lv_has ls 19 [(0, .ref (q0 0)), (1, .ref (t0 0)), (5, .int x5), (7, .int x7), (8, .int x8)]) : W p l e rm_L_acts s m args below meth c H locs 49 580 (Qf z) (F0 m 546 ls [.int s0]) := by
  obtain ⟨C, hl0, hXA, hN⟩ := id X
  obtain ⟨hx, hb, hml, hown, hts, hK, hlk⟩ := id C
  rw [f_L_acts_546] at hf
  refine lv_istore (pc := 546) (lv' := [(13, .int s0), (0, .ref (q0 0)), (1, .ref (t0 0)), (5, .int x5), (7, .int x7), (8, .int x8)]) hx hb dL_acts_546 hl (by decide) rfl (fun ls hl => ?_)
  refine lv_iload (pc := 548) hx hb dL_acts_548 (lv_at hl 3 rfl) ?_
  refine lv_bipush (pc := 550) (v := 7) hx hb dL_acts_550 (by decide) ?_
  obtain ⟨z1, hc1, hf⟩ := bdS hf
  refine call_SR (pc := 552) (As := [.int x5, .int (7 : Int32)]) (rest := []) (wc := []) C h (k_L_low x5 (7 : Int32) hc1) cw_L_192 [] rfl rfl rfl rfl hl.1 (Nat.le_of_ble_eq_true rfl) dL_acts_552 ⟨(Nat.le_of_ble_eq_true rfl), (Nat.le_of_ble_eq_true rfl)⟩ rfl rfl ⟨(Nat.le_of_ble_eq_true rfl), (Nat.le_of_ble_eq_true rfl)⟩ (fun H locs h => ?_)
  refine W.eq (g2 := F0 m 555 ls [.int z1]) rfl ?_
  refine lv_istore (pc := 555) (lv' := [(14, .int z1), (13, .int s0), (0, .ref (q0 0)), (1, .ref (t0 0)), (5, .int x5), (7, .int x7), (8, .int x8)]) hx hb dL_acts_555 hl (by decide) rfl (fun ls hl => ?_)
  refine lv_iload (pc := 557) hx hb dL_acts_557 (lv_at hl 4 rfl) ?_
  refine lv_iconst (pc := 559) (v := 4) hx hb dL_acts_559 (by decide) ?_
  refine lv_ishr (pc := 560) hx hb dL_acts_560 ?_
  refine lv_iconst (pc := 561) (v := 3) hx hb dL_acts_561 (by decide) ?_
  obtain ⟨z2, hc2, hf⟩ := bdS hf
  refine call_SR (pc := 562) (As := [.int (x5 >>> ((4 : Int32) &&& 31)), .int (3 : Int32)]) (rest := []) (wc := []) C h (k_L_low (x5 >>> ((4 : Int32) &&& 31)) (3 : Int32) hc2) cw_L_192 [] rfl rfl rfl rfl hl.1 (Nat.le_of_ble_eq_true rfl) dL_acts_562 ⟨(Nat.le_of_ble_eq_true rfl), (Nat.le_of_ble_eq_true rfl)⟩ rfl rfl ⟨(Nat.le_of_ble_eq_true rfl), (Nat.le_of_ble_eq_true rfl)⟩ (fun H locs h => ?_)
  refine W.eq (g2 := F0 m 565 ls [.int z2]) rfl ?_
  refine lv_if_ne (pc := 565) (tgt := 572) hx hb dL_acts_565 (by decide) (fun c9 => ?_) (fun c9 => ?_)
  · have hf := ifF c9 hf
    refine lv_iload (pc := 572) hx hb dL_acts_572 (lv_at hl 4 rfl) ?_
    refine lv_bipush (pc := 574) (v := 6) hx hb dL_acts_574 (by decide) ?_
    refine lv_ishr (pc := 576) hx hb dL_acts_576 ?_
    refine lv_bipush (pc := 577) (v := 61) hx hb dL_acts_577 (by decide) ?_
    obtain ⟨z3, hc3, hf⟩ := bdS hf
    refine call_SR (pc := 579) (As := [.int (x5 >>> ((6 : Int32) &&& 31)), .int (61 : Int32)]) (rest := []) (wc := []) C h (k_L_low (x5 >>> ((6 : Int32) &&& 31)) (61 : Int32) hc3) cw_L_192 [] rfl rfl rfl rfl hl.1 (Nat.le_of_ble_eq_true rfl) dL_acts_579 ⟨(Nat.le_of_ble_eq_true rfl), (Nat.le_of_ble_eq_true rfl)⟩ rfl rfl ⟨(Nat.le_of_ble_eq_true rfl), (Nat.le_of_ble_eq_true rfl)⟩ (fun H locs h => ?_)
    refine W.eq (g2 := F0 m 582 ls [.int z3]) rfl ?_
    exact jl_acts_582 X hE   _ _ _ _ _ _ _ _ _ _ hf _ _ _ h (lv_sub hl [2, 3, 5, 6, 1, 0] rfl)
  · have hf := ifT c9 hf
    refine lv_iconst (pc := 568) (v := 0) hx hb dL_acts_568 (by decide) ?_
    refine lv_goto (pc := 569) (tgt := 582) hx hb dL_acts_569 (by decide) ?_
    exact jl_acts_582 X hE   _ _ _ _ _ _ _ _ _ _ hf _ _ _ h (lv_sub hl [2, 3, 5, 6, 1, 0] rfl)
def f_L_acts_509 (d : Dk) (u : Dk) (b : (Nat → Int32)) (w : (Nat → Int32)) (s0 : Int32) (s1 : Int32) : Option (Int32 × Dk × Dk × (Nat → Int32) × (Nat → Int32)) := (if s1 = s0 then (some ((1 : Int32), d, u, b, w)) else (some ((0 : Int32), d, u, b, w)))
set_option maxHeartbeats 1000000 in
set_option maxRecDepth 100000 in
theorem jl_acts_509  (X : LCx p l s m args meth c cL_acts 19 D cA A) (hE : ∀ (z : Int32 × Dk × Dk × (Nat → Int32) × (Nat → Int32)) (q tq : Nat → Nat → Nat) (pc : Nat) (H : Heap) (locs : List Loc) (ls : Array Slot) (cells slots : Nat), (z.1 = 0 ∨ z.1 = 1) → decode cL_acts pc = .ok (.ireturn, 1) → cells ≤ 81 → slots ≤ 772 → St D A s.heap (aW q0 q cA z.2.1 t0 tq z.2.2.1 ab aw z.2.2.2.1 z.2.2.2.2) H locs → W p l e rm_L_acts s m args below meth c H locs cells slots (Qf z) (F0 m pc ls [.int z.1])) (d : Dk) (u : Dk) (b : (Nat → Int32)) (w : (Nat → Int32)) (s0 : Int32) (s1 : Int32) (z : Int32 × Dk × Dk × (Nat → Int32) × (Nat → Int32)) (hf : f_L_acts_509 d u b w s0 s1 = some z) (H : Heap) (locs : List Loc) (ls : Array Slot) (h : St D A s.heap (aW q0 q cA d t0 tq u ab aw b w) H locs) (hl : lv_has ls 19 []) : W p l e rm_L_acts s m args below meth c H locs 49 580 (Qf z) (F0 m 509 ls [.int s0, .int s1]) := by
  obtain ⟨C, hl0, hXA, hN⟩ := id X
  obtain ⟨hx, hb, hml, hown, hts, hK, hlk⟩ := id C
  rw [f_L_acts_509] at hf
  refine lv_icmp_ne (pc := 509) (tgt := 516) hx hb dL_acts_509 (by decide) (fun c9 => ?_) (fun c9 => ?_)
  · have hf := ifF c9 hf
    refine lv_iconst (pc := 516) (v := 0) hx hb dL_acts_516 (by decide) ?_
    cases hf
    exact hE ((0 : Int32), d, u, b, w) q tq 517 _ _ _ _ _ (Or.inl rfl) dL_acts_517 (Nat.le_of_ble_eq_true rfl) (Nat.le_of_ble_eq_true rfl) h
  · have hf := ifT c9 hf
    refine lv_iconst (pc := 512) (v := 1) hx hb dL_acts_512 (by decide) ?_
    refine lv_goto (pc := 513) (tgt := 517) hx hb dL_acts_513 (by decide) ?_
    cases hf
    exact hE ((1 : Int32), d, u, b, w) q tq 517 _ _ _ _ _ (Or.inr rfl) dL_acts_517 (Nat.le_of_ble_eq_true rfl) (Nat.le_of_ble_eq_true rfl) h
def f_L_acts_464 (d : Dk) (u : Dk) (b : (Nat → Int32)) (w : (Nat → Int32)) (x7 : Int32) (x8 : Int32) (x13 : Int32) (x14 : Int32) : Option (Int32 × Dk × Dk × (Nat → Int32) × (Nat → Int32)) := ((gm_addRound d x7 x13).bind fun z1 => (if z1.1 = x14 then ((gm_addRound u x7 x13).bind fun z2 => (if z2.1 = x14 then ((gm_addRound z1.2 x7 (0 : Int32)).bind fun z3 => (if x8 = 0 then (f_L_acts_509 z3.2 z2.2 b w (-1000001 : Int32) z3.1) else (f_L_acts_509 z3.2 z2.2 b w (-1000002 : Int32) z3.1))) else (some ((0 : Int32), z1.2, z2.2, b, w)))) else (some ((0 : Int32), z1.2, u, b, w))))
set_option maxHeartbeats 1000000 in
set_option maxRecDepth 100000 in
theorem jl_acts_464  (X : LCx p l s m args meth c cL_acts 19 D cA A) (hE : ∀ (z : Int32 × Dk × Dk × (Nat → Int32) × (Nat → Int32)) (q tq : Nat → Nat → Nat) (pc : Nat) (H : Heap) (locs : List Loc) (ls : Array Slot) (cells slots : Nat), (z.1 = 0 ∨ z.1 = 1) → decode cL_acts pc = .ok (.ireturn, 1) → cells ≤ 81 → slots ≤ 772 → St D A s.heap (aW q0 q cA z.2.1 t0 tq z.2.2.1 ab aw z.2.2.2.1 z.2.2.2.2) H locs → W p l e rm_L_acts s m args below meth c H locs cells slots (Qf z) (F0 m pc ls [.int z.1])) (d : Dk) (u : Dk) (b : (Nat → Int32)) (w : (Nat → Int32)) (x7 : Int32) (x8 : Int32) (x13 : Int32) (x14 : Int32) (z : Int32 × Dk × Dk × (Nat → Int32) × (Nat → Int32)) (hf : f_L_acts_464 d u b w x7 x8 x13 x14 = some z) (H : Heap) (locs : List Loc) (ls : Array Slot) (h : St D A s.heap (aW q0 q cA d t0 tq u ab aw b w) H locs) (hl : lv_has ls 19 [(0, .ref (q0 0)), (1, .ref (t0 0)), (7, .int x7), (8, .int x8), (13, .int x13), (14, .int x14)]) : W p l e rm_L_acts s m args below meth c H locs 46 562 (Qf z) (F0 m 464 ls []) := by
  obtain ⟨C, hl0, hXA, hN⟩ := id X
  obtain ⟨hx, hb, hml, hown, hts, hK, hlk⟩ := id C
  rw [f_L_acts_464] at hf
  refine lv_aload_n (pc := 464) hx hb dL_acts_464 rfl (lv_at hl 0 rfl) ?_
  refine lv_iload (pc := 465) hx hb dL_acts_465 (lv_at hl 2 rfl) ?_
  refine lv_iload (pc := 467) hx hb dL_acts_467 (lv_at hl 4 rfl) ?_
  obtain ⟨z1, hc1, hf⟩ := bdS hf
  refine call_H (pc := 469) (As := [.ref (q0 0), .int x7, .int x13]) (rest := []) (ws' := (aW q0 q cA z1.2 t0 tq u ab aw b w)) X h (vm_addRound d x7 x13 hc1) cx_L_200 (aW_o q0 q cA d t0 tq u ab aw b w) (aW_o q0 q cA z1.2 t0 tq u ab aw b w).symm (kW_fst _ _ _ _ _ (nm_addRound hc1)) rfl rfl hl.1 (Nat.le_of_ble_eq_true rfl) dL_acts_469 ⟨(Nat.le_of_ble_eq_true rfl), (Nat.le_of_ble_eq_true rfl)⟩ rfl rfl ⟨(Nat.le_of_ble_eq_true rfl), (Nat.le_of_ble_eq_true rfl)⟩ (fun H locs h => ?_)
  refine W.eq (g2 := F0 m 472 ls [.int z1.1]) rfl ?_
  refine lv_iload (pc := 472) hx hb dL_acts_472 (lv_at hl 5 rfl) ?_
  refine lv_icmp_ne (pc := 474) (tgt := 516) hx hb dL_acts_474 (by decide) (fun c9 => ?_) (fun c9 => ?_)
  · have hf := ifF c9 hf
    refine lv_iconst (pc := 516) (v := 0) hx hb dL_acts_516 (by decide) ?_
    cases hf
    exact hE ((0 : Int32), z1.2, u, b, w) q tq 517 _ _ _ _ _ (Or.inl rfl) dL_acts_517 (Nat.le_of_ble_eq_true rfl) (Nat.le_of_ble_eq_true rfl) h
  · have hf := ifT c9 hf
    refine lv_aload_n (pc := 477) hx hb dL_acts_477 rfl (lv_at hl 1 rfl) ?_
    refine lv_iload (pc := 478) hx hb dL_acts_478 (lv_at hl 2 rfl) ?_
    refine lv_iload (pc := 480) hx hb dL_acts_480 (lv_at hl 4 rfl) ?_
    obtain ⟨z2, hc2, hf⟩ := bdS hf
    refine call_H (pc := 482) (As := [.ref (t0 0), .int x7, .int x13]) (rest := []) (ws' := (aW q0 q cA z1.2 t0 tq z2.2 ab aw b w)) X h (vm_addRound u x7 x13 hc2) cx_L_200 (aW_t q0 q cA z1.2 t0 tq u ab aw b w) (aW_t q0 q cA z1.2 t0 tq z2.2 ab aw b w).symm (kW_fst _ _ _ _ _ (nm_addRound hc2)) rfl rfl hl.1 (Nat.le_of_ble_eq_true rfl) dL_acts_482 ⟨(Nat.le_of_ble_eq_true rfl), (Nat.le_of_ble_eq_true rfl)⟩ rfl rfl ⟨(Nat.le_of_ble_eq_true rfl), (Nat.le_of_ble_eq_true rfl)⟩ (fun H locs h => ?_)
    refine W.eq (g2 := F0 m 485 ls [.int z2.1]) rfl ?_
    refine lv_iload (pc := 485) hx hb dL_acts_485 (lv_at hl 5 rfl) ?_
    refine lv_icmp_ne (pc := 487) (tgt := 516) hx hb dL_acts_487 (by decide) (fun c9 => ?_) (fun c9 => ?_)
    · have hf := ifF c9 hf
      refine lv_iconst (pc := 516) (v := 0) hx hb dL_acts_516 (by decide) ?_
      cases hf
      exact hE ((0 : Int32), z1.2, z2.2, b, w) q tq 517 _ _ _ _ _ (Or.inl rfl) dL_acts_517 (Nat.le_of_ble_eq_true rfl) (Nat.le_of_ble_eq_true rfl) h
    · have hf := ifT c9 hf
      refine lv_aload_n (pc := 490) hx hb dL_acts_490 rfl (lv_at hl 0 rfl) ?_
      refine lv_iload (pc := 491) hx hb dL_acts_491 (lv_at hl 2 rfl) ?_
      refine lv_iconst (pc := 493) (v := 0) hx hb dL_acts_493 (by decide) ?_
      obtain ⟨z3, hc3, hf⟩ := bdS hf
      refine call_H (pc := 494) (As := [.ref (q0 0), .int x7, .int (0 : Int32)]) (rest := []) (ws' := (aW q0 q cA z3.2 t0 tq z2.2 ab aw b w)) X h (vm_addRound z1.2 x7 (0 : Int32) hc3) cx_L_200 (aW_o q0 q cA z1.2 t0 tq z2.2 ab aw b w) (aW_o q0 q cA z3.2 t0 tq z2.2 ab aw b w).symm (kW_fst _ _ _ _ _ (nm_addRound hc3)) rfl rfl hl.1 (Nat.le_of_ble_eq_true rfl) dL_acts_494 ⟨(Nat.le_of_ble_eq_true rfl), (Nat.le_of_ble_eq_true rfl)⟩ rfl rfl ⟨(Nat.le_of_ble_eq_true rfl), (Nat.le_of_ble_eq_true rfl)⟩ (fun H locs h => ?_)
      refine W.eq (g2 := F0 m 497 ls [.int z3.1]) rfl ?_
      refine lv_iload (pc := 497) hx hb dL_acts_497 (lv_at hl 3 rfl) ?_
      refine lv_if_eq (pc := 499) (tgt := 507) hx hb dL_acts_499 (by decide) (fun c9 => ?_) (fun c9 => ?_)
      · have hf := ifT c9 hf
        refine lv_ldc (pc := 507) (v := -1000001) hx hb hown (hts _ kc_L_25) dL_acts_507 ?_
        exact jl_acts_509 X hE   _ _ _ _ _ _ _ hf _ _ _ h (lv_sub hl [] rfl)
      · have hf := ifF c9 hf
        refine lv_ldc (pc := 502) (v := -1000002) hx hb hown (hts _ kc_L_28) dL_acts_502 ?_
        refine lv_goto (pc := 504) (tgt := 509) hx hb dL_acts_504 (by decide) ?_
        exact jl_acts_509 X hE   _ _ _ _ _ _ _ hf _ _ _ h (lv_sub hl [] rfl)
def f_L_acts_404 : Nat → Dk → Dk → (Nat → Int32) → (Nat → Int32) → Int32 → Int32 → Int32 → Int32 → Int32 → Int32 → Int32 → Option (Int32 × Dk × Dk × (Nat → Int32) × (Nat → Int32))
  | 0, _, _, _, _, _, _, _, _, _, _, _ => none
  | n + 1, d, u, b, w, x7, x8, x10, x13, x14, x15, x16 => (if (8 : Int32) ≤ x16 then (f_L_acts_464 d u b w x7 x8 x13 x14) else (if x14 ≤ 0 then (f_L_acts_464 d u b w x7 x8 x13 x14) else (if ((x13 >>> (x16 &&& 31)) &&& (1 : Int32)) = (1 : Int32) then (if inb (((8 : Int32) * x7) + x15) 48 then (lt (upd b (((8 : Int32) * x7) + x15).toNatClampNeg (((1 : Int32) <<< (x10 &&& 31)) - (1 : Int32))) fun t1 => (if inb (((8 : Int32) * x7) + x15) 48 then (lt (upd w (((8 : Int32) * x7) + x15).toNatClampNeg x16) fun t2 => ((f_L_acts_404 n) d u t1 t2 x7 x8 x10 x13 x14 (x15 + (1 : Int32)) (x16 + (1 : Int32)))) else none)) else none) else ((f_L_acts_404 n) d u b w x7 x8 x10 x13 x14 x15 (x16 + (1 : Int32))))))
set_option maxHeartbeats 1000000 in
set_option maxRecDepth 100000 in
theorem jl_acts_404  (X : LCx p l s m args meth c cL_acts 19 D cA A) (hE : ∀ (z : Int32 × Dk × Dk × (Nat → Int32) × (Nat → Int32)) (q tq : Nat → Nat → Nat) (pc : Nat) (H : Heap) (locs : List Loc) (ls : Array Slot) (cells slots : Nat), (z.1 = 0 ∨ z.1 = 1) → decode cL_acts pc = .ok (.ireturn, 1) → cells ≤ 81 → slots ≤ 772 → St D A s.heap (aW q0 q cA z.2.1 t0 tq z.2.2.1 ab aw z.2.2.2.1 z.2.2.2.2) H locs → W p l e rm_L_acts s m args below meth c H locs cells slots (Qf z) (F0 m pc ls [.int z.1])) : ∀ (n : Nat) (d : Dk) (u : Dk) (b : (Nat → Int32)) (w : (Nat → Int32)) (x7 : Int32) (x8 : Int32) (x10 : Int32) (x13 : Int32) (x14 : Int32) (x15 : Int32) (x16 : Int32) (z : Int32 × Dk × Dk × (Nat → Int32) × (Nat → Int32)), f_L_acts_404 n d u b w x7 x8 x10 x13 x14 x15 x16 = some z → ∀ (H : Heap) (locs : List Loc) (ls : Array Slot), St D A s.heap (aW q0 q cA d t0 tq u ab aw b w) H locs → lv_has ls 19 [(0, .ref (q0 0)), (1, .ref (t0 0)), (2, .ref (ab)), (3, .ref (aw)), (7, .int x7), (8, .int x8), (10, .int x10), (13, .int x13), (14, .int x14), (15, .int x15), (16, .int x16)] → W p l e rm_L_acts s m args below meth c H locs 46 562 (Qf z) (F0 m 404 ls []) := by
  obtain ⟨C, hl0, hXA, hN⟩ := id X
  obtain ⟨hx, hb, hml, hown, hts, hK, hlk⟩ := id C
  intro n
  induction n with
  | zero => intro d u b w x7 x8 x10 x13 x14 x15 x16 z hf; rw [f_L_acts_404] at hf; cases hf
  | succ n ih =>
    intro d u b w x7 x8 x10 x13 x14 x15 x16 z hf H locs ls h hl
    rw [f_L_acts_404] at hf
    refine lv_iload (pc := 404) hx hb dL_acts_404 (lv_at hl 10 rfl) ?_
    refine lv_bipush (pc := 406) (v := 8) hx hb dL_acts_406 (by decide) ?_
    refine lv_icmp_ge (pc := 408) (tgt := 464) hx hb dL_acts_408 (by decide) (fun c9 => ?_) (fun c9 => ?_)
    · have hf := ifT c9 hf
      exact jl_acts_464 X hE   _ _ _ _ _ _ _ _ _ hf _ _ _ h (lv_sub hl [0, 1, 4, 5, 7, 8] rfl)
    · have hf := ifF c9 hf
      refine lv_iload (pc := 411) hx hb dL_acts_411 (lv_at hl 8 rfl) ?_
      refine lv_if_le (pc := 413) (tgt := 464) hx hb dL_acts_413 (by decide) (fun c9 => ?_) (fun c9 => ?_)
      · have hf := ifT c9 hf
        exact jl_acts_464 X hE   _ _ _ _ _ _ _ _ _ hf _ _ _ h (lv_sub hl [0, 1, 4, 5, 7, 8] rfl)
      · have hf := ifF c9 hf
        refine lv_iload (pc := 416) hx hb dL_acts_416 (lv_at hl 7 rfl) ?_
        refine lv_iload (pc := 418) hx hb dL_acts_418 (lv_at hl 10 rfl) ?_
        refine lv_ishr (pc := 420) hx hb dL_acts_420 ?_
        refine lv_iconst (pc := 421) (v := 1) hx hb dL_acts_421 (by decide) ?_
        refine lv_iand (pc := 422) hx hb dL_acts_422 ?_
        refine lv_iconst (pc := 423) (v := 1) hx hb dL_acts_423 (by decide) ?_
        refine lv_icmp_ne (pc := 424) (tgt := 458) hx hb dL_acts_424 (by decide) (fun c9 => ?_) (fun c9 => ?_)
        · have hf := ifF c9 hf
          refine lv_iinc (pc := 458) (v := (x16 + (1 : Int32))) (lv' := [(16, .int (x16 + (1 : Int32))), (0, .ref (q0 0)), (1, .ref (t0 0)), (2, .ref (ab)), (3, .ref (aw)), (7, .int x7), (8, .int x8), (10, .int x10), (13, .int x13), (14, .int x14), (15, .int x15)]) hx hb dL_acts_458 hl (k := 10) rfl rfl (by decide) rfl (fun ls hl => ?_)
          refine lv_goto (pc := 461) (tgt := 404) hx hb dL_acts_461 (by decide) ?_
          exact ih _ _ _ _ _ _ _ _ _ _ _ _ hf _ _ _ h (lv_sub hl [1, 2, 3, 4, 5, 6, 7, 8, 9, 10, 0] rfl)
        · have hf := ifT c9 hf
          refine lv_aload_n (pc := 427) hx hb dL_acts_427 rfl (lv_at hl 2 rfl) ?_
          refine lv_bipush (pc := 428) (v := 8) hx hb dL_acts_428 (by decide) ?_
          refine lv_iload (pc := 430) hx hb dL_acts_430 (lv_at hl 4 rfl) ?_
          refine lv_imul (pc := 432) hx hb dL_acts_432 ?_
          refine lv_iload (pc := 433) hx hb dL_acts_433 (lv_at hl 9 rfl) ?_
          refine lv_iadd (pc := 435) hx hb dL_acts_435 ?_
          refine lv_iconst (pc := 436) (v := 1) hx hb dL_acts_436 (by decide) ?_
          refine lv_iload (pc := 437) hx hb dL_acts_437 (lv_at hl 6 rfl) ?_
          refine lv_ishl (pc := 439) hx hb dL_acts_439 ?_
          refine lv_iconst (pc := 440) (v := 1) hx hb dL_acts_440 (by decide) ?_
          refine lv_isub (pc := 441) hx hb dL_acts_441 ?_
          obtain ⟨hin, hf⟩ := ifS hf
          obtain ⟨t1, et1, hf⟩ := ltS hf
          refine g_ist (pc := 442) (n := 48) (f := b) (ws' := (aW q0 q cA d t0 tq u ab aw t1 w)) C h 0 (aW_0 ..) hin (by rw [et1]; rfl) dL_acts_442 (fun H locs h => ?_)
          refine lv_aload_n (pc := 443) hx hb dL_acts_443 rfl (lv_at hl 3 rfl) ?_
          refine lv_bipush (pc := 444) (v := 8) hx hb dL_acts_444 (by decide) ?_
          refine lv_iload (pc := 446) hx hb dL_acts_446 (lv_at hl 4 rfl) ?_
          refine lv_imul (pc := 448) hx hb dL_acts_448 ?_
          refine lv_iload (pc := 449) hx hb dL_acts_449 (lv_at hl 9 rfl) ?_
          refine lv_iadd (pc := 451) hx hb dL_acts_451 ?_
          refine lv_iload (pc := 452) hx hb dL_acts_452 (lv_at hl 10 rfl) ?_
          obtain ⟨hin, hf⟩ := ifS hf
          obtain ⟨t2, et2, hf⟩ := ltS hf
          refine g_ist (pc := 454) (n := 48) (f := w) (ws' := (aW q0 q cA d t0 tq u ab aw t1 t2)) C h 1 (aW_1 ..) hin (by rw [et2]; rfl) dL_acts_454 (fun H locs h => ?_)
          refine lv_iinc (pc := 455) (v := (x15 + (1 : Int32))) (lv' := [(15, .int (x15 + (1 : Int32))), (0, .ref (q0 0)), (1, .ref (t0 0)), (2, .ref (ab)), (3, .ref (aw)), (7, .int x7), (8, .int x8), (10, .int x10), (13, .int x13), (14, .int x14), (16, .int x16)]) hx hb dL_acts_455 hl (k := 9) rfl rfl (by decide) rfl (fun ls hl => ?_)
          refine lv_iinc (pc := 458) (v := (x16 + (1 : Int32))) (lv' := [(16, .int (x16 + (1 : Int32))), (15, .int (x15 + (1 : Int32))), (0, .ref (q0 0)), (1, .ref (t0 0)), (2, .ref (ab)), (3, .ref (aw)), (7, .int x7), (8, .int x8), (10, .int x10), (13, .int x13), (14, .int x14)]) hx hb dL_acts_458 hl (k := 10) rfl rfl (by decide) rfl (fun ls hl => ?_)
          refine lv_goto (pc := 461) (tgt := 404) hx hb dL_acts_461 (by decide) ?_
          exact ih _ _ _ _ _ _ _ _ _ _ _ _ hf _ _ _ h (lv_sub hl [2, 3, 4, 5, 6, 7, 8, 9, 10, 1, 0] rfl)
def f_L_acts_395 (d : Dk) (u : Dk) (b : (Nat → Int32)) (w : (Nat → Int32)) (x7 : Int32) (x8 : Int32) (x10 : Int32) (x13 : Int32) (s0 : Int32) : Option (Int32 × Dk × Dk × (Nat → Int32) × (Nat → Int32)) := (f_L_acts_404 FU d u b w x7 x8 x10 x13 s0 x10 (0 : Int32))
set_option maxHeartbeats 1000000 in
set_option maxRecDepth 100000 in
theorem jl_acts_395  (X : LCx p l s m args meth c cL_acts 19 D cA A) (hE : ∀ (z : Int32 × Dk × Dk × (Nat → Int32) × (Nat → Int32)) (q tq : Nat → Nat → Nat) (pc : Nat) (H : Heap) (locs : List Loc) (ls : Array Slot) (cells slots : Nat), (z.1 = 0 ∨ z.1 = 1) → decode cL_acts pc = .ok (.ireturn, 1) → cells ≤ 81 → slots ≤ 772 → St D A s.heap (aW q0 q cA z.2.1 t0 tq z.2.2.1 ab aw z.2.2.2.1 z.2.2.2.2) H locs → W p l e rm_L_acts s m args below meth c H locs cells slots (Qf z) (F0 m pc ls [.int z.1])) (d : Dk) (u : Dk) (b : (Nat → Int32)) (w : (Nat → Int32)) (x7 : Int32) (x8 : Int32) (x10 : Int32) (x13 : Int32) (s0 : Int32) (z : Int32 × Dk × Dk × (Nat → Int32) × (Nat → Int32)) (hf : f_L_acts_395 d u b w x7 x8 x10 x13 s0 = some z) (H : Heap) (locs : List Loc) (ls : Array Slot) (h : St D A s.heap (aW q0 q cA d t0 tq u ab aw b w) H locs) (hl : lv_has ls 19 [(0, .ref (q0 0)), (1, .ref (t0 0)), (2, .ref (ab)), (3, .ref (aw)), (7, .int x7), (8, .int x8), (10, .int x10), (13, .int x13)]) : W p l e rm_L_acts s m args below meth c H locs 46 562 (Qf z) (F0 m 395 ls [.int s0]) := by
  obtain ⟨C, hl0, hXA, hN⟩ := id X
  obtain ⟨hx, hb, hml, hown, hts, hK, hlk⟩ := id C
  rw [f_L_acts_395] at hf
  refine lv_istore (pc := 395) (lv' := [(14, .int s0), (0, .ref (q0 0)), (1, .ref (t0 0)), (2, .ref (ab)), (3, .ref (aw)), (7, .int x7), (8, .int x8), (10, .int x10), (13, .int x13)]) hx hb dL_acts_395 hl (by decide) rfl (fun ls hl => ?_)
  refine lv_iload (pc := 397) hx hb dL_acts_397 (lv_at hl 7 rfl) ?_
  refine lv_istore (pc := 399) (lv' := [(15, .int x10), (14, .int s0), (0, .ref (q0 0)), (1, .ref (t0 0)), (2, .ref (ab)), (3, .ref (aw)), (7, .int x7), (8, .int x8), (10, .int x10), (13, .int x13)]) hx hb dL_acts_399 hl (by decide) rfl (fun ls hl => ?_)
  refine lv_iconst (pc := 401) (v := 0) hx hb dL_acts_401 (by decide) ?_
  refine lv_istore (pc := 402) (lv' := [(16, .int (0 : Int32)), (15, .int x10), (14, .int s0), (0, .ref (q0 0)), (1, .ref (t0 0)), (2, .ref (ab)), (3, .ref (aw)), (7, .int x7), (8, .int x8), (10, .int x10), (13, .int x13)]) hx hb dL_acts_402 hl (by decide) rfl (fun ls hl => ?_)
  exact jl_acts_404 X hE   FU _ _ _ _ _ _ _ _ _ _ _ _ hf _ _ _ h (lv_sub hl [3, 4, 5, 6, 7, 8, 9, 10, 2, 1, 0] rfl)
def f_L_acts_309 (d : Dk) (u : Dk) (b : (Nat → Int32)) (w : (Nat → Int32)) (s0 : Int32) (s1 : Int32) : Option (Int32 × Dk × Dk × (Nat → Int32) × (Nat → Int32)) := (if s1 = s0 then (some ((1 : Int32), d, u, b, w)) else (some ((0 : Int32), d, u, b, w)))
set_option maxHeartbeats 1000000 in
set_option maxRecDepth 100000 in
theorem jl_acts_309  (X : LCx p l s m args meth c cL_acts 19 D cA A) (hE : ∀ (z : Int32 × Dk × Dk × (Nat → Int32) × (Nat → Int32)) (q tq : Nat → Nat → Nat) (pc : Nat) (H : Heap) (locs : List Loc) (ls : Array Slot) (cells slots : Nat), (z.1 = 0 ∨ z.1 = 1) → decode cL_acts pc = .ok (.ireturn, 1) → cells ≤ 81 → slots ≤ 772 → St D A s.heap (aW q0 q cA z.2.1 t0 tq z.2.2.1 ab aw z.2.2.2.1 z.2.2.2.2) H locs → W p l e rm_L_acts s m args below meth c H locs cells slots (Qf z) (F0 m pc ls [.int z.1])) (d : Dk) (u : Dk) (b : (Nat → Int32)) (w : (Nat → Int32)) (s0 : Int32) (s1 : Int32) (z : Int32 × Dk × Dk × (Nat → Int32) × (Nat → Int32)) (hf : f_L_acts_309 d u b w s0 s1 = some z) (H : Heap) (locs : List Loc) (ls : Array Slot) (h : St D A s.heap (aW q0 q cA d t0 tq u ab aw b w) H locs) (hl : lv_has ls 19 []) : W p l e rm_L_acts s m args below meth c H locs 46 562 (Qf z) (F0 m 309 ls [.int s0, .int s1]) := by
  obtain ⟨C, hl0, hXA, hN⟩ := id X
  obtain ⟨hx, hb, hml, hown, hts, hK, hlk⟩ := id C
  rw [f_L_acts_309] at hf
  refine lv_icmp_ne (pc := 309) (tgt := 316) hx hb dL_acts_309 (by decide) (fun c9 => ?_) (fun c9 => ?_)
  · have hf := ifF c9 hf
    refine lv_iconst (pc := 316) (v := 0) hx hb dL_acts_316 (by decide) ?_
    cases hf
    exact hE ((0 : Int32), d, u, b, w) q tq 317 _ _ _ _ _ (Or.inl rfl) dL_acts_317 (Nat.le_of_ble_eq_true rfl) (Nat.le_of_ble_eq_true rfl) h
  · have hf := ifT c9 hf
    refine lv_iconst (pc := 312) (v := 1) hx hb dL_acts_312 (by decide) ?_
    refine lv_goto (pc := 313) (tgt := 317) hx hb dL_acts_313 (by decide) ?_
    cases hf
    exact hE ((1 : Int32), d, u, b, w) q tq 317 _ _ _ _ _ (Or.inr rfl) dL_acts_317 (Nat.le_of_ble_eq_true rfl) (Nat.le_of_ble_eq_true rfl) h
def f_L_acts_244 (d : Dk) (u : Dk) (b : (Nat → Int32)) (w : (Nat → Int32)) (x7 : Int32) (x11 : Int32) (x13 : Int32) (x14 : Int32) : Option (Int32 × Dk × Dk × (Nat → Int32) × (Nat → Int32)) := ((gm_addSlot d x7 x11 x13).bind fun z1 => (if z1.1 = x14 then ((gm_addSlot u x7 x11 x13).bind fun z2 => (if z2.1 = x14 then ((gm_addSlot z1.2 x7 (8 : Int32) (-1 : Int32)).bind fun z3 => (if z3.1 = (-1000001 : Int32) then ((gm_addSlot z3.2 (0 : Int32) (0 : Int32) (-1 : Int32)).bind fun z4 => ((gn_envelopes z4.2).bind fun z5 => (if z5 ≤ 0 then (f_L_acts_309 z4.2 z2.2 b w (-1000001 : Int32) z4.1) else (f_L_acts_309 z4.2 z2.2 b w (-1000002 : Int32) z4.1)))) else (some ((0 : Int32), z3.2, z2.2, b, w)))) else (some ((0 : Int32), z1.2, z2.2, b, w)))) else (some ((0 : Int32), z1.2, u, b, w))))
set_option maxHeartbeats 1000000 in
set_option maxRecDepth 100000 in
theorem jl_acts_244  (X : LCx p l s m args meth c cL_acts 19 D cA A) (hE : ∀ (z : Int32 × Dk × Dk × (Nat → Int32) × (Nat → Int32)) (q tq : Nat → Nat → Nat) (pc : Nat) (H : Heap) (locs : List Loc) (ls : Array Slot) (cells slots : Nat), (z.1 = 0 ∨ z.1 = 1) → decode cL_acts pc = .ok (.ireturn, 1) → cells ≤ 81 → slots ≤ 772 → St D A s.heap (aW q0 q cA z.2.1 t0 tq z.2.2.1 ab aw z.2.2.2.1 z.2.2.2.2) H locs → W p l e rm_L_acts s m args below meth c H locs cells slots (Qf z) (F0 m pc ls [.int z.1])) (d : Dk) (u : Dk) (b : (Nat → Int32)) (w : (Nat → Int32)) (x7 : Int32) (x11 : Int32) (x13 : Int32) (x14 : Int32) (z : Int32 × Dk × Dk × (Nat → Int32) × (Nat → Int32)) (hf : f_L_acts_244 d u b w x7 x11 x13 x14 = some z) (H : Heap) (locs : List Loc) (ls : Array Slot) (h : St D A s.heap (aW q0 q cA d t0 tq u ab aw b w) H locs) (hl : lv_has ls 19 [(0, .ref (q0 0)), (1, .ref (t0 0)), (7, .int x7), (11, .int x11), (13, .int x13), (14, .int x14)]) : W p l e rm_L_acts s m args below meth c H locs 42 538 (Qf z) (F0 m 244 ls []) := by
  obtain ⟨C, hl0, hXA, hN⟩ := id X
  obtain ⟨hx, hb, hml, hown, hts, hK, hlk⟩ := id C
  rw [f_L_acts_244] at hf
  refine lv_aload_n (pc := 244) hx hb dL_acts_244 rfl (lv_at hl 0 rfl) ?_
  refine lv_iload (pc := 245) hx hb dL_acts_245 (lv_at hl 2 rfl) ?_
  refine lv_iload (pc := 247) hx hb dL_acts_247 (lv_at hl 3 rfl) ?_
  refine lv_iload (pc := 249) hx hb dL_acts_249 (lv_at hl 4 rfl) ?_
  obtain ⟨z1, hc1, hf⟩ := bdS hf
  refine call_H (pc := 251) (As := [.ref (q0 0), .int x7, .int x11, .int x13]) (rest := []) (ws' := (aW q0 q cA z1.2 t0 tq u ab aw b w)) X h (vm_addSlot d x7 x11 x13 hc1) cx_L_198 (aW_o q0 q cA d t0 tq u ab aw b w) (aW_o q0 q cA z1.2 t0 tq u ab aw b w).symm (kW_fst _ _ _ _ _ (nm_addSlot hc1)) rfl rfl hl.1 (Nat.le_of_ble_eq_true rfl) dL_acts_251 ⟨(Nat.le_of_ble_eq_true rfl), (Nat.le_of_ble_eq_true rfl)⟩ rfl rfl ⟨(Nat.le_of_ble_eq_true rfl), (Nat.le_of_ble_eq_true rfl)⟩ (fun H locs h => ?_)
  refine W.eq (g2 := F0 m 254 ls [.int z1.1]) rfl ?_
  refine lv_iload (pc := 254) hx hb dL_acts_254 (lv_at hl 5 rfl) ?_
  refine lv_icmp_ne (pc := 256) (tgt := 316) hx hb dL_acts_256 (by decide) (fun c9 => ?_) (fun c9 => ?_)
  · have hf := ifF c9 hf
    refine lv_iconst (pc := 316) (v := 0) hx hb dL_acts_316 (by decide) ?_
    cases hf
    exact hE ((0 : Int32), z1.2, u, b, w) q tq 317 _ _ _ _ _ (Or.inl rfl) dL_acts_317 (Nat.le_of_ble_eq_true rfl) (Nat.le_of_ble_eq_true rfl) h
  · have hf := ifT c9 hf
    refine lv_aload_n (pc := 259) hx hb dL_acts_259 rfl (lv_at hl 1 rfl) ?_
    refine lv_iload (pc := 260) hx hb dL_acts_260 (lv_at hl 2 rfl) ?_
    refine lv_iload (pc := 262) hx hb dL_acts_262 (lv_at hl 3 rfl) ?_
    refine lv_iload (pc := 264) hx hb dL_acts_264 (lv_at hl 4 rfl) ?_
    obtain ⟨z2, hc2, hf⟩ := bdS hf
    refine call_H (pc := 266) (As := [.ref (t0 0), .int x7, .int x11, .int x13]) (rest := []) (ws' := (aW q0 q cA z1.2 t0 tq z2.2 ab aw b w)) X h (vm_addSlot u x7 x11 x13 hc2) cx_L_198 (aW_t q0 q cA z1.2 t0 tq u ab aw b w) (aW_t q0 q cA z1.2 t0 tq z2.2 ab aw b w).symm (kW_fst _ _ _ _ _ (nm_addSlot hc2)) rfl rfl hl.1 (Nat.le_of_ble_eq_true rfl) dL_acts_266 ⟨(Nat.le_of_ble_eq_true rfl), (Nat.le_of_ble_eq_true rfl)⟩ rfl rfl ⟨(Nat.le_of_ble_eq_true rfl), (Nat.le_of_ble_eq_true rfl)⟩ (fun H locs h => ?_)
    refine W.eq (g2 := F0 m 269 ls [.int z2.1]) rfl ?_
    refine lv_iload (pc := 269) hx hb dL_acts_269 (lv_at hl 5 rfl) ?_
    refine lv_icmp_ne (pc := 271) (tgt := 316) hx hb dL_acts_271 (by decide) (fun c9 => ?_) (fun c9 => ?_)
    · have hf := ifF c9 hf
      refine lv_iconst (pc := 316) (v := 0) hx hb dL_acts_316 (by decide) ?_
      cases hf
      exact hE ((0 : Int32), z1.2, z2.2, b, w) q tq 317 _ _ _ _ _ (Or.inl rfl) dL_acts_317 (Nat.le_of_ble_eq_true rfl) (Nat.le_of_ble_eq_true rfl) h
    · have hf := ifT c9 hf
      refine lv_aload_n (pc := 274) hx hb dL_acts_274 rfl (lv_at hl 0 rfl) ?_
      refine lv_iload (pc := 275) hx hb dL_acts_275 (lv_at hl 2 rfl) ?_
      refine lv_bipush (pc := 277) (v := 8) hx hb dL_acts_277 (by decide) ?_
      refine lv_iconst (pc := 279) (v := -1) hx hb dL_acts_279 (by decide) ?_
      obtain ⟨z3, hc3, hf⟩ := bdS hf
      refine call_H (pc := 280) (As := [.ref (q0 0), .int x7, .int (8 : Int32), .int (-1 : Int32)]) (rest := []) (ws' := (aW q0 q cA z3.2 t0 tq z2.2 ab aw b w)) X h (vm_addSlot z1.2 x7 (8 : Int32) (-1 : Int32) hc3) cx_L_198 (aW_o q0 q cA z1.2 t0 tq z2.2 ab aw b w) (aW_o q0 q cA z3.2 t0 tq z2.2 ab aw b w).symm (kW_fst _ _ _ _ _ (nm_addSlot hc3)) rfl rfl hl.1 (Nat.le_of_ble_eq_true rfl) dL_acts_280 ⟨(Nat.le_of_ble_eq_true rfl), (Nat.le_of_ble_eq_true rfl)⟩ rfl rfl ⟨(Nat.le_of_ble_eq_true rfl), (Nat.le_of_ble_eq_true rfl)⟩ (fun H locs h => ?_)
      refine W.eq (g2 := F0 m 283 ls [.int z3.1]) rfl ?_
      refine lv_ldc (pc := 283) (v := -1000001) hx hb hown (hts _ kc_L_25) dL_acts_283 ?_
      refine lv_icmp_ne (pc := 285) (tgt := 316) hx hb dL_acts_285 (by decide) (fun c9 => ?_) (fun c9 => ?_)
      · have hf := ifF c9 hf
        refine lv_iconst (pc := 316) (v := 0) hx hb dL_acts_316 (by decide) ?_
        cases hf
        exact hE ((0 : Int32), z3.2, z2.2, b, w) q tq 317 _ _ _ _ _ (Or.inl rfl) dL_acts_317 (Nat.le_of_ble_eq_true rfl) (Nat.le_of_ble_eq_true rfl) h
      · have hf := ifT c9 hf
        refine lv_aload_n (pc := 288) hx hb dL_acts_288 rfl (lv_at hl 0 rfl) ?_
        refine lv_iconst (pc := 289) (v := 0) hx hb dL_acts_289 (by decide) ?_
        refine lv_iconst (pc := 290) (v := 0) hx hb dL_acts_290 (by decide) ?_
        refine lv_iconst (pc := 291) (v := -1) hx hb dL_acts_291 (by decide) ?_
        obtain ⟨z4, hc4, hf⟩ := bdS hf
        refine call_H (pc := 292) (As := [.ref (q0 0), .int (0 : Int32), .int (0 : Int32), .int (-1 : Int32)]) (rest := []) (ws' := (aW q0 q cA z4.2 t0 tq z2.2 ab aw b w)) X h (vm_addSlot z3.2 (0 : Int32) (0 : Int32) (-1 : Int32) hc4) cx_L_198 (aW_o q0 q cA z3.2 t0 tq z2.2 ab aw b w) (aW_o q0 q cA z4.2 t0 tq z2.2 ab aw b w).symm (kW_fst _ _ _ _ _ (nm_addSlot hc4)) rfl rfl hl.1 (Nat.le_of_ble_eq_true rfl) dL_acts_292 ⟨(Nat.le_of_ble_eq_true rfl), (Nat.le_of_ble_eq_true rfl)⟩ rfl rfl ⟨(Nat.le_of_ble_eq_true rfl), (Nat.le_of_ble_eq_true rfl)⟩ (fun H locs h => ?_)
        refine W.eq (g2 := F0 m 295 ls [.int z4.1]) rfl ?_
        refine lv_aload_n (pc := 295) hx hb dL_acts_295 rfl (lv_at hl 0 rfl) ?_
        obtain ⟨z5, hc5, hf⟩ := bdS hf
        obtain ⟨hn5, hv5⟩ := gn_envelopes_s hc5
        refine call_VRp (pc := 296) (rest := [.int z4.1]) (As := []) C h (k_X4_envelopes hn5 (q0 := q0) (q := q) z4.2.2.1 z4.2.2.2 hv5) cw_L_133 (kW_c0 q0 q cA z4.2) rfl (aW_o ..) rfl rfl hl.1 (Nat.le_of_ble_eq_true rfl) dL_acts_296 ⟨(Nat.le_of_ble_eq_true rfl), (Nat.le_of_ble_eq_true rfl)⟩ rfl rfl ⟨(Nat.le_of_ble_eq_true rfl), (Nat.le_of_ble_eq_true rfl)⟩ (fun H locs h => ?_)
        refine W.eq (g2 := F0 m 299 ls [.int z5, .int z4.1]) rfl ?_
        refine lv_if_le (pc := 299) (tgt := 307) hx hb dL_acts_299 (by decide) (fun c9 => ?_) (fun c9 => ?_)
        · have hf := ifT c9 hf
          refine lv_ldc (pc := 307) (v := -1000001) hx hb hown (hts _ kc_L_25) dL_acts_307 ?_
          exact jl_acts_309 X hE   _ _ _ _ _ _ _ hf _ _ _ h (lv_sub hl [] rfl)
        · have hf := ifF c9 hf
          refine lv_ldc (pc := 302) (v := -1000002) hx hb hown (hts _ kc_L_28) dL_acts_302 ?_
          refine lv_goto (pc := 304) (tgt := 309) hx hb dL_acts_304 (by decide) ?_
          exact jl_acts_309 X hE   _ _ _ _ _ _ _ hf _ _ _ h (lv_sub hl [] rfl)
def f_L_acts_213 (d : Dk) (u : Dk) (b : (Nat → Int32)) (w : (Nat → Int32)) (x7 : Int32) (x10 : Int32) (x11 : Int32) (x13 : Int32) (s0 : Int32) : Option (Int32 × Dk × Dk × (Nat → Int32) × (Nat → Int32)) := (if s0 < 0 then (f_L_acts_244 d u b w x7 x11 x13 s0) else (if inb (((8 : Int32) * x7) + x10) 48 then (lt (upd b (((8 : Int32) * x7) + x10).toNatClampNeg x13) fun t1 => (if inb (((8 : Int32) * x7) + x10) 48 then (lt (upd w (((8 : Int32) * x7) + x10).toNatClampNeg x11) fun t2 => (f_L_acts_244 d u t1 t2 x7 x11 x13 s0)) else none)) else none))
set_option maxHeartbeats 1000000 in
set_option maxRecDepth 100000 in
theorem jl_acts_213  (X : LCx p l s m args meth c cL_acts 19 D cA A) (hE : ∀ (z : Int32 × Dk × Dk × (Nat → Int32) × (Nat → Int32)) (q tq : Nat → Nat → Nat) (pc : Nat) (H : Heap) (locs : List Loc) (ls : Array Slot) (cells slots : Nat), (z.1 = 0 ∨ z.1 = 1) → decode cL_acts pc = .ok (.ireturn, 1) → cells ≤ 81 → slots ≤ 772 → St D A s.heap (aW q0 q cA z.2.1 t0 tq z.2.2.1 ab aw z.2.2.2.1 z.2.2.2.2) H locs → W p l e rm_L_acts s m args below meth c H locs cells slots (Qf z) (F0 m pc ls [.int z.1])) (d : Dk) (u : Dk) (b : (Nat → Int32)) (w : (Nat → Int32)) (x7 : Int32) (x10 : Int32) (x11 : Int32) (x13 : Int32) (s0 : Int32) (z : Int32 × Dk × Dk × (Nat → Int32) × (Nat → Int32)) (hf : f_L_acts_213 d u b w x7 x10 x11 x13 s0 = some z) (H : Heap) (locs : List Loc) (ls : Array Slot) (h : St D A s.heap (aW q0 q cA d t0 tq u ab aw b w) H locs) (hl : lv_has ls 19 [(0, .ref (q0 0)), (1, .ref (t0 0)), (2, .ref (ab)), (3, .ref (aw)), (7, .int x7), (10, .int x10), (11, .int x11), (13, .int x13)]) : W p l e rm_L_acts s m args below meth c H locs 42 538 (Qf z) (F0 m 213 ls [.int s0]) := by
  obtain ⟨C, hl0, hXA, hN⟩ := id X
  obtain ⟨hx, hb, hml, hown, hts, hK, hlk⟩ := id C
  rw [f_L_acts_213] at hf
  refine lv_istore (pc := 213) (lv' := [(14, .int s0), (0, .ref (q0 0)), (1, .ref (t0 0)), (2, .ref (ab)), (3, .ref (aw)), (7, .int x7), (10, .int x10), (11, .int x11), (13, .int x13)]) hx hb dL_acts_213 hl (by decide) rfl (fun ls hl => ?_)
  refine lv_iload (pc := 215) hx hb dL_acts_215 (lv_at hl 0 rfl) ?_
  refine lv_if_lt (pc := 217) (tgt := 244) hx hb dL_acts_217 (by decide) (fun c9 => ?_) (fun c9 => ?_)
  · have hf := ifT c9 hf
    exact jl_acts_244 X hE   _ _ _ _ _ _ _ _ _ hf _ _ _ h (lv_sub hl [1, 2, 5, 7, 8, 0] rfl)
  · have hf := ifF c9 hf
    refine lv_aload_n (pc := 220) hx hb dL_acts_220 rfl (lv_at hl 3 rfl) ?_
    refine lv_bipush (pc := 221) (v := 8) hx hb dL_acts_221 (by decide) ?_
    refine lv_iload (pc := 223) hx hb dL_acts_223 (lv_at hl 5 rfl) ?_
    refine lv_imul (pc := 225) hx hb dL_acts_225 ?_
    refine lv_iload (pc := 226) hx hb dL_acts_226 (lv_at hl 6 rfl) ?_
    refine lv_iadd (pc := 228) hx hb dL_acts_228 ?_
    refine lv_iload (pc := 229) hx hb dL_acts_229 (lv_at hl 8 rfl) ?_
    obtain ⟨hin, hf⟩ := ifS hf
    obtain ⟨t1, et1, hf⟩ := ltS hf
    refine g_ist (pc := 231) (n := 48) (f := b) (ws' := (aW q0 q cA d t0 tq u ab aw t1 w)) C h 0 (aW_0 ..) hin (by rw [et1]; rfl) dL_acts_231 (fun H locs h => ?_)
    refine lv_aload_n (pc := 232) hx hb dL_acts_232 rfl (lv_at hl 4 rfl) ?_
    refine lv_bipush (pc := 233) (v := 8) hx hb dL_acts_233 (by decide) ?_
    refine lv_iload (pc := 235) hx hb dL_acts_235 (lv_at hl 5 rfl) ?_
    refine lv_imul (pc := 237) hx hb dL_acts_237 ?_
    refine lv_iload (pc := 238) hx hb dL_acts_238 (lv_at hl 6 rfl) ?_
    refine lv_iadd (pc := 240) hx hb dL_acts_240 ?_
    refine lv_iload (pc := 241) hx hb dL_acts_241 (lv_at hl 7 rfl) ?_
    obtain ⟨hin, hf⟩ := ifS hf
    obtain ⟨t2, et2, hf⟩ := ltS hf
    refine g_ist (pc := 243) (n := 48) (f := w) (ws' := (aW q0 q cA d t0 tq u ab aw t1 t2)) C h 1 (aW_1 ..) hin (by rw [et2]; rfl) dL_acts_243 (fun H locs h => ?_)
    exact jl_acts_244 X hE   _ _ _ _ _ _ _ _ _ hf _ _ _ h (lv_sub hl [1, 2, 5, 7, 8, 0] rfl)
def f_L_acts_182 (d : Dk) (u : Dk) (b : (Nat → Int32)) (w : (Nat → Int32)) (x7 : Int32) (x8 : Int32) (x9 : Int32) (x10 : Int32) (x11 : Int32) (s0 : Int32) : Option (Int32 × Dk × Dk × (Nat → Int32) × (Nat → Int32)) := (if x8 = 0 then (f_L_acts_213 d u b w x7 x10 x11 s0 (-1000001 : Int32)) else (if x9 = 0 then (if x10 = (8 : Int32) then (f_L_acts_213 d u b w x7 x10 x11 s0 (-1000003 : Int32)) else (f_L_acts_213 d u b w x7 x10 x11 s0 x10)) else (f_L_acts_213 d u b w x7 x10 x11 s0 (-1000003 : Int32))))
set_option maxHeartbeats 1000000 in
set_option maxRecDepth 100000 in
theorem jl_acts_182  (X : LCx p l s m args meth c cL_acts 19 D cA A) (hE : ∀ (z : Int32 × Dk × Dk × (Nat → Int32) × (Nat → Int32)) (q tq : Nat → Nat → Nat) (pc : Nat) (H : Heap) (locs : List Loc) (ls : Array Slot) (cells slots : Nat), (z.1 = 0 ∨ z.1 = 1) → decode cL_acts pc = .ok (.ireturn, 1) → cells ≤ 81 → slots ≤ 772 → St D A s.heap (aW q0 q cA z.2.1 t0 tq z.2.2.1 ab aw z.2.2.2.1 z.2.2.2.2) H locs → W p l e rm_L_acts s m args below meth c H locs cells slots (Qf z) (F0 m pc ls [.int z.1])) (d : Dk) (u : Dk) (b : (Nat → Int32)) (w : (Nat → Int32)) (x7 : Int32) (x8 : Int32) (x9 : Int32) (x10 : Int32) (x11 : Int32) (s0 : Int32) (z : Int32 × Dk × Dk × (Nat → Int32) × (Nat → Int32)) (hf : f_L_acts_182 d u b w x7 x8 x9 x10 x11 s0 = some z) (H : Heap) (locs : List Loc) (ls : Array Slot) (h : St D A s.heap (aW q0 q cA d t0 tq u ab aw b w) H locs) (hl : lv_has ls 19 [(0, .ref (q0 0)), (1, .ref (t0 0)), (2, .ref (ab)), (3, .ref (aw)), (7, .int x7), (8, .int x8), (9, .int x9), (10, .int x10), (11, .int x11)]) : W p l e rm_L_acts s m args below meth c H locs 42 538 (Qf z) (F0 m 182 ls [.int s0]) := by
  obtain ⟨C, hl0, hXA, hN⟩ := id X
  obtain ⟨hx, hb, hml, hown, hts, hK, hlk⟩ := id C
  rw [f_L_acts_182] at hf
  refine lv_istore (pc := 182) (lv' := [(13, .int s0), (0, .ref (q0 0)), (1, .ref (t0 0)), (2, .ref (ab)), (3, .ref (aw)), (7, .int x7), (8, .int x8), (9, .int x9), (10, .int x10), (11, .int x11)]) hx hb dL_acts_182 hl (by decide) rfl (fun ls hl => ?_)
  refine lv_iload (pc := 184) hx hb dL_acts_184 (lv_at hl 6 rfl) ?_
  refine lv_if_ne (pc := 186) (tgt := 194) hx hb dL_acts_186 (by decide) (fun c9 => ?_) (fun c9 => ?_)
  · have hf := ifF c9 hf
    refine lv_iload (pc := 194) hx hb dL_acts_194 (lv_at hl 7 rfl) ?_
    refine lv_if_ne (pc := 196) (tgt := 206) hx hb dL_acts_196 (by decide) (fun c9 => ?_) (fun c9 => ?_)
    · have hf := ifF c9 hf
      refine lv_ldc (pc := 206) (v := -1000003) hx hb hown (hts _ kc_L_18) dL_acts_206 ?_
      refine lv_goto (pc := 208) (tgt := 213) hx hb dL_acts_208 (by decide) ?_
      exact jl_acts_213 X hE   _ _ _ _ _ _ _ _ _ _ hf _ _ _ h (lv_sub hl [1, 2, 3, 4, 5, 8, 9, 0] rfl)
    · have hf := ifT c9 hf
      refine lv_iload (pc := 199) hx hb dL_acts_199 (lv_at hl 8 rfl) ?_
      refine lv_bipush (pc := 201) (v := 8) hx hb dL_acts_201 (by decide) ?_
      refine lv_icmp_ne (pc := 203) (tgt := 211) hx hb dL_acts_203 (by decide) (fun c9 => ?_) (fun c9 => ?_)
      · have hf := ifF c9 hf
        refine lv_iload (pc := 211) hx hb dL_acts_211 (lv_at hl 8 rfl) ?_
        exact jl_acts_213 X hE   _ _ _ _ _ _ _ _ _ _ hf _ _ _ h (lv_sub hl [1, 2, 3, 4, 5, 8, 9, 0] rfl)
      · have hf := ifT c9 hf
        refine lv_ldc (pc := 206) (v := -1000003) hx hb hown (hts _ kc_L_18) dL_acts_206 ?_
        refine lv_goto (pc := 208) (tgt := 213) hx hb dL_acts_208 (by decide) ?_
        exact jl_acts_213 X hE   _ _ _ _ _ _ _ _ _ _ hf _ _ _ h (lv_sub hl [1, 2, 3, 4, 5, 8, 9, 0] rfl)
  · have hf := ifT c9 hf
    refine lv_ldc (pc := 189) (v := -1000001) hx hb hown (hts _ kc_L_25) dL_acts_189 ?_
    refine lv_goto (pc := 191) (tgt := 213) hx hb dL_acts_191 (by decide) ?_
    exact jl_acts_213 X hE   _ _ _ _ _ _ _ _ _ _ hf _ _ _ h (lv_sub hl [1, 2, 3, 4, 5, 8, 9, 0] rfl)
def f_L_acts_116 (d : Dk) (u : Dk) (b : (Nat → Int32)) (w : (Nat → Int32)) (s0 : Int32) : Option (Int32 × Dk × Dk × (Nat → Int32) × (Nat → Int32)) := ((gm_draft d).bind fun z1 => (if z1.1 = s0 then ((gm_draft u).bind fun z3 => (if z3.1 = s0 then (some ((1 : Int32), z1.2, z3.2, b, w)) else (some ((0 : Int32), z1.2, z3.2, b, w)))) else (some ((0 : Int32), z1.2, u, b, w))))
set_option maxHeartbeats 1000000 in
set_option maxRecDepth 100000 in
theorem jl_acts_116  (X : LCx p l s m args meth c cL_acts 19 D cA A) (hE : ∀ (z : Int32 × Dk × Dk × (Nat → Int32) × (Nat → Int32)) (q tq : Nat → Nat → Nat) (pc : Nat) (H : Heap) (locs : List Loc) (ls : Array Slot) (cells slots : Nat), (z.1 = 0 ∨ z.1 = 1) → decode cL_acts pc = .ok (.ireturn, 1) → cells ≤ 81 → slots ≤ 772 → St D A s.heap (aW q0 q cA z.2.1 t0 tq z.2.2.1 ab aw z.2.2.2.1 z.2.2.2.2) H locs → W p l e rm_L_acts s m args below meth c H locs cells slots (Qf z) (F0 m pc ls [.int z.1])) (d : Dk) (u : Dk) (b : (Nat → Int32)) (w : (Nat → Int32)) (s0 : Int32) (z : Int32 × Dk × Dk × (Nat → Int32) × (Nat → Int32)) (hf : f_L_acts_116 d u b w s0 = some z) (H : Heap) (locs : List Loc) (ls : Array Slot) (h : St D A s.heap (aW q0 q cA d t0 tq u ab aw b w) H locs) (hl : lv_has ls 19 [(0, .ref (q0 0)), (1, .ref (t0 0))]) : W p l e rm_L_acts s m args below meth c H locs 2 12 (Qf z) (F0 m 116 ls [.int s0]) := by
  obtain ⟨C, hl0, hXA, hN⟩ := id X
  obtain ⟨hx, hb, hml, hown, hts, hK, hlk⟩ := id C
  rw [f_L_acts_116] at hf
  refine lv_istore (pc := 116) (lv' := [(13, .int s0), (0, .ref (q0 0)), (1, .ref (t0 0))]) hx hb dL_acts_116 hl (by decide) rfl (fun ls hl => ?_)
  refine lv_aload_n (pc := 118) hx hb dL_acts_118 rfl (lv_at hl 1 rfl) ?_
  obtain ⟨z1, hc1, hf⟩ := bdS hf
  refine call_EH (pc := 119) (As := [.ref (q0 0)]) (rest := []) X h (vm_draft d hc1) cx_L_195 (aW_o q0 q cA d t0 tq u ab aw b w) rfl rfl hl.1 (Nat.le_of_ble_eq_true rfl) dL_acts_119 ⟨(Nat.le_of_ble_eq_true rfl), (Nat.le_of_ble_eq_true rfl)⟩ rfl rfl ⟨(Nat.le_of_ble_eq_true rfl), (Nat.le_of_ble_eq_true rfl)⟩ (fun e2 H locs h => ?_)
  replace h := St_perm (aW_o q0 (va_up q d.1 e2) cA z1.2 t0 tq u ab aw b w).symm h
  refine W.eq (g2 := F0 m 122 ls [.int z1.1]) rfl ?_
  refine lv_iload (pc := 122) hx hb dL_acts_122 (lv_at hl 0 rfl) ?_
  refine lv_icmp_ne (pc := 124) (tgt := 140) hx hb dL_acts_124 (by decide) (fun c9 => ?_) (fun c9 => ?_)
  · have hf := ifF c9 hf
    refine lv_iconst (pc := 140) (v := 0) hx hb dL_acts_140 (by decide) ?_
    cases hf
    exact hE ((0 : Int32), z1.2, u, b, w) (va_up q d.1 e2) tq 141 _ _ _ _ _ (Or.inl rfl) dL_acts_141 (Nat.le_of_ble_eq_true rfl) (Nat.le_of_ble_eq_true rfl) h
  · have hf := ifT c9 hf
    refine lv_aload_n (pc := 127) hx hb dL_acts_127 rfl (lv_at hl 2 rfl) ?_
    obtain ⟨z3, hc3, hf⟩ := bdS hf
    refine call_EH (pc := 128) (As := [.ref (t0 0)]) (rest := []) X h (vm_draft u hc3) cx_L_195 (aW_t q0 (va_up q d.1 e2) cA z1.2 t0 tq u ab aw b w) rfl rfl hl.1 (Nat.le_of_ble_eq_true rfl) dL_acts_128 ⟨(Nat.le_of_ble_eq_true rfl), (Nat.le_of_ble_eq_true rfl)⟩ rfl rfl ⟨(Nat.le_of_ble_eq_true rfl), (Nat.le_of_ble_eq_true rfl)⟩ (fun e4 H locs h => ?_)
    replace h := St_perm (aW_t q0 (va_up q d.1 e2) cA z1.2 t0 (va_up tq u.1 e4) z3.2 ab aw b w).symm h
    refine W.eq (g2 := F0 m 131 ls [.int z3.1]) rfl ?_
    refine lv_iload (pc := 131) hx hb dL_acts_131 (lv_at hl 0 rfl) ?_
    refine lv_icmp_ne (pc := 133) (tgt := 140) hx hb dL_acts_133 (by decide) (fun c9 => ?_) (fun c9 => ?_)
    · have hf := ifF c9 hf
      refine lv_iconst (pc := 140) (v := 0) hx hb dL_acts_140 (by decide) ?_
      cases hf
      exact hE ((0 : Int32), z1.2, z3.2, b, w) (va_up q d.1 e2) (va_up tq u.1 e4) 141 _ _ _ _ _ (Or.inl rfl) dL_acts_141 (Nat.le_of_ble_eq_true rfl) (Nat.le_of_ble_eq_true rfl) h
    · have hf := ifT c9 hf
      refine lv_iconst (pc := 136) (v := 1) hx hb dL_acts_136 (by decide) ?_
      refine lv_goto (pc := 137) (tgt := 141) hx hb dL_acts_137 (by decide) ?_
      cases hf
      exact hE ((1 : Int32), z1.2, z3.2, b, w) (va_up q d.1 e2) (va_up tq u.1 e4) 141 _ _ _ _ _ (Or.inr rfl) dL_acts_141 (Nat.le_of_ble_eq_true rfl) (Nat.le_of_ble_eq_true rfl) h
def f_L_acts_68 (d : Dk) (u : Dk) (b : (Nat → Int32)) (w : (Nat → Int32)) (x5 : Int32) (x6 : Int32) (x7 : Int32) (x8 : Int32) (x9 : Int32) (s0 : Int32) : Option (Int32 × Dk × Dk × (Nat → Int32) × (Nat → Int32)) := ((f_L_low x5 (8 : Int32)).bind fun z1 => ((f_L_low (x5 >>> ((3 : Int32) &&& 31)) (s0 + (1 : Int32))).bind fun z2 => (if (2 : Int32) ≤ x6 then (if (7 : Int32) ≤ x6 then (if x6 = (7 : Int32) then ((f_L_low (x5 >>> ((4 : Int32) &&& 31)) (256 : Int32)).bind fun z3 => ((f_L_low (x5 >>> ((12 : Int32) &&& 31)) (256 : Int32)).bind fun z4 => (if x8 = 0 then (f_L_acts_395 d u b w x7 x8 s0 (((1 : Int32) <<< (z1 &&& 31)) ||| (z3 &&& z4)) (-1000001 : Int32)) else (if x9 = 0 then ((f_L_many (((1 : Int32) <<< (z1 &&& 31)) ||| (z3 &&& z4))).bind fun z5 => (if (s0 + z5) ≤ (8 : Int32) then ((f_L_many (((1 : Int32) <<< (z1 &&& 31)) ||| (z3 &&& z4))).bind fun z6 => (f_L_acts_395 d u b w x7 x8 s0 (((1 : Int32) <<< (z1 &&& 31)) ||| (z3 &&& z4)) (s0 + z6))) else (f_L_acts_395 d u b w x7 x8 s0 (((1 : Int32) <<< (z1 &&& 31)) ||| (z3 &&& z4)) (-1000003 : Int32)))) else (f_L_acts_395 d u b w x7 x8 s0 (((1 : Int32) <<< (z1 &&& 31)) ||| (z3 &&& z4)) (-1000003 : Int32)))))) else (if x6 = (8 : Int32) then (if x8 = 0 then (f_L_acts_546 d u b w x5 x7 x8 (-1000001 : Int32)) else (if x9 = 0 then (f_L_acts_546 d u b w x5 x7 x8 (0 : Int32)) else (f_L_acts_546 d u b w x5 x7 x8 (-1000003 : Int32)))) else (if x6 = (9 : Int32) then ((gm_send d x7).bind fun z3 => ((gm_send u x7).bind fun z4 => (if z4.1 = z3.1 then (if x8 = 0 then (if z3.1 = (-1000001 : Int32) then (some ((1 : Int32), z3.2, z4.2, b, w)) else (some ((0 : Int32), z3.2, z4.2, b, w))) else (if x9 = 0 then (if s0 = 0 then (f_L_acts_695 z3.2 z4.2 b w z3.1) else (if z3.1 ≤ 0 then (some ((0 : Int32), z3.2, z4.2, b, w)) else ((gm_state z3.2 x7).bind fun z5 => (if z5 = (1 : Int32) then (some ((1 : Int32), z3.2, z4.2, b, w)) else (some ((0 : Int32), z3.2, z4.2, b, w)))))) else (f_L_acts_695 z3.2 z4.2 b w z3.1))) else (some ((0 : Int32), z3.2, z4.2, b, w))))) else (if (15 : Int32) ≤ x6 then (if x6 = (15 : Int32) then ((f_L_low (x5 >>> ((8 : Int32) &&& 31)) (2 : Int32)).bind fun z3 => (if z3 = 0 then (f_L_acts_1037 d u b w x5 x7 x8 x9 s0 z1 z2 (1 : Int32)) else (f_L_acts_1037 d u b w x5 x7 x8 x9 s0 z1 z2 (0 : Int32)))) else (if (18 : Int32) ≤ x6 then (if x6 = (18 : Int32) then ((gm_revoke d z1).bind fun z3 => ((gm_revoke u z1).bind fun z4 => (if z4.1 = z3.1 then (if z3.1 = (-1000003 : Int32) then (f_L_acts_1490 z3.2 z4.2 b w z1) else (if z3.1 < 0 then (some ((0 : Int32), z3.2, z4.2, b, w)) else (if (8 : Int32) ≤ z3.1 then (some ((0 : Int32), z3.2, z4.2, b, w)) else (f_L_acts_1490 z3.2 z4.2 b w z1)))) else (some ((0 : Int32), z3.2, z4.2, b, w))))) else ((f_L_low (x5 >>> ((6 : Int32) &&& 31)) (4 : Int32)).bind fun z3 => (if z3 = 0 then (f_L_acts_1541 d u b w x7 (60 : Int32) x5 (1 : Int32)) else (f_L_acts_1541 d u b w x7 (7 : Int32) x5 (1 : Int32))))) else ((f_L_low (x5 >>> ((3 : Int32) &&& 31)) (8 : Int32)).bind fun z3 => ((gn_today d).bind fun z4 => ((f_L_low (x5 >>> ((6 : Int32) &&& 31)) (5 : Int32)).bind fun z5 => ((f_L_low (x5 >>> ((9 : Int32) &&& 31)) (12 : Int32)).bind fun z6 => ((f_L_low (x5 >>> ((13 : Int32) &&& 31)) (11 : Int32)).bind fun z7 => (if z1 = z3 then (f_L_acts_1349 d u b w z1 z3 ((z4 + z5) - (1 : Int32)) ((((z4 + z5) - (1 : Int32)) + z6) - (1 : Int32)) z7) else ((gn_today d).bind fun z8 => (if ((z4 + z5) - (1 : Int32)) < z8 then (f_L_acts_1349 d u b w z1 z3 ((z4 + z5) - (1 : Int32)) ((((z4 + z5) - (1 : Int32)) + z6) - (1 : Int32)) z7) else (if ((((z4 + z5) - (1 : Int32)) + z6) - (1 : Int32)) < ((z4 + z5) - (1 : Int32)) then (f_L_acts_1349 d u b w z1 z3 ((z4 + z5) - (1 : Int32)) ((((z4 + z5) - (1 : Int32)) + z6) - (1 : Int32)) z7) else (if z7 ≤ 0 then (f_L_acts_1349 d u b w z1 z3 ((z4 + z5) - (1 : Int32)) ((((z4 + z5) - (1 : Int32)) + z6) - (1 : Int32)) z7) else (if (10 : Int32) ≤ z7 then (f_L_acts_1349 d u b w z1 z3 ((z4 + z5) - (1 : Int32)) ((((z4 + z5) - (1 : Int32)) + z6) - (1 : Int32)) z7) else (f_L_acts_1350 d u b w z1 z3 ((z4 + z5) - (1 : Int32)) ((((z4 + z5) - (1 : Int32)) + z6) - (1 : Int32)) z7 (1 : Int32))))))))))))))) else (if x8 = 0 then (f_L_acts_821 d u b w x7 x8 s0 z1 z2) else (if s0 ≤ z2 then (f_L_acts_821 d u b w x7 x8 s0 z1 z2) else ((f_L_low (x5 >>> ((7 : Int32) &&& 31)) (3 : Int32)).bind fun z3 => (if z3 ≤ 0 then ((f_L_low (x5 >>> ((9 : Int32) &&& 31)) (2 : Int32)).bind fun z4 => (if z4 = 0 then (if inb (((8 : Int32) * x7) + z2) 48 then ((gm_delegateToday d (w (((8 : Int32) * x7) + z2).toNatClampNeg)).bind fun z5 => (if z5 < 0 then (f_L_acts_823 d u b w x7 x8 s0 z2 z1) else (if inb (((8 : Int32) * x7) + z2) 48 then ((gm_delegateToday d (w (((8 : Int32) * x7) + z2).toNatClampNeg)).bind fun z6 => (f_L_acts_823 d u b w x7 x8 s0 z2 z6)) else none))) else none) else (f_L_acts_823 d u b w x7 x8 s0 z2 z1))) else (if inb (((8 : Int32) * x7) + z2) 48 then (f_L_acts_823 d u b w x7 x8 s0 z2 (w (((8 : Int32) * x7) + z2).toNatClampNeg)) else none))))))))) else ((f_L_low (x5 >>> ((5 : Int32) &&& 31)) (3 : Int32)).bind fun z3 => (if z3 = 0 then (f_L_acts_182 d u b w x7 x8 x9 s0 z1 (0 : Int32)) else ((f_L_low (x5 >>> ((7 : Int32) &&& 31)) (256 : Int32)).bind fun z4 => (f_L_acts_182 d u b w x7 x8 x9 s0 z1 (z4 &&& (((1 : Int32) <<< (s0 &&& 31)) - (1 : Int32)))))))) else ((gn_envelopes d).bind fun z3 => (if (6 : Int32) ≤ z3 then (f_L_acts_116 d u b w (-1000003 : Int32)) else ((gn_envelopes d).bind fun z4 => (f_L_acts_116 d u b w z4)))))))
set_option maxHeartbeats 1000000 in
set_option maxRecDepth 100000 in
theorem jl_acts_68  (X : LCx p l s m args meth c cL_acts 19 D cA A) (hE : ∀ (z : Int32 × Dk × Dk × (Nat → Int32) × (Nat → Int32)) (q tq : Nat → Nat → Nat) (pc : Nat) (H : Heap) (locs : List Loc) (ls : Array Slot) (cells slots : Nat), (z.1 = 0 ∨ z.1 = 1) → decode cL_acts pc = .ok (.ireturn, 1) → cells ≤ 81 → slots ≤ 772 → St D A s.heap (aW q0 q cA z.2.1 t0 tq z.2.2.1 ab aw z.2.2.2.1 z.2.2.2.2) H locs → W p l e rm_L_acts s m args below meth c H locs cells slots (Qf z) (F0 m pc ls [.int z.1])) (d : Dk) (u : Dk) (b : (Nat → Int32)) (w : (Nat → Int32)) (x5 : Int32) (x6 : Int32) (x7 : Int32) (x8 : Int32) (x9 : Int32) (s0 : Int32) (z : Int32 × Dk × Dk × (Nat → Int32) × (Nat → Int32)) (hf : f_L_acts_68 d u b w x5 x6 x7 x8 x9 s0 = some z) (H : Heap) (locs : List Loc) (ls : Array Slot) (h : St D A s.heap (aW q0 q cA d t0 tq u ab aw b w) H locs) (hl : lv_has ls 19 [(0, .ref (q0 0)), (1, .ref (t0 0)), (2, .ref (ab)), (3, .ref (aw)), (5, .int x5), (6, .int x6), (7, .int x7), (8, .int x8), (9, .int x9)]) : W p l e rm_L_acts s m args below meth c H locs 2 12 (Qf z) (F0 m 68 ls [.int s0]) := by
  obtain ⟨C, hl0, hXA, hN⟩ := id X
  obtain ⟨hx, hb, hml, hown, hts, hK, hlk⟩ := id C
  rw [f_L_acts_68] at hf
  refine lv_istore (pc := 68) (lv' := [(10, .int s0), (0, .ref (q0 0)), (1, .ref (t0 0)), (2, .ref (ab)), (3, .ref (aw)), (5, .int x5), (6, .int x6), (7, .int x7), (8, .int x8), (9, .int x9)]) hx hb dL_acts_68 hl (by decide) rfl (fun ls hl => ?_)
  refine lv_iload (pc := 70) hx hb dL_acts_70 (lv_at hl 5 rfl) ?_
  refine lv_bipush (pc := 72) (v := 8) hx hb dL_acts_72 (by decide) ?_
  obtain ⟨z1, hc1, hf⟩ := bdS hf
  refine call_SR (pc := 74) (As := [.int x5, .int (8 : Int32)]) (rest := []) (wc := []) C h (k_L_low x5 (8 : Int32) hc1) cw_L_192 [] rfl rfl rfl rfl hl.1 (Nat.le_of_ble_eq_true rfl) dL_acts_74 ⟨(Nat.le_of_ble_eq_true rfl), (Nat.le_of_ble_eq_true rfl)⟩ rfl rfl ⟨(Nat.le_of_ble_eq_true rfl), (Nat.le_of_ble_eq_true rfl)⟩ (fun H locs h => ?_)
  refine W.eq (g2 := F0 m 77 ls [.int z1]) rfl ?_
  refine lv_istore (pc := 77) (lv' := [(11, .int z1), (10, .int s0), (0, .ref (q0 0)), (1, .ref (t0 0)), (2, .ref (ab)), (3, .ref (aw)), (5, .int x5), (6, .int x6), (7, .int x7), (8, .int x8), (9, .int x9)]) hx hb dL_acts_77 hl (by decide) rfl (fun ls hl => ?_)
  refine lv_iload (pc := 79) hx hb dL_acts_79 (lv_at hl 6 rfl) ?_
  refine lv_iconst (pc := 81) (v := 3) hx hb dL_acts_81 (by decide) ?_
  refine lv_ishr (pc := 82) hx hb dL_acts_82 ?_
  refine lv_iload (pc := 83) hx hb dL_acts_83 (lv_at hl 1 rfl) ?_
  refine lv_iconst (pc := 85) (v := 1) hx hb dL_acts_85 (by decide) ?_
  refine lv_iadd (pc := 86) hx hb dL_acts_86 ?_
  obtain ⟨z2, hc2, hf⟩ := bdS hf
  refine call_SR (pc := 87) (As := [.int (x5 >>> ((3 : Int32) &&& 31)), .int (s0 + (1 : Int32))]) (rest := []) (wc := []) C h (k_L_low (x5 >>> ((3 : Int32) &&& 31)) (s0 + (1 : Int32)) hc2) cw_L_192 [] rfl rfl rfl rfl hl.1 (Nat.le_of_ble_eq_true rfl) dL_acts_87 ⟨(Nat.le_of_ble_eq_true rfl), (Nat.le_of_ble_eq_true rfl)⟩ rfl rfl ⟨(Nat.le_of_ble_eq_true rfl), (Nat.le_of_ble_eq_true rfl)⟩ (fun H locs h => ?_)
  refine W.eq (g2 := F0 m 90 ls [.int z2]) rfl ?_
  refine lv_istore (pc := 90) (lv' := [(12, .int z2), (11, .int z1), (10, .int s0), (0, .ref (q0 0)), (1, .ref (t0 0)), (2, .ref (ab)), (3, .ref (aw)), (5, .int x5), (6, .int x6), (7, .int x7), (8, .int x8), (9, .int x9)]) hx hb dL_acts_90 hl (by decide) rfl (fun ls hl => ?_)
  refine lv_iload (pc := 92) hx hb dL_acts_92 (lv_at hl 8 rfl) ?_
  refine lv_iconst (pc := 94) (v := 2) hx hb dL_acts_94 (by decide) ?_
  refine lv_icmp_ge (pc := 95) (tgt := 142) hx hb dL_acts_95 (by decide) (fun c9 => ?_) (fun c9 => ?_)
  · have hf := ifT c9 hf
    refine lv_iload (pc := 142) hx hb dL_acts_142 (lv_at hl 8 rfl) ?_
    refine lv_bipush (pc := 144) (v := 7) hx hb dL_acts_144 (by decide) ?_
    refine lv_icmp_ge (pc := 146) (tgt := 318) hx hb dL_acts_146 (by decide) (fun c9 => ?_) (fun c9 => ?_)
    · have hf := ifT c9 hf
      refine lv_iload (pc := 318) hx hb dL_acts_318 (lv_at hl 8 rfl) ?_
      refine lv_bipush (pc := 320) (v := 7) hx hb dL_acts_320 (by decide) ?_
      refine lv_icmp_ne (pc := 322) (tgt := 518) hx hb dL_acts_322 (by decide) (fun c9 => ?_) (fun c9 => ?_)
      · have hf := ifF c9 hf
        refine lv_iload (pc := 518) hx hb dL_acts_518 (lv_at hl 8 rfl) ?_
        refine lv_bipush (pc := 520) (v := 8) hx hb dL_acts_520 (by decide) ?_
        refine lv_icmp_ne (pc := 522) (tgt := 644) hx hb dL_acts_522 (by decide) (fun c9 => ?_) (fun c9 => ?_)
        · have hf := ifF c9 hf
          refine lv_iload (pc := 644) hx hb dL_acts_644 (lv_at hl 8 rfl) ?_
          refine lv_bipush (pc := 646) (v := 9) hx hb dL_acts_646 (by decide) ?_
          refine lv_icmp_ne (pc := 648) (tgt := 726) hx hb dL_acts_648 (by decide) (fun c9 => ?_) (fun c9 => ?_)
          · have hf := ifF c9 hf
            refine lv_iload (pc := 726) hx hb dL_acts_726 (lv_at hl 8 rfl) ?_
            refine lv_bipush (pc := 728) (v := 15) hx hb dL_acts_728 (by decide) ?_
            refine lv_icmp_ge (pc := 730) (tgt := 1013) hx hb dL_acts_730 (by decide) (fun c9 => ?_) (fun c9 => ?_)
            · have hf := ifT c9 hf
              refine lv_iload (pc := 1013) hx hb dL_acts_1013 (lv_at hl 8 rfl) ?_
              refine lv_bipush (pc := 1015) (v := 15) hx hb dL_acts_1015 (by decide) ?_
              refine lv_icmp_ne (pc := 1017) (tgt := 1245) hx hb dL_acts_1017 (by decide) (fun c9 => ?_) (fun c9 => ?_)
              · have hf := ifF c9 hf
                refine lv_iload (pc := 1245) hx hb dL_acts_1245 (lv_at hl 8 rfl) ?_
                refine lv_bipush (pc := 1247) (v := 18) hx hb dL_acts_1247 (by decide) ?_
                refine lv_icmp_ge (pc := 1249) (tgt := 1445) hx hb dL_acts_1249 (by decide) (fun c9 => ?_) (fun c9 => ?_)
                · have hf := ifT c9 hf
                  refine lv_iload (pc := 1445) hx hb dL_acts_1445 (lv_at hl 8 rfl) ?_
                  refine lv_bipush (pc := 1447) (v := 18) hx hb dL_acts_1447 (by decide) ?_
                  refine lv_icmp_ne (pc := 1449) (tgt := 1517) hx hb dL_acts_1449 (by decide) (fun c9 => ?_) (fun c9 => ?_)
                  · have hf := ifF c9 hf
                    refine lv_aload_n (pc := 1517) hx hb dL_acts_1517 rfl (lv_at hl 3 rfl) ?_
                    refine lv_aload_n (pc := 1518) hx hb dL_acts_1518 rfl (lv_at hl 4 rfl) ?_
                    refine lv_iconst (pc := 1519) (v := 1) hx hb dL_acts_1519 (by decide) ?_
                    refine lv_iload (pc := 1520) hx hb dL_acts_1520 (lv_at hl 7 rfl) ?_
                    refine lv_iload (pc := 1522) hx hb dL_acts_1522 (lv_at hl 7 rfl) ?_
                    refine lv_bipush (pc := 1524) (v := 6) hx hb dL_acts_1524 (by decide) ?_
                    refine lv_ishr (pc := 1526) hx hb dL_acts_1526 ?_
                    refine lv_iconst (pc := 1527) (v := 4) hx hb dL_acts_1527 (by decide) ?_
                    obtain ⟨z3, hc3, hf⟩ := bdS hf
                    refine call_SR (pc := 1528) (As := [.int (x5 >>> ((6 : Int32) &&& 31)), .int (4 : Int32)]) (rest := [.int x5, .int (1 : Int32), .ref (t0 0), .ref (q0 0)]) (wc := []) C h (k_L_low (x5 >>> ((6 : Int32) &&& 31)) (4 : Int32) hc3) cw_L_192 [] rfl rfl rfl rfl hl.1 (Nat.le_of_ble_eq_true rfl) dL_acts_1528 ⟨(Nat.le_of_ble_eq_true rfl), (Nat.le_of_ble_eq_true rfl)⟩ rfl rfl ⟨(Nat.le_of_ble_eq_true rfl), (Nat.le_of_ble_eq_true rfl)⟩ (fun H locs h => ?_)
                    refine W.eq (g2 := F0 m 1531 ls [.int z3, .int x5, .int (1 : Int32), .ref (t0 0), .ref (q0 0)]) rfl ?_
                    refine lv_if_ne (pc := 1531) (tgt := 1539) hx hb dL_acts_1531 (by decide) (fun c9 => ?_) (fun c9 => ?_)
                    · have hf := ifF c9 hf
                      refine lv_bipush (pc := 1539) (v := 7) hx hb dL_acts_1539 (by decide) ?_
                      exact W.widen (Nat.le_of_ble_eq_true rfl : 2 ≤ 77) (Nat.le_of_ble_eq_true rfl : 12 ≤ 748) (jl_acts_1541 X hE   _ _ _ _ _ _ _ _ _ hf _ _ _ h (lv_sub hl [9] rfl))
                    · have hf := ifT c9 hf
                      refine lv_bipush (pc := 1534) (v := 60) hx hb dL_acts_1534 (by decide) ?_
                      refine lv_goto (pc := 1536) (tgt := 1541) hx hb dL_acts_1536 (by decide) ?_
                      exact W.widen (Nat.le_of_ble_eq_true rfl : 2 ≤ 77) (Nat.le_of_ble_eq_true rfl : 12 ≤ 748) (jl_acts_1541 X hE   _ _ _ _ _ _ _ _ _ hf _ _ _ h (lv_sub hl [9] rfl))
                  · have hf := ifT c9 hf
                    refine lv_aload_n (pc := 1452) hx hb dL_acts_1452 rfl (lv_at hl 3 rfl) ?_
                    refine lv_iload (pc := 1453) hx hb dL_acts_1453 (lv_at hl 1 rfl) ?_
                    obtain ⟨z3, hc3, hf⟩ := bdS hf
                    refine call_H (pc := 1455) (As := [.ref (q0 0), .int z1]) (rest := []) (ws' := (aW q0 q cA z3.2 t0 tq u ab aw b w)) X h (vm_revoke d z1 hc3) cx_L_215 (aW_o q0 q cA d t0 tq u ab aw b w) (aW_o q0 q cA z3.2 t0 tq u ab aw b w).symm (kW_fst _ _ _ _ _ (nm_revoke hc3)) rfl rfl hl.1 (Nat.le_of_ble_eq_true rfl) dL_acts_1455 ⟨(Nat.le_of_ble_eq_true rfl), (Nat.le_of_ble_eq_true rfl)⟩ rfl rfl ⟨(Nat.le_of_ble_eq_true rfl), (Nat.le_of_ble_eq_true rfl)⟩ (fun H locs h => ?_)
                    refine W.eq (g2 := F0 m 1458 ls [.int z3.1]) rfl ?_
                    refine lv_istore (pc := 1458) (lv' := [(13, .int z3.1), (12, .int z2), (11, .int z1), (10, .int s0), (0, .ref (q0 0)), (1, .ref (t0 0)), (2, .ref (ab)), (3, .ref (aw)), (5, .int x5), (6, .int x6), (7, .int x7), (8, .int x8), (9, .int x9)]) hx hb dL_acts_1458 hl (by decide) rfl (fun ls hl => ?_)
                    refine lv_aload_n (pc := 1460) hx hb dL_acts_1460 rfl (lv_at hl 5 rfl) ?_
                    refine lv_iload (pc := 1461) hx hb dL_acts_1461 (lv_at hl 2 rfl) ?_
                    obtain ⟨z4, hc4, hf⟩ := bdS hf
                    refine call_H (pc := 1463) (As := [.ref (t0 0), .int z1]) (rest := []) (ws' := (aW q0 q cA z3.2 t0 tq z4.2 ab aw b w)) X h (vm_revoke u z1 hc4) cx_L_215 (aW_t q0 q cA z3.2 t0 tq u ab aw b w) (aW_t q0 q cA z3.2 t0 tq z4.2 ab aw b w).symm (kW_fst _ _ _ _ _ (nm_revoke hc4)) rfl rfl hl.1 (Nat.le_of_ble_eq_true rfl) dL_acts_1463 ⟨(Nat.le_of_ble_eq_true rfl), (Nat.le_of_ble_eq_true rfl)⟩ rfl rfl ⟨(Nat.le_of_ble_eq_true rfl), (Nat.le_of_ble_eq_true rfl)⟩ (fun H locs h => ?_)
                    refine W.eq (g2 := F0 m 1466 ls [.int z4.1]) rfl ?_
                    refine lv_iload (pc := 1466) hx hb dL_acts_1466 (lv_at hl 0 rfl) ?_
                    refine lv_icmp_ne (pc := 1468) (tgt := 1515) hx hb dL_acts_1468 (by decide) (fun c9 => ?_) (fun c9 => ?_)
                    · have hf := ifF c9 hf
                      refine lv_iconst (pc := 1515) (v := 0) hx hb dL_acts_1515 (by decide) ?_
                      cases hf
                      exact hE ((0 : Int32), z3.2, z4.2, b, w) q tq 1516 _ _ _ _ _ (Or.inl rfl) dL_acts_1516 (Nat.le_of_ble_eq_true rfl) (Nat.le_of_ble_eq_true rfl) h
                    · have hf := ifT c9 hf
                      refine lv_iload (pc := 1471) hx hb dL_acts_1471 (lv_at hl 0 rfl) ?_
                      refine lv_ldc (pc := 1473) (v := -1000003) hx hb hown (hts _ kc_L_18) dL_acts_1473 ?_
                      refine lv_icmp_eq (pc := 1475) (tgt := 1490) hx hb dL_acts_1475 (by decide) (fun c9 => ?_) (fun c9 => ?_)
                      · have hf := ifT c9 hf
                        exact W.widen (Nat.le_of_ble_eq_true rfl : 4 ≤ 75) (Nat.le_of_ble_eq_true rfl : 24 ≤ 736) (jl_acts_1490 X hE   _ _ _ _ _ _ hf _ _ _ h (lv_sub hl [4, 2] rfl))
                      · have hf := ifF c9 hf
                        refine lv_iload (pc := 1478) hx hb dL_acts_1478 (lv_at hl 0 rfl) ?_
                        refine lv_if_lt (pc := 1480) (tgt := 1515) hx hb dL_acts_1480 (by decide) (fun c9 => ?_) (fun c9 => ?_)
                        · have hf := ifT c9 hf
                          refine lv_iconst (pc := 1515) (v := 0) hx hb dL_acts_1515 (by decide) ?_
                          cases hf
                          exact hE ((0 : Int32), z3.2, z4.2, b, w) q tq 1516 _ _ _ _ _ (Or.inl rfl) dL_acts_1516 (Nat.le_of_ble_eq_true rfl) (Nat.le_of_ble_eq_true rfl) h
                        · have hf := ifF c9 hf
                          refine lv_iload (pc := 1483) hx hb dL_acts_1483 (lv_at hl 0 rfl) ?_
                          refine lv_bipush (pc := 1485) (v := 8) hx hb dL_acts_1485 (by decide) ?_
                          refine lv_icmp_ge (pc := 1487) (tgt := 1515) hx hb dL_acts_1487 (by decide) (fun c9 => ?_) (fun c9 => ?_)
                          · have hf := ifT c9 hf
                            refine lv_iconst (pc := 1515) (v := 0) hx hb dL_acts_1515 (by decide) ?_
                            cases hf
                            exact hE ((0 : Int32), z3.2, z4.2, b, w) q tq 1516 _ _ _ _ _ (Or.inl rfl) dL_acts_1516 (Nat.le_of_ble_eq_true rfl) (Nat.le_of_ble_eq_true rfl) h
                          · have hf := ifF c9 hf
                            exact W.widen (Nat.le_of_ble_eq_true rfl : 4 ≤ 75) (Nat.le_of_ble_eq_true rfl : 24 ≤ 736) (jl_acts_1490 X hE   _ _ _ _ _ _ hf _ _ _ h (lv_sub hl [4, 2] rfl))
                · have hf := ifF c9 hf
                  refine lv_iload (pc := 1252) hx hb dL_acts_1252 (lv_at hl 7 rfl) ?_
                  refine lv_iconst (pc := 1254) (v := 3) hx hb dL_acts_1254 (by decide) ?_
                  refine lv_ishr (pc := 1255) hx hb dL_acts_1255 ?_
                  refine lv_bipush (pc := 1256) (v := 8) hx hb dL_acts_1256 (by decide) ?_
                  obtain ⟨z3, hc3, hf⟩ := bdS hf
                  refine call_SR (pc := 1258) (As := [.int (x5 >>> ((3 : Int32) &&& 31)), .int (8 : Int32)]) (rest := []) (wc := []) C h (k_L_low (x5 >>> ((3 : Int32) &&& 31)) (8 : Int32) hc3) cw_L_192 [] rfl rfl rfl rfl hl.1 (Nat.le_of_ble_eq_true rfl) dL_acts_1258 ⟨(Nat.le_of_ble_eq_true rfl), (Nat.le_of_ble_eq_true rfl)⟩ rfl rfl ⟨(Nat.le_of_ble_eq_true rfl), (Nat.le_of_ble_eq_true rfl)⟩ (fun H locs h => ?_)
                  refine W.eq (g2 := F0 m 1261 ls [.int z3]) rfl ?_
                  refine lv_istore (pc := 1261) (lv' := [(13, .int z3), (12, .int z2), (11, .int z1), (10, .int s0), (0, .ref (q0 0)), (1, .ref (t0 0)), (2, .ref (ab)), (3, .ref (aw)), (5, .int x5), (6, .int x6), (7, .int x7), (8, .int x8), (9, .int x9)]) hx hb dL_acts_1261 hl (by decide) rfl (fun ls hl => ?_)
                  refine lv_aload_n (pc := 1263) hx hb dL_acts_1263 rfl (lv_at hl 4 rfl) ?_
                  obtain ⟨z4, hc4, hf⟩ := bdS hf
                  obtain ⟨hn4, hv4⟩ := gn_today_s hc4
                  refine call_VRp (pc := 1264) (rest := []) (As := []) C h (k_X4_today hn4 (q0 := q0) (q := q) d.2.1 d.2.2 hv4) cw_L_130 (kW_c0 q0 q cA d) rfl (aW_o ..) rfl rfl hl.1 (Nat.le_of_ble_eq_true rfl) dL_acts_1264 ⟨(Nat.le_of_ble_eq_true rfl), (Nat.le_of_ble_eq_true rfl)⟩ rfl rfl ⟨(Nat.le_of_ble_eq_true rfl), (Nat.le_of_ble_eq_true rfl)⟩ (fun H locs h => ?_)
                  refine W.eq (g2 := F0 m 1267 ls [.int z4]) rfl ?_
                  refine lv_iload (pc := 1267) hx hb dL_acts_1267 (lv_at hl 8 rfl) ?_
                  refine lv_bipush (pc := 1269) (v := 6) hx hb dL_acts_1269 (by decide) ?_
                  refine lv_ishr (pc := 1271) hx hb dL_acts_1271 ?_
                  refine lv_iconst (pc := 1272) (v := 5) hx hb dL_acts_1272 (by decide) ?_
                  obtain ⟨z5, hc5, hf⟩ := bdS hf
                  refine call_SR (pc := 1273) (As := [.int (x5 >>> ((6 : Int32) &&& 31)), .int (5 : Int32)]) (rest := [.int z4]) (wc := []) C h (k_L_low (x5 >>> ((6 : Int32) &&& 31)) (5 : Int32) hc5) cw_L_192 [] rfl rfl rfl rfl hl.1 (Nat.le_of_ble_eq_true rfl) dL_acts_1273 ⟨(Nat.le_of_ble_eq_true rfl), (Nat.le_of_ble_eq_true rfl)⟩ rfl rfl ⟨(Nat.le_of_ble_eq_true rfl), (Nat.le_of_ble_eq_true rfl)⟩ (fun H locs h => ?_)
                  refine W.eq (g2 := F0 m 1276 ls [.int z5, .int z4]) rfl ?_
                  refine lv_iadd (pc := 1276) hx hb dL_acts_1276 ?_
                  refine lv_iconst (pc := 1277) (v := 1) hx hb dL_acts_1277 (by decide) ?_
                  refine lv_isub (pc := 1278) hx hb dL_acts_1278 ?_
                  refine lv_istore (pc := 1279) (lv' := [(14, .int ((z4 + z5) - (1 : Int32))), (13, .int z3), (12, .int z2), (11, .int z1), (10, .int s0), (0, .ref (q0 0)), (1, .ref (t0 0)), (2, .ref (ab)), (3, .ref (aw)), (5, .int x5), (6, .int x6), (7, .int x7), (8, .int x8), (9, .int x9)]) hx hb dL_acts_1279 hl (by decide) rfl (fun ls hl => ?_)
                  refine lv_iload (pc := 1281) hx hb dL_acts_1281 (lv_at hl 0 rfl) ?_
                  refine lv_iload (pc := 1283) hx hb dL_acts_1283 (lv_at hl 9 rfl) ?_
                  refine lv_bipush (pc := 1285) (v := 9) hx hb dL_acts_1285 (by decide) ?_
                  refine lv_ishr (pc := 1287) hx hb dL_acts_1287 ?_
                  refine lv_bipush (pc := 1288) (v := 12) hx hb dL_acts_1288 (by decide) ?_
                  obtain ⟨z6, hc6, hf⟩ := bdS hf
                  refine call_SR (pc := 1290) (As := [.int (x5 >>> ((9 : Int32) &&& 31)), .int (12 : Int32)]) (rest := [.int ((z4 + z5) - (1 : Int32))]) (wc := []) C h (k_L_low (x5 >>> ((9 : Int32) &&& 31)) (12 : Int32) hc6) cw_L_192 [] rfl rfl rfl rfl hl.1 (Nat.le_of_ble_eq_true rfl) dL_acts_1290 ⟨(Nat.le_of_ble_eq_true rfl), (Nat.le_of_ble_eq_true rfl)⟩ rfl rfl ⟨(Nat.le_of_ble_eq_true rfl), (Nat.le_of_ble_eq_true rfl)⟩ (fun H locs h => ?_)
                  refine W.eq (g2 := F0 m 1293 ls [.int z6, .int ((z4 + z5) - (1 : Int32))]) rfl ?_
                  refine lv_iadd (pc := 1293) hx hb dL_acts_1293 ?_
                  refine lv_iconst (pc := 1294) (v := 1) hx hb dL_acts_1294 (by decide) ?_
                  refine lv_isub (pc := 1295) hx hb dL_acts_1295 ?_
                  refine lv_istore (pc := 1296) (lv' := [(15, .int ((((z4 + z5) - (1 : Int32)) + z6) - (1 : Int32))), (14, .int ((z4 + z5) - (1 : Int32))), (13, .int z3), (12, .int z2), (11, .int z1), (10, .int s0), (0, .ref (q0 0)), (1, .ref (t0 0)), (2, .ref (ab)), (3, .ref (aw)), (5, .int x5), (6, .int x6), (7, .int x7), (8, .int x8), (9, .int x9)]) hx hb dL_acts_1296 hl (by decide) rfl (fun ls hl => ?_)
                  refine lv_iload (pc := 1298) hx hb dL_acts_1298 (lv_at hl 10 rfl) ?_
                  refine lv_bipush (pc := 1300) (v := 13) hx hb dL_acts_1300 (by decide) ?_
                  refine lv_ishr (pc := 1302) hx hb dL_acts_1302 ?_
                  refine lv_bipush (pc := 1303) (v := 11) hx hb dL_acts_1303 (by decide) ?_
                  obtain ⟨z7, hc7, hf⟩ := bdS hf
                  refine call_SR (pc := 1305) (As := [.int (x5 >>> ((13 : Int32) &&& 31)), .int (11 : Int32)]) (rest := []) (wc := []) C h (k_L_low (x5 >>> ((13 : Int32) &&& 31)) (11 : Int32) hc7) cw_L_192 [] rfl rfl rfl rfl hl.1 (Nat.le_of_ble_eq_true rfl) dL_acts_1305 ⟨(Nat.le_of_ble_eq_true rfl), (Nat.le_of_ble_eq_true rfl)⟩ rfl rfl ⟨(Nat.le_of_ble_eq_true rfl), (Nat.le_of_ble_eq_true rfl)⟩ (fun H locs h => ?_)
                  refine W.eq (g2 := F0 m 1308 ls [.int z7]) rfl ?_
                  refine lv_istore (pc := 1308) (lv' := [(16, .int z7), (15, .int ((((z4 + z5) - (1 : Int32)) + z6) - (1 : Int32))), (14, .int ((z4 + z5) - (1 : Int32))), (13, .int z3), (12, .int z2), (11, .int z1), (10, .int s0), (0, .ref (q0 0)), (1, .ref (t0 0)), (2, .ref (ab)), (3, .ref (aw)), (5, .int x5), (6, .int x6), (7, .int x7), (8, .int x8), (9, .int x9)]) hx hb dL_acts_1308 hl (by decide) rfl (fun ls hl => ?_)
                  refine lv_iload (pc := 1310) hx hb dL_acts_1310 (lv_at hl 5 rfl) ?_
                  refine lv_iload (pc := 1312) hx hb dL_acts_1312 (lv_at hl 3 rfl) ?_
                  refine lv_icmp_eq (pc := 1314) (tgt := 1349) hx hb dL_acts_1314 (by decide) (fun c9 => ?_) (fun c9 => ?_)
                  · have hf := ifT c9 hf
                    exact W.widen (Nat.le_of_ble_eq_true rfl : 2 ≤ 70) (Nat.le_of_ble_eq_true rfl : 12 ≤ 706) (jl_acts_1349 X hE   _ _ _ _ _ _ _ _ _ _ hf _ _ _ h (lv_sub hl [7, 8, 5, 3, 2, 1, 0] rfl))
                  · have hf := ifF c9 hf
                    refine lv_iload (pc := 1317) hx hb dL_acts_1317 (lv_at hl 2 rfl) ?_
                    refine lv_aload_n (pc := 1319) hx hb dL_acts_1319 rfl (lv_at hl 7 rfl) ?_
                    obtain ⟨z8, hc8, hf⟩ := bdS hf
                    obtain ⟨hn8, hv8⟩ := gn_today_s hc8
                    refine call_VRp (pc := 1320) (rest := [.int ((z4 + z5) - (1 : Int32))]) (As := []) C h (k_X4_today hn8 (q0 := q0) (q := q) d.2.1 d.2.2 hv8) cw_L_130 (kW_c0 q0 q cA d) rfl (aW_o ..) rfl rfl hl.1 (Nat.le_of_ble_eq_true rfl) dL_acts_1320 ⟨(Nat.le_of_ble_eq_true rfl), (Nat.le_of_ble_eq_true rfl)⟩ rfl rfl ⟨(Nat.le_of_ble_eq_true rfl), (Nat.le_of_ble_eq_true rfl)⟩ (fun H locs h => ?_)
                    refine W.eq (g2 := F0 m 1323 ls [.int z8, .int ((z4 + z5) - (1 : Int32))]) rfl ?_
                    refine lv_icmp_lt (pc := 1323) (tgt := 1349) hx hb dL_acts_1323 (by decide) (fun c9 => ?_) (fun c9 => ?_)
                    · have hf := ifT c9 hf
                      exact W.widen (Nat.le_of_ble_eq_true rfl : 2 ≤ 70) (Nat.le_of_ble_eq_true rfl : 12 ≤ 706) (jl_acts_1349 X hE   _ _ _ _ _ _ _ _ _ _ hf _ _ _ h (lv_sub hl [7, 8, 5, 3, 2, 1, 0] rfl))
                    · have hf := ifF c9 hf
                      refine lv_iload (pc := 1326) hx hb dL_acts_1326 (lv_at hl 1 rfl) ?_
                      refine lv_iload (pc := 1328) hx hb dL_acts_1328 (lv_at hl 2 rfl) ?_
                      refine lv_icmp_lt (pc := 1330) (tgt := 1349) hx hb dL_acts_1330 (by decide) (fun c9 => ?_) (fun c9 => ?_)
                      · have hf := ifT c9 hf
                        exact W.widen (Nat.le_of_ble_eq_true rfl : 2 ≤ 70) (Nat.le_of_ble_eq_true rfl : 12 ≤ 706) (jl_acts_1349 X hE   _ _ _ _ _ _ _ _ _ _ hf _ _ _ h (lv_sub hl [7, 8, 5, 3, 2, 1, 0] rfl))
                      · have hf := ifF c9 hf
                        refine lv_iload (pc := 1333) hx hb dL_acts_1333 (lv_at hl 0 rfl) ?_
                        refine lv_if_le (pc := 1335) (tgt := 1349) hx hb dL_acts_1335 (by decide) (fun c9 => ?_) (fun c9 => ?_)
                        · have hf := ifT c9 hf
                          exact W.widen (Nat.le_of_ble_eq_true rfl : 2 ≤ 70) (Nat.le_of_ble_eq_true rfl : 12 ≤ 706) (jl_acts_1349 X hE   _ _ _ _ _ _ _ _ _ _ hf _ _ _ h (lv_sub hl [7, 8, 5, 3, 2, 1, 0] rfl))
                        · have hf := ifF c9 hf
                          refine lv_iload (pc := 1338) hx hb dL_acts_1338 (lv_at hl 0 rfl) ?_
                          refine lv_bipush (pc := 1340) (v := 10) hx hb dL_acts_1340 (by decide) ?_
                          refine lv_icmp_ge (pc := 1342) (tgt := 1349) hx hb dL_acts_1342 (by decide) (fun c9 => ?_) (fun c9 => ?_)
                          · have hf := ifT c9 hf
                            exact W.widen (Nat.le_of_ble_eq_true rfl : 2 ≤ 70) (Nat.le_of_ble_eq_true rfl : 12 ≤ 706) (jl_acts_1349 X hE   _ _ _ _ _ _ _ _ _ _ hf _ _ _ h (lv_sub hl [7, 8, 5, 3, 2, 1, 0] rfl))
                          · have hf := ifF c9 hf
                            refine lv_iconst (pc := 1345) (v := 1) hx hb dL_acts_1345 (by decide) ?_
                            refine lv_goto (pc := 1346) (tgt := 1350) hx hb dL_acts_1346 (by decide) ?_
                            exact W.widen (Nat.le_of_ble_eq_true rfl : 2 ≤ 70) (Nat.le_of_ble_eq_true rfl : 12 ≤ 706) (jl_acts_1350 X hE   _ _ _ _ _ _ _ _ _ _ _ hf _ _ _ h (lv_sub hl [7, 8, 5, 3, 2, 1, 0] rfl))
              · have hf := ifT c9 hf
                refine lv_iload (pc := 1020) hx hb dL_acts_1020 (lv_at hl 7 rfl) ?_
                refine lv_bipush (pc := 1022) (v := 8) hx hb dL_acts_1022 (by decide) ?_
                refine lv_ishr (pc := 1024) hx hb dL_acts_1024 ?_
                refine lv_iconst (pc := 1025) (v := 2) hx hb dL_acts_1025 (by decide) ?_
                obtain ⟨z3, hc3, hf⟩ := bdS hf
                refine call_SR (pc := 1026) (As := [.int (x5 >>> ((8 : Int32) &&& 31)), .int (2 : Int32)]) (rest := []) (wc := []) C h (k_L_low (x5 >>> ((8 : Int32) &&& 31)) (2 : Int32) hc3) cw_L_192 [] rfl rfl rfl rfl hl.1 (Nat.le_of_ble_eq_true rfl) dL_acts_1026 ⟨(Nat.le_of_ble_eq_true rfl), (Nat.le_of_ble_eq_true rfl)⟩ rfl rfl ⟨(Nat.le_of_ble_eq_true rfl), (Nat.le_of_ble_eq_true rfl)⟩ (fun H locs h => ?_)
                refine W.eq (g2 := F0 m 1029 ls [.int z3]) rfl ?_
                refine lv_if_ne (pc := 1029) (tgt := 1036) hx hb dL_acts_1029 (by decide) (fun c9 => ?_) (fun c9 => ?_)
                · have hf := ifF c9 hf
                  refine lv_iconst (pc := 1036) (v := 0) hx hb dL_acts_1036 (by decide) ?_
                  exact W.widen (Nat.le_of_ble_eq_true rfl : 2 ≤ 64) (Nat.le_of_ble_eq_true rfl : 12 ≤ 670) (jl_acts_1037 X hE   _ _ _ _ _ _ _ _ _ _ _ _ _ hf _ _ _ h (lv_sub hl [3, 4, 6, 7, 9, 10, 11, 2, 1, 0] rfl))
                · have hf := ifT c9 hf
                  refine lv_iconst (pc := 1032) (v := 1) hx hb dL_acts_1032 (by decide) ?_
                  refine lv_goto (pc := 1033) (tgt := 1037) hx hb dL_acts_1033 (by decide) ?_
                  exact W.widen (Nat.le_of_ble_eq_true rfl : 2 ≤ 64) (Nat.le_of_ble_eq_true rfl : 12 ≤ 670) (jl_acts_1037 X hE   _ _ _ _ _ _ _ _ _ _ _ _ _ hf _ _ _ h (lv_sub hl [3, 4, 6, 7, 9, 10, 11, 2, 1, 0] rfl))
            · have hf := ifF c9 hf
              refine lv_iload (pc := 733) hx hb dL_acts_733 (lv_at hl 10 rfl) ?_
              refine lv_if_eq (pc := 735) (tgt := 821) hx hb dL_acts_735 (by decide) (fun c9 => ?_) (fun c9 => ?_)
              · have hf := ifT c9 hf
                exact W.widen (Nat.le_of_ble_eq_true rfl : 2 ≤ 57) (Nat.le_of_ble_eq_true rfl : 12 ≤ 628) (jl_acts_821 X hE   _ _ _ _ _ _ _ _ _ _ hf _ _ _ h (lv_sub hl [3, 4, 6, 9, 10, 2, 1, 0] rfl))
              · have hf := ifF c9 hf
                refine lv_iload (pc := 738) hx hb dL_acts_738 (lv_at hl 0 rfl) ?_
                refine lv_iload (pc := 740) hx hb dL_acts_740 (lv_at hl 2 rfl) ?_
                refine lv_icmp_ge (pc := 742) (tgt := 821) hx hb dL_acts_742 (by decide) (fun c9 => ?_) (fun c9 => ?_)
                · have hf := ifT c9 hf
                  exact W.widen (Nat.le_of_ble_eq_true rfl : 2 ≤ 57) (Nat.le_of_ble_eq_true rfl : 12 ≤ 628) (jl_acts_821 X hE   _ _ _ _ _ _ _ _ _ _ hf _ _ _ h (lv_sub hl [3, 4, 6, 9, 10, 2, 1, 0] rfl))
                · have hf := ifF c9 hf
                  refine lv_iload (pc := 745) hx hb dL_acts_745 (lv_at hl 7 rfl) ?_
                  refine lv_bipush (pc := 747) (v := 7) hx hb dL_acts_747 (by decide) ?_
                  refine lv_ishr (pc := 749) hx hb dL_acts_749 ?_
                  refine lv_iconst (pc := 750) (v := 3) hx hb dL_acts_750 (by decide) ?_
                  obtain ⟨z3, hc3, hf⟩ := bdS hf
                  refine call_SR (pc := 751) (As := [.int (x5 >>> ((7 : Int32) &&& 31)), .int (3 : Int32)]) (rest := []) (wc := []) C h (k_L_low (x5 >>> ((7 : Int32) &&& 31)) (3 : Int32) hc3) cw_L_192 [] rfl rfl rfl rfl hl.1 (Nat.le_of_ble_eq_true rfl) dL_acts_751 ⟨(Nat.le_of_ble_eq_true rfl), (Nat.le_of_ble_eq_true rfl)⟩ rfl rfl ⟨(Nat.le_of_ble_eq_true rfl), (Nat.le_of_ble_eq_true rfl)⟩ (fun H locs h => ?_)
                  refine W.eq (g2 := F0 m 754 ls [.int z3]) rfl ?_
                  refine lv_if_le (pc := 754) (tgt := 770) hx hb dL_acts_754 (by decide) (fun c9 => ?_) (fun c9 => ?_)
                  · have hf := ifT c9 hf
                    refine lv_iload (pc := 770) hx hb dL_acts_770 (lv_at hl 7 rfl) ?_
                    refine lv_bipush (pc := 772) (v := 9) hx hb dL_acts_772 (by decide) ?_
                    refine lv_ishr (pc := 774) hx hb dL_acts_774 ?_
                    refine lv_iconst (pc := 775) (v := 2) hx hb dL_acts_775 (by decide) ?_
                    obtain ⟨z4, hc4, hf⟩ := bdS hf
                    refine call_SR (pc := 776) (As := [.int (x5 >>> ((9 : Int32) &&& 31)), .int (2 : Int32)]) (rest := []) (wc := []) C h (k_L_low (x5 >>> ((9 : Int32) &&& 31)) (2 : Int32) hc4) cw_L_192 [] rfl rfl rfl rfl hl.1 (Nat.le_of_ble_eq_true rfl) dL_acts_776 ⟨(Nat.le_of_ble_eq_true rfl), (Nat.le_of_ble_eq_true rfl)⟩ rfl rfl ⟨(Nat.le_of_ble_eq_true rfl), (Nat.le_of_ble_eq_true rfl)⟩ (fun H locs h => ?_)
                    refine W.eq (g2 := F0 m 779 ls [.int z4]) rfl ?_
                    refine lv_if_ne (pc := 779) (tgt := 816) hx hb dL_acts_779 (by decide) (fun c9 => ?_) (fun c9 => ?_)
                    · have hf := ifF c9 hf
                      refine lv_iload (pc := 816) hx hb dL_acts_816 (lv_at hl 1 rfl) ?_
                      refine lv_goto (pc := 818) (tgt := 823) hx hb dL_acts_818 (by decide) ?_
                      exact W.widen (Nat.le_of_ble_eq_true rfl : 2 ≤ 57) (Nat.le_of_ble_eq_true rfl : 12 ≤ 628) (jl_acts_823 X hE   _ _ _ _ _ _ _ _ _ _ hf _ _ _ h (lv_sub hl [3, 4, 6, 9, 10, 2, 0] rfl))
                    · have hf := ifT c9 hf
                      refine lv_aload_n (pc := 782) hx hb dL_acts_782 rfl (lv_at hl 3 rfl) ?_
                      refine lv_aload_n (pc := 783) hx hb dL_acts_783 rfl (lv_at hl 6 rfl) ?_
                      refine lv_bipush (pc := 784) (v := 8) hx hb dL_acts_784 (by decide) ?_
                      refine lv_iload (pc := 786) hx hb dL_acts_786 (lv_at hl 9 rfl) ?_
                      refine lv_imul (pc := 788) hx hb dL_acts_788 ?_
                      refine lv_iload (pc := 789) hx hb dL_acts_789 (lv_at hl 0 rfl) ?_
                      refine lv_iadd (pc := 791) hx hb dL_acts_791 ?_
                      obtain ⟨hin, hf⟩ := ifS hf
                      refine g_ild (pc := 792) (n := 48) (f := w) C h.1 1 (aW_1 ..) hin dL_acts_792 ?_
                      obtain ⟨z5, hc5, hf⟩ := bdS hf
                      refine call_H (pc := 793) (As := [.ref (q0 0), .int (w (((8 : Int32) * x7) + z2).toNatClampNeg)]) (rest := []) (ws' := (aW q0 q cA d t0 tq u ab aw b w)) X h (vm_delegateToday d (w (((8 : Int32) * x7) + z2).toNatClampNeg) hc5) cx_L_154 (aW_o q0 q cA d t0 tq u ab aw b w) (aW_o q0 q cA d t0 tq u ab aw b w).symm rfl rfl rfl hl.1 (Nat.le_of_ble_eq_true rfl) dL_acts_793 ⟨(Nat.le_of_ble_eq_true rfl), (Nat.le_of_ble_eq_true rfl)⟩ rfl rfl ⟨(Nat.le_of_ble_eq_true rfl), (Nat.le_of_ble_eq_true rfl)⟩ (fun H locs h => ?_)
                      refine W.eq (g2 := F0 m 796 ls [.int z5]) rfl ?_
                      refine lv_if_lt (pc := 796) (tgt := 816) hx hb dL_acts_796 (by decide) (fun c9 => ?_) (fun c9 => ?_)
                      · have hf := ifT c9 hf
                        refine lv_iload (pc := 816) hx hb dL_acts_816 (lv_at hl 1 rfl) ?_
                        refine lv_goto (pc := 818) (tgt := 823) hx hb dL_acts_818 (by decide) ?_
                        exact W.widen (Nat.le_of_ble_eq_true rfl : 3 ≤ 57) (Nat.le_of_ble_eq_true rfl : 18 ≤ 628) (jl_acts_823 X hE   _ _ _ _ _ _ _ _ _ _ hf _ _ _ h (lv_sub hl [3, 4, 6, 9, 10, 2, 0] rfl))
                      · have hf := ifF c9 hf
                        refine lv_aload_n (pc := 799) hx hb dL_acts_799 rfl (lv_at hl 3 rfl) ?_
                        refine lv_aload_n (pc := 800) hx hb dL_acts_800 rfl (lv_at hl 6 rfl) ?_
                        refine lv_bipush (pc := 801) (v := 8) hx hb dL_acts_801 (by decide) ?_
                        refine lv_iload (pc := 803) hx hb dL_acts_803 (lv_at hl 9 rfl) ?_
                        refine lv_imul (pc := 805) hx hb dL_acts_805 ?_
                        refine lv_iload (pc := 806) hx hb dL_acts_806 (lv_at hl 0 rfl) ?_
                        refine lv_iadd (pc := 808) hx hb dL_acts_808 ?_
                        obtain ⟨hin, hf⟩ := ifS hf
                        refine g_ild (pc := 809) (n := 48) (f := w) C h.1 1 (aW_1 ..) hin dL_acts_809 ?_
                        obtain ⟨z6, hc6, hf⟩ := bdS hf
                        refine call_H (pc := 810) (As := [.ref (q0 0), .int (w (((8 : Int32) * x7) + z2).toNatClampNeg)]) (rest := []) (ws' := (aW q0 q cA d t0 tq u ab aw b w)) X h (vm_delegateToday d (w (((8 : Int32) * x7) + z2).toNatClampNeg) hc6) cx_L_154 (aW_o q0 q cA d t0 tq u ab aw b w) (aW_o q0 q cA d t0 tq u ab aw b w).symm rfl rfl rfl hl.1 (Nat.le_of_ble_eq_true rfl) dL_acts_810 ⟨(Nat.le_of_ble_eq_true rfl), (Nat.le_of_ble_eq_true rfl)⟩ rfl rfl ⟨(Nat.le_of_ble_eq_true rfl), (Nat.le_of_ble_eq_true rfl)⟩ (fun H locs h => ?_)
                        refine W.eq (g2 := F0 m 813 ls [.int z6]) rfl ?_
                        refine lv_goto (pc := 813) (tgt := 823) hx hb dL_acts_813 (by decide) ?_
                        exact W.widen (Nat.le_of_ble_eq_true rfl : 4 ≤ 57) (Nat.le_of_ble_eq_true rfl : 24 ≤ 628) (jl_acts_823 X hE   _ _ _ _ _ _ _ _ _ _ hf _ _ _ h (lv_sub hl [3, 4, 6, 9, 10, 2, 0] rfl))
                  · have hf := ifF c9 hf
                    refine lv_aload_n (pc := 757) hx hb dL_acts_757 rfl (lv_at hl 6 rfl) ?_
                    refine lv_bipush (pc := 758) (v := 8) hx hb dL_acts_758 (by decide) ?_
                    refine lv_iload (pc := 760) hx hb dL_acts_760 (lv_at hl 9 rfl) ?_
                    refine lv_imul (pc := 762) hx hb dL_acts_762 ?_
                    refine lv_iload (pc := 763) hx hb dL_acts_763 (lv_at hl 0 rfl) ?_
                    refine lv_iadd (pc := 765) hx hb dL_acts_765 ?_
                    obtain ⟨hin, hf⟩ := ifS hf
                    refine g_ild (pc := 766) (n := 48) (f := w) C h.1 1 (aW_1 ..) hin dL_acts_766 ?_
                    refine lv_goto (pc := 767) (tgt := 823) hx hb dL_acts_767 (by decide) ?_
                    exact W.widen (Nat.le_of_ble_eq_true rfl : 2 ≤ 57) (Nat.le_of_ble_eq_true rfl : 12 ≤ 628) (jl_acts_823 X hE   _ _ _ _ _ _ _ _ _ _ hf _ _ _ h (lv_sub hl [3, 4, 6, 9, 10, 2, 0] rfl))
          · have hf := ifT c9 hf
            refine lv_aload_n (pc := 651) hx hb dL_acts_651 rfl (lv_at hl 3 rfl) ?_
            refine lv_iload (pc := 652) hx hb dL_acts_652 (lv_at hl 9 rfl) ?_
            obtain ⟨z3, hc3, hf⟩ := bdS hf
            refine call_H (pc := 654) (As := [.ref (q0 0), .int x7]) (rest := []) (ws' := (aW q0 q cA z3.2 t0 tq u ab aw b w)) X h (vm_send d x7 hc3) cx_L_204 (aW_o q0 q cA d t0 tq u ab aw b w) (aW_o q0 q cA z3.2 t0 tq u ab aw b w).symm (kW_fst _ _ _ _ _ (nm_send hc3)) rfl rfl hl.1 (Nat.le_of_ble_eq_true rfl) dL_acts_654 ⟨(Nat.le_of_ble_eq_true rfl), (Nat.le_of_ble_eq_true rfl)⟩ rfl rfl ⟨(Nat.le_of_ble_eq_true rfl), (Nat.le_of_ble_eq_true rfl)⟩ (fun H locs h => ?_)
            refine W.eq (g2 := F0 m 657 ls [.int z3.1]) rfl ?_
            refine lv_istore (pc := 657) (lv' := [(13, .int z3.1), (12, .int z2), (11, .int z1), (10, .int s0), (0, .ref (q0 0)), (1, .ref (t0 0)), (2, .ref (ab)), (3, .ref (aw)), (5, .int x5), (6, .int x6), (7, .int x7), (8, .int x8), (9, .int x9)]) hx hb dL_acts_657 hl (by decide) rfl (fun ls hl => ?_)
            refine lv_aload_n (pc := 659) hx hb dL_acts_659 rfl (lv_at hl 5 rfl) ?_
            refine lv_iload (pc := 660) hx hb dL_acts_660 (lv_at hl 10 rfl) ?_
            obtain ⟨z4, hc4, hf⟩ := bdS hf
            refine call_H (pc := 662) (As := [.ref (t0 0), .int x7]) (rest := []) (ws' := (aW q0 q cA z3.2 t0 tq z4.2 ab aw b w)) X h (vm_send u x7 hc4) cx_L_204 (aW_t q0 q cA z3.2 t0 tq u ab aw b w) (aW_t q0 q cA z3.2 t0 tq z4.2 ab aw b w).symm (kW_fst _ _ _ _ _ (nm_send hc4)) rfl rfl hl.1 (Nat.le_of_ble_eq_true rfl) dL_acts_662 ⟨(Nat.le_of_ble_eq_true rfl), (Nat.le_of_ble_eq_true rfl)⟩ rfl rfl ⟨(Nat.le_of_ble_eq_true rfl), (Nat.le_of_ble_eq_true rfl)⟩ (fun H locs h => ?_)
            refine W.eq (g2 := F0 m 665 ls [.int z4.1]) rfl ?_
            refine lv_iload (pc := 665) hx hb dL_acts_665 (lv_at hl 0 rfl) ?_
            refine lv_icmp_ne (pc := 667) (tgt := 724) hx hb dL_acts_667 (by decide) (fun c9 => ?_) (fun c9 => ?_)
            · have hf := ifF c9 hf
              refine lv_iconst (pc := 724) (v := 0) hx hb dL_acts_724 (by decide) ?_
              cases hf
              exact hE ((0 : Int32), z3.2, z4.2, b, w) q tq 725 _ _ _ _ _ (Or.inl rfl) dL_acts_725 (Nat.le_of_ble_eq_true rfl) (Nat.le_of_ble_eq_true rfl) h
            · have hf := ifT c9 hf
              refine lv_iload (pc := 670) hx hb dL_acts_670 (lv_at hl 11 rfl) ?_
              refine lv_if_ne (pc := 672) (tgt := 685) hx hb dL_acts_672 (by decide) (fun c9 => ?_) (fun c9 => ?_)
              · have hf := ifF c9 hf
                refine lv_iload (pc := 685) hx hb dL_acts_685 (lv_at hl 12 rfl) ?_
                refine lv_if_ne (pc := 687) (tgt := 695) hx hb dL_acts_687 (by decide) (fun c9 => ?_) (fun c9 => ?_)
                · have hf := ifF c9 hf
                  exact W.widen (Nat.le_of_ble_eq_true rfl : 4 ≤ 54) (Nat.le_of_ble_eq_true rfl : 24 ≤ 610) (jl_acts_695 X hE   _ _ _ _ _ _ hf _ _ _ h (lv_sub hl [0] rfl))
                · have hf := ifT c9 hf
                  refine lv_iload (pc := 690) hx hb dL_acts_690 (lv_at hl 3 rfl) ?_
                  refine lv_if_ne (pc := 692) (tgt := 705) hx hb dL_acts_692 (by decide) (fun c9 => ?_) (fun c9 => ?_)
                  · have hf := ifF c9 hf
                    refine lv_iload (pc := 705) hx hb dL_acts_705 (lv_at hl 0 rfl) ?_
                    refine lv_if_le (pc := 707) (tgt := 724) hx hb dL_acts_707 (by decide) (fun c9 => ?_) (fun c9 => ?_)
                    · have hf := ifT c9 hf
                      refine lv_iconst (pc := 724) (v := 0) hx hb dL_acts_724 (by decide) ?_
                      cases hf
                      exact hE ((0 : Int32), z3.2, z4.2, b, w) q tq 725 _ _ _ _ _ (Or.inl rfl) dL_acts_725 (Nat.le_of_ble_eq_true rfl) (Nat.le_of_ble_eq_true rfl) h
                    · have hf := ifF c9 hf
                      refine lv_aload_n (pc := 710) hx hb dL_acts_710 rfl (lv_at hl 4 rfl) ?_
                      refine lv_iload (pc := 711) hx hb dL_acts_711 (lv_at hl 10 rfl) ?_
                      obtain ⟨z5, hc5, hf⟩ := bdS hf
                      refine call_H (pc := 713) (As := [.ref (q0 0), .int x7]) (rest := []) (ws' := (aW q0 q cA z3.2 t0 tq z4.2 ab aw b w)) X h (vm_state z3.2 x7 hc5) cx_L_136 (aW_o q0 q cA z3.2 t0 tq z4.2 ab aw b w) (aW_o q0 q cA z3.2 t0 tq z4.2 ab aw b w).symm rfl rfl rfl hl.1 (Nat.le_of_ble_eq_true rfl) dL_acts_713 ⟨(Nat.le_of_ble_eq_true rfl), (Nat.le_of_ble_eq_true rfl)⟩ rfl rfl ⟨(Nat.le_of_ble_eq_true rfl), (Nat.le_of_ble_eq_true rfl)⟩ (fun H locs h => ?_)
                      refine W.eq (g2 := F0 m 716 ls [.int z5]) rfl ?_
                      refine lv_iconst (pc := 716) (v := 1) hx hb dL_acts_716 (by decide) ?_
                      refine lv_icmp_ne (pc := 717) (tgt := 724) hx hb dL_acts_717 (by decide) (fun c9 => ?_) (fun c9 => ?_)
                      · have hf := ifF c9 hf
                        refine lv_iconst (pc := 724) (v := 0) hx hb dL_acts_724 (by decide) ?_
                        cases hf
                        exact hE ((0 : Int32), z3.2, z4.2, b, w) q tq 725 _ _ _ _ _ (Or.inl rfl) dL_acts_725 (Nat.le_of_ble_eq_true rfl) (Nat.le_of_ble_eq_true rfl) h
                      · have hf := ifT c9 hf
                        refine lv_iconst (pc := 720) (v := 1) hx hb dL_acts_720 (by decide) ?_
                        refine lv_goto (pc := 721) (tgt := 725) hx hb dL_acts_721 (by decide) ?_
                        cases hf
                        exact hE ((1 : Int32), z3.2, z4.2, b, w) q tq 725 _ _ _ _ _ (Or.inr rfl) dL_acts_725 (Nat.le_of_ble_eq_true rfl) (Nat.le_of_ble_eq_true rfl) h
                  · have hf := ifT c9 hf
                    exact W.widen (Nat.le_of_ble_eq_true rfl : 4 ≤ 54) (Nat.le_of_ble_eq_true rfl : 24 ≤ 610) (jl_acts_695 X hE   _ _ _ _ _ _ hf _ _ _ h (lv_sub hl [0] rfl))
              · have hf := ifT c9 hf
                refine lv_iload (pc := 675) hx hb dL_acts_675 (lv_at hl 0 rfl) ?_
                refine lv_ldc (pc := 677) (v := -1000001) hx hb hown (hts _ kc_L_25) dL_acts_677 ?_
                refine lv_icmp_ne (pc := 679) (tgt := 724) hx hb dL_acts_679 (by decide) (fun c9 => ?_) (fun c9 => ?_)
                · have hf := ifF c9 hf
                  refine lv_iconst (pc := 724) (v := 0) hx hb dL_acts_724 (by decide) ?_
                  cases hf
                  exact hE ((0 : Int32), z3.2, z4.2, b, w) q tq 725 _ _ _ _ _ (Or.inl rfl) dL_acts_725 (Nat.le_of_ble_eq_true rfl) (Nat.le_of_ble_eq_true rfl) h
                · have hf := ifT c9 hf
                  refine lv_goto (pc := 682) (tgt := 720) hx hb dL_acts_682 (by decide) ?_
                  refine lv_iconst (pc := 720) (v := 1) hx hb dL_acts_720 (by decide) ?_
                  refine lv_goto (pc := 721) (tgt := 725) hx hb dL_acts_721 (by decide) ?_
                  cases hf
                  exact hE ((1 : Int32), z3.2, z4.2, b, w) q tq 725 _ _ _ _ _ (Or.inr rfl) dL_acts_725 (Nat.le_of_ble_eq_true rfl) (Nat.le_of_ble_eq_true rfl) h
        · have hf := ifT c9 hf
          refine lv_iload (pc := 525) hx hb dL_acts_525 (lv_at hl 10 rfl) ?_
          refine lv_if_ne (pc := 527) (tgt := 535) hx hb dL_acts_527 (by decide) (fun c9 => ?_) (fun c9 => ?_)
          · have hf := ifF c9 hf
            refine lv_iload (pc := 535) hx hb dL_acts_535 (lv_at hl 11 rfl) ?_
            refine lv_if_eq (pc := 537) (tgt := 545) hx hb dL_acts_537 (by decide) (fun c9 => ?_) (fun c9 => ?_)
            · have hf := ifT c9 hf
              refine lv_iconst (pc := 545) (v := 0) hx hb dL_acts_545 (by decide) ?_
              exact W.widen (Nat.le_of_ble_eq_true rfl : 2 ≤ 49) (Nat.le_of_ble_eq_true rfl : 12 ≤ 580) (jl_acts_546 X hE   _ _ _ _ _ _ _ _ _ hf _ _ _ h (lv_sub hl [3, 4, 7, 9, 10] rfl))
            · have hf := ifF c9 hf
              refine lv_ldc (pc := 540) (v := -1000003) hx hb hown (hts _ kc_L_18) dL_acts_540 ?_
              refine lv_goto (pc := 542) (tgt := 546) hx hb dL_acts_542 (by decide) ?_
              exact W.widen (Nat.le_of_ble_eq_true rfl : 2 ≤ 49) (Nat.le_of_ble_eq_true rfl : 12 ≤ 580) (jl_acts_546 X hE   _ _ _ _ _ _ _ _ _ hf _ _ _ h (lv_sub hl [3, 4, 7, 9, 10] rfl))
          · have hf := ifT c9 hf
            refine lv_ldc (pc := 530) (v := -1000001) hx hb hown (hts _ kc_L_25) dL_acts_530 ?_
            refine lv_goto (pc := 532) (tgt := 546) hx hb dL_acts_532 (by decide) ?_
            exact W.widen (Nat.le_of_ble_eq_true rfl : 2 ≤ 49) (Nat.le_of_ble_eq_true rfl : 12 ≤ 580) (jl_acts_546 X hE   _ _ _ _ _ _ _ _ _ hf _ _ _ h (lv_sub hl [3, 4, 7, 9, 10] rfl))
      · have hf := ifT c9 hf
        refine lv_iconst (pc := 325) (v := 1) hx hb dL_acts_325 (by decide) ?_
        refine lv_iload (pc := 326) hx hb dL_acts_326 (lv_at hl 1 rfl) ?_
        refine lv_ishl (pc := 328) hx hb dL_acts_328 ?_
        refine lv_iload (pc := 329) hx hb dL_acts_329 (lv_at hl 7 rfl) ?_
        refine lv_iconst (pc := 331) (v := 4) hx hb dL_acts_331 (by decide) ?_
        refine lv_ishr (pc := 332) hx hb dL_acts_332 ?_
        refine lv_sipush (pc := 333) (v := 256) hx hb dL_acts_333 (by decide) ?_
        obtain ⟨z3, hc3, hf⟩ := bdS hf
        refine call_SR (pc := 336) (As := [.int (x5 >>> ((4 : Int32) &&& 31)), .int (256 : Int32)]) (rest := [.int ((1 : Int32) <<< (z1 &&& 31))]) (wc := []) C h (k_L_low (x5 >>> ((4 : Int32) &&& 31)) (256 : Int32) hc3) cw_L_192 [] rfl rfl rfl rfl hl.1 (Nat.le_of_ble_eq_true rfl) dL_acts_336 ⟨(Nat.le_of_ble_eq_true rfl), (Nat.le_of_ble_eq_true rfl)⟩ rfl rfl ⟨(Nat.le_of_ble_eq_true rfl), (Nat.le_of_ble_eq_true rfl)⟩ (fun H locs h => ?_)
        refine W.eq (g2 := F0 m 339 ls [.int z3, .int ((1 : Int32) <<< (z1 &&& 31))]) rfl ?_
        refine lv_iload (pc := 339) hx hb dL_acts_339 (lv_at hl 7 rfl) ?_
        refine lv_bipush (pc := 341) (v := 12) hx hb dL_acts_341 (by decide) ?_
        refine lv_ishr (pc := 343) hx hb dL_acts_343 ?_
        refine lv_sipush (pc := 344) (v := 256) hx hb dL_acts_344 (by decide) ?_
        obtain ⟨z4, hc4, hf⟩ := bdS hf
        refine call_SR (pc := 347) (As := [.int (x5 >>> ((12 : Int32) &&& 31)), .int (256 : Int32)]) (rest := [.int z3, .int ((1 : Int32) <<< (z1 &&& 31))]) (wc := []) C h (k_L_low (x5 >>> ((12 : Int32) &&& 31)) (256 : Int32) hc4) cw_L_192 [] rfl rfl rfl rfl hl.1 (Nat.le_of_ble_eq_true rfl) dL_acts_347 ⟨(Nat.le_of_ble_eq_true rfl), (Nat.le_of_ble_eq_true rfl)⟩ rfl rfl ⟨(Nat.le_of_ble_eq_true rfl), (Nat.le_of_ble_eq_true rfl)⟩ (fun H locs h => ?_)
        refine W.eq (g2 := F0 m 350 ls [.int z4, .int z3, .int ((1 : Int32) <<< (z1 &&& 31))]) rfl ?_
        refine lv_iand (pc := 350) hx hb dL_acts_350 ?_
        refine lv_ior (pc := 351) hx hb dL_acts_351 ?_
        refine lv_istore (pc := 352) (lv' := [(13, .int (((1 : Int32) <<< (z1 &&& 31)) ||| (z3 &&& z4))), (12, .int z2), (11, .int z1), (10, .int s0), (0, .ref (q0 0)), (1, .ref (t0 0)), (2, .ref (ab)), (3, .ref (aw)), (5, .int x5), (6, .int x6), (7, .int x7), (8, .int x8), (9, .int x9)]) hx hb dL_acts_352 hl (by decide) rfl (fun ls hl => ?_)
        refine lv_iload (pc := 354) hx hb dL_acts_354 (lv_at hl 11 rfl) ?_
        refine lv_if_ne (pc := 356) (tgt := 364) hx hb dL_acts_356 (by decide) (fun c9 => ?_) (fun c9 => ?_)
        · have hf := ifF c9 hf
          refine lv_iload (pc := 364) hx hb dL_acts_364 (lv_at hl 12 rfl) ?_
          refine lv_if_ne (pc := 366) (tgt := 382) hx hb dL_acts_366 (by decide) (fun c9 => ?_) (fun c9 => ?_)
          · have hf := ifF c9 hf
            refine lv_ldc (pc := 382) (v := -1000003) hx hb hown (hts _ kc_L_18) dL_acts_382 ?_
            refine lv_goto (pc := 384) (tgt := 395) hx hb dL_acts_384 (by decide) ?_
            exact W.widen (Nat.le_of_ble_eq_true rfl : 2 ≤ 46) (Nat.le_of_ble_eq_true rfl : 12 ≤ 562) (jl_acts_395 X hE   _ _ _ _ _ _ _ _ _ _ hf _ _ _ h (lv_sub hl [4, 5, 6, 7, 10, 11, 3, 0] rfl))
          · have hf := ifT c9 hf
            refine lv_iload (pc := 369) hx hb dL_acts_369 (lv_at hl 3 rfl) ?_
            refine lv_iload (pc := 371) hx hb dL_acts_371 (lv_at hl 0 rfl) ?_
            obtain ⟨z5, hc5, hf⟩ := bdS hf
            refine call_SR (pc := 373) (As := [.int (((1 : Int32) <<< (z1 &&& 31)) ||| (z3 &&& z4))]) (rest := [.int s0]) (wc := []) C h (k_L_many (((1 : Int32) <<< (z1 &&& 31)) ||| (z3 &&& z4)) hc5) cw_L_160 [] rfl rfl rfl rfl hl.1 (Nat.le_of_ble_eq_true rfl) dL_acts_373 ⟨(Nat.le_of_ble_eq_true rfl), (Nat.le_of_ble_eq_true rfl)⟩ rfl rfl ⟨(Nat.le_of_ble_eq_true rfl), (Nat.le_of_ble_eq_true rfl)⟩ (fun H locs h => ?_)
            refine W.eq (g2 := F0 m 376 ls [.int z5, .int s0]) rfl ?_
            refine lv_iadd (pc := 376) hx hb dL_acts_376 ?_
            refine lv_bipush (pc := 377) (v := 8) hx hb dL_acts_377 (by decide) ?_
            refine lv_icmp_le (pc := 379) (tgt := 387) hx hb dL_acts_379 (by decide) (fun c9 => ?_) (fun c9 => ?_)
            · have hf := ifT c9 hf
              refine lv_iload (pc := 387) hx hb dL_acts_387 (lv_at hl 3 rfl) ?_
              refine lv_iload (pc := 389) hx hb dL_acts_389 (lv_at hl 0 rfl) ?_
              obtain ⟨z6, hc6, hf⟩ := bdS hf
              refine call_SR (pc := 391) (As := [.int (((1 : Int32) <<< (z1 &&& 31)) ||| (z3 &&& z4))]) (rest := [.int s0]) (wc := []) C h (k_L_many (((1 : Int32) <<< (z1 &&& 31)) ||| (z3 &&& z4)) hc6) cw_L_160 [] rfl rfl rfl rfl hl.1 (Nat.le_of_ble_eq_true rfl) dL_acts_391 ⟨(Nat.le_of_ble_eq_true rfl), (Nat.le_of_ble_eq_true rfl)⟩ rfl rfl ⟨(Nat.le_of_ble_eq_true rfl), (Nat.le_of_ble_eq_true rfl)⟩ (fun H locs h => ?_)
              refine W.eq (g2 := F0 m 394 ls [.int z6, .int s0]) rfl ?_
              refine lv_iadd (pc := 394) hx hb dL_acts_394 ?_
              exact W.widen (Nat.le_of_ble_eq_true rfl : 2 ≤ 46) (Nat.le_of_ble_eq_true rfl : 12 ≤ 562) (jl_acts_395 X hE   _ _ _ _ _ _ _ _ _ _ hf _ _ _ h (lv_sub hl [4, 5, 6, 7, 10, 11, 3, 0] rfl))
            · have hf := ifF c9 hf
              refine lv_ldc (pc := 382) (v := -1000003) hx hb hown (hts _ kc_L_18) dL_acts_382 ?_
              refine lv_goto (pc := 384) (tgt := 395) hx hb dL_acts_384 (by decide) ?_
              exact W.widen (Nat.le_of_ble_eq_true rfl : 2 ≤ 46) (Nat.le_of_ble_eq_true rfl : 12 ≤ 562) (jl_acts_395 X hE   _ _ _ _ _ _ _ _ _ _ hf _ _ _ h (lv_sub hl [4, 5, 6, 7, 10, 11, 3, 0] rfl))
        · have hf := ifT c9 hf
          refine lv_ldc (pc := 359) (v := -1000001) hx hb hown (hts _ kc_L_25) dL_acts_359 ?_
          refine lv_goto (pc := 361) (tgt := 395) hx hb dL_acts_361 (by decide) ?_
          exact W.widen (Nat.le_of_ble_eq_true rfl : 2 ≤ 46) (Nat.le_of_ble_eq_true rfl : 12 ≤ 562) (jl_acts_395 X hE   _ _ _ _ _ _ _ _ _ _ hf _ _ _ h (lv_sub hl [4, 5, 6, 7, 10, 11, 3, 0] rfl))
    · have hf := ifF c9 hf
      refine lv_iload (pc := 149) hx hb dL_acts_149 (lv_at hl 7 rfl) ?_
      refine lv_iconst (pc := 151) (v := 5) hx hb dL_acts_151 (by decide) ?_
      refine lv_ishr (pc := 152) hx hb dL_acts_152 ?_
      refine lv_iconst (pc := 153) (v := 3) hx hb dL_acts_153 (by decide) ?_
      obtain ⟨z3, hc3, hf⟩ := bdS hf
      refine call_SR (pc := 154) (As := [.int (x5 >>> ((5 : Int32) &&& 31)), .int (3 : Int32)]) (rest := []) (wc := []) C h (k_L_low (x5 >>> ((5 : Int32) &&& 31)) (3 : Int32) hc3) cw_L_192 [] rfl rfl rfl rfl hl.1 (Nat.le_of_ble_eq_true rfl) dL_acts_154 ⟨(Nat.le_of_ble_eq_true rfl), (Nat.le_of_ble_eq_true rfl)⟩ rfl rfl ⟨(Nat.le_of_ble_eq_true rfl), (Nat.le_of_ble_eq_true rfl)⟩ (fun H locs h => ?_)
      refine W.eq (g2 := F0 m 157 ls [.int z3]) rfl ?_
      refine lv_if_ne (pc := 157) (tgt := 164) hx hb dL_acts_157 (by decide) (fun c9 => ?_) (fun c9 => ?_)
      · have hf := ifF c9 hf
        refine lv_iload (pc := 164) hx hb dL_acts_164 (lv_at hl 7 rfl) ?_
        refine lv_bipush (pc := 166) (v := 7) hx hb dL_acts_166 (by decide) ?_
        refine lv_ishr (pc := 168) hx hb dL_acts_168 ?_
        refine lv_sipush (pc := 169) (v := 256) hx hb dL_acts_169 (by decide) ?_
        obtain ⟨z4, hc4, hf⟩ := bdS hf
        refine call_SR (pc := 172) (As := [.int (x5 >>> ((7 : Int32) &&& 31)), .int (256 : Int32)]) (rest := []) (wc := []) C h (k_L_low (x5 >>> ((7 : Int32) &&& 31)) (256 : Int32) hc4) cw_L_192 [] rfl rfl rfl rfl hl.1 (Nat.le_of_ble_eq_true rfl) dL_acts_172 ⟨(Nat.le_of_ble_eq_true rfl), (Nat.le_of_ble_eq_true rfl)⟩ rfl rfl ⟨(Nat.le_of_ble_eq_true rfl), (Nat.le_of_ble_eq_true rfl)⟩ (fun H locs h => ?_)
        refine W.eq (g2 := F0 m 175 ls [.int z4]) rfl ?_
        refine lv_iconst (pc := 175) (v := 1) hx hb dL_acts_175 (by decide) ?_
        refine lv_iload (pc := 176) hx hb dL_acts_176 (lv_at hl 2 rfl) ?_
        refine lv_ishl (pc := 178) hx hb dL_acts_178 ?_
        refine lv_iconst (pc := 179) (v := 1) hx hb dL_acts_179 (by decide) ?_
        refine lv_isub (pc := 180) hx hb dL_acts_180 ?_
        refine lv_iand (pc := 181) hx hb dL_acts_181 ?_
        exact W.widen (Nat.le_of_ble_eq_true rfl : 2 ≤ 42) (Nat.le_of_ble_eq_true rfl : 12 ≤ 538) (jl_acts_182 X hE   _ _ _ _ _ _ _ _ _ _ _ hf _ _ _ h (lv_sub hl [3, 4, 5, 6, 9, 10, 11, 2, 1] rfl))
      · have hf := ifT c9 hf
        refine lv_iconst (pc := 160) (v := 0) hx hb dL_acts_160 (by decide) ?_
        refine lv_goto (pc := 161) (tgt := 182) hx hb dL_acts_161 (by decide) ?_
        exact W.widen (Nat.le_of_ble_eq_true rfl : 2 ≤ 42) (Nat.le_of_ble_eq_true rfl : 12 ≤ 538) (jl_acts_182 X hE   _ _ _ _ _ _ _ _ _ _ _ hf _ _ _ h (lv_sub hl [3, 4, 5, 6, 9, 10, 11, 2, 1] rfl))
  · have hf := ifF c9 hf
    refine lv_aload_n (pc := 98) hx hb dL_acts_98 rfl (lv_at hl 3 rfl) ?_
    obtain ⟨z3, hc3, hf⟩ := bdS hf
    obtain ⟨hn3, hv3⟩ := gn_envelopes_s hc3
    refine call_VRp (pc := 99) (rest := []) (As := []) C h (k_X4_envelopes hn3 (q0 := q0) (q := q) d.2.1 d.2.2 hv3) cw_L_133 (kW_c0 q0 q cA d) rfl (aW_o ..) rfl rfl hl.1 (Nat.le_of_ble_eq_true rfl) dL_acts_99 ⟨(Nat.le_of_ble_eq_true rfl), (Nat.le_of_ble_eq_true rfl)⟩ rfl rfl ⟨(Nat.le_of_ble_eq_true rfl), (Nat.le_of_ble_eq_true rfl)⟩ (fun H locs h => ?_)
    refine W.eq (g2 := F0 m 102 ls [.int z3]) rfl ?_
    refine lv_bipush (pc := 102) (v := 6) hx hb dL_acts_102 (by decide) ?_
    refine lv_icmp_ge (pc := 104) (tgt := 114) hx hb dL_acts_104 (by decide) (fun c9 => ?_) (fun c9 => ?_)
    · have hf := ifT c9 hf
      refine lv_ldc (pc := 114) (v := -1000003) hx hb hown (hts _ kc_L_18) dL_acts_114 ?_
      exact jl_acts_116 X hE   _ _ _ _ _ _ hf _ _ _ h (lv_sub hl [3, 4] rfl)
    · have hf := ifF c9 hf
      refine lv_aload_n (pc := 107) hx hb dL_acts_107 rfl (lv_at hl 3 rfl) ?_
      obtain ⟨z4, hc4, hf⟩ := bdS hf
      obtain ⟨hn4, hv4⟩ := gn_envelopes_s hc4
      refine call_VRp (pc := 108) (rest := []) (As := []) C h (k_X4_envelopes hn4 (q0 := q0) (q := q) d.2.1 d.2.2 hv4) cw_L_133 (kW_c0 q0 q cA d) rfl (aW_o ..) rfl rfl hl.1 (Nat.le_of_ble_eq_true rfl) dL_acts_108 ⟨(Nat.le_of_ble_eq_true rfl), (Nat.le_of_ble_eq_true rfl)⟩ rfl rfl ⟨(Nat.le_of_ble_eq_true rfl), (Nat.le_of_ble_eq_true rfl)⟩ (fun H locs h => ?_)
      refine W.eq (g2 := F0 m 111 ls [.int z4]) rfl ?_
      refine lv_goto (pc := 111) (tgt := 116) hx hb dL_acts_111 (by decide) ?_
      exact jl_acts_116 X hE   _ _ _ _ _ _ hf _ _ _ h (lv_sub hl [3, 4] rfl)
def f_L_acts_51 (d : Dk) (u : Dk) (b : (Nat → Int32)) (w : (Nat → Int32)) (x5 : Int32) (x6 : Int32) (x7 : Int32) (x8 : Int32) (s0 : Int32) : Option (Int32 × Dk × Dk × (Nat → Int32) × (Nat → Int32)) := (if x8 = 0 then (f_L_acts_68 d u b w x5 x6 x7 x8 s0 (0 : Int32)) else ((gm_slots d x7).bind fun z1 => (f_L_acts_68 d u b w x5 x6 x7 x8 s0 z1)))
set_option maxHeartbeats 1000000 in
set_option maxRecDepth 100000 in
theorem jl_acts_51  (X : LCx p l s m args meth c cL_acts 19 D cA A) (hE : ∀ (z : Int32 × Dk × Dk × (Nat → Int32) × (Nat → Int32)) (q tq : Nat → Nat → Nat) (pc : Nat) (H : Heap) (locs : List Loc) (ls : Array Slot) (cells slots : Nat), (z.1 = 0 ∨ z.1 = 1) → decode cL_acts pc = .ok (.ireturn, 1) → cells ≤ 81 → slots ≤ 772 → St D A s.heap (aW q0 q cA z.2.1 t0 tq z.2.2.1 ab aw z.2.2.2.1 z.2.2.2.2) H locs → W p l e rm_L_acts s m args below meth c H locs cells slots (Qf z) (F0 m pc ls [.int z.1])) (d : Dk) (u : Dk) (b : (Nat → Int32)) (w : (Nat → Int32)) (x5 : Int32) (x6 : Int32) (x7 : Int32) (x8 : Int32) (s0 : Int32) (z : Int32 × Dk × Dk × (Nat → Int32) × (Nat → Int32)) (hf : f_L_acts_51 d u b w x5 x6 x7 x8 s0 = some z) (H : Heap) (locs : List Loc) (ls : Array Slot) (h : St D A s.heap (aW q0 q cA d t0 tq u ab aw b w) H locs) (hl : lv_has ls 19 [(0, .ref (q0 0)), (1, .ref (t0 0)), (2, .ref (ab)), (3, .ref (aw)), (5, .int x5), (6, .int x6), (7, .int x7), (8, .int x8)]) : W p l e rm_L_acts s m args below meth c H locs 1 6 (Qf z) (F0 m 51 ls [.int s0]) := by
  obtain ⟨C, hl0, hXA, hN⟩ := id X
  obtain ⟨hx, hb, hml, hown, hts, hK, hlk⟩ := id C
  rw [f_L_acts_51] at hf
  refine lv_istore (pc := 51) (lv' := [(9, .int s0), (0, .ref (q0 0)), (1, .ref (t0 0)), (2, .ref (ab)), (3, .ref (aw)), (5, .int x5), (6, .int x6), (7, .int x7), (8, .int x8)]) hx hb dL_acts_51 hl (by decide) rfl (fun ls hl => ?_)
  refine lv_iload (pc := 53) hx hb dL_acts_53 (lv_at hl 8 rfl) ?_
  refine lv_if_eq (pc := 55) (tgt := 67) hx hb dL_acts_55 (by decide) (fun c9 => ?_) (fun c9 => ?_)
  · have hf := ifT c9 hf
    refine lv_iconst (pc := 67) (v := 0) hx hb dL_acts_67 (by decide) ?_
    exact W.widen (Nat.le_of_ble_eq_true rfl : 1 ≤ 2) (Nat.le_of_ble_eq_true rfl : 6 ≤ 12) (jl_acts_68 X hE   _ _ _ _ _ _ _ _ _ _ _ hf _ _ _ h (lv_sub hl [1, 2, 3, 4, 5, 6, 7, 8, 0] rfl))
  · have hf := ifF c9 hf
    refine lv_aload_n (pc := 58) hx hb dL_acts_58 rfl (lv_at hl 1 rfl) ?_
    refine lv_iload (pc := 59) hx hb dL_acts_59 (lv_at hl 7 rfl) ?_
    obtain ⟨z1, hc1, hf⟩ := bdS hf
    refine call_H (pc := 61) (As := [.ref (q0 0), .int x7]) (rest := []) (ws' := (aW q0 q cA d t0 tq u ab aw b w)) X h (vm_slots d x7 hc1) cx_L_148 (aW_o q0 q cA d t0 tq u ab aw b w) (aW_o q0 q cA d t0 tq u ab aw b w).symm rfl rfl rfl hl.1 (Nat.le_of_ble_eq_true rfl) dL_acts_61 ⟨(Nat.le_of_ble_eq_true rfl), (Nat.le_of_ble_eq_true rfl)⟩ rfl rfl ⟨(Nat.le_of_ble_eq_true rfl), (Nat.le_of_ble_eq_true rfl)⟩ (fun H locs h => ?_)
    refine W.eq (g2 := F0 m 64 ls [.int z1]) rfl ?_
    refine lv_goto (pc := 64) (tgt := 68) hx hb dL_acts_64 (by decide) ?_
    exact jl_acts_68 X hE   _ _ _ _ _ _ _ _ _ _ _ hf _ _ _ h (lv_sub hl [1, 2, 3, 4, 5, 6, 7, 8, 0] rfl)
def f_L_acts_34 (d : Dk) (u : Dk) (b : (Nat → Int32)) (w : (Nat → Int32)) (x5 : Int32) (x6 : Int32) (x7 : Int32) (s0 : Int32) : Option (Int32 × Dk × Dk × (Nat → Int32) × (Nat → Int32)) := (if s0 = 0 then (f_L_acts_51 d u b w x5 x6 x7 s0 (-1 : Int32)) else ((gm_state d x7).bind fun z1 => (f_L_acts_51 d u b w x5 x6 x7 s0 z1)))
set_option maxHeartbeats 1000000 in
set_option maxRecDepth 100000 in
theorem jl_acts_34  (X : LCx p l s m args meth c cL_acts 19 D cA A) (hE : ∀ (z : Int32 × Dk × Dk × (Nat → Int32) × (Nat → Int32)) (q tq : Nat → Nat → Nat) (pc : Nat) (H : Heap) (locs : List Loc) (ls : Array Slot) (cells slots : Nat), (z.1 = 0 ∨ z.1 = 1) → decode cL_acts pc = .ok (.ireturn, 1) → cells ≤ 81 → slots ≤ 772 → St D A s.heap (aW q0 q cA z.2.1 t0 tq z.2.2.1 ab aw z.2.2.2.1 z.2.2.2.2) H locs → W p l e rm_L_acts s m args below meth c H locs cells slots (Qf z) (F0 m pc ls [.int z.1])) (d : Dk) (u : Dk) (b : (Nat → Int32)) (w : (Nat → Int32)) (x5 : Int32) (x6 : Int32) (x7 : Int32) (s0 : Int32) (z : Int32 × Dk × Dk × (Nat → Int32) × (Nat → Int32)) (hf : f_L_acts_34 d u b w x5 x6 x7 s0 = some z) (H : Heap) (locs : List Loc) (ls : Array Slot) (h : St D A s.heap (aW q0 q cA d t0 tq u ab aw b w) H locs) (hl : lv_has ls 19 [(0, .ref (q0 0)), (1, .ref (t0 0)), (2, .ref (ab)), (3, .ref (aw)), (5, .int x5), (6, .int x6), (7, .int x7)]) : W p l e rm_L_acts s m args below meth c H locs 0 0 (Qf z) (F0 m 34 ls [.int s0]) := by
  obtain ⟨C, hl0, hXA, hN⟩ := id X
  obtain ⟨hx, hb, hml, hown, hts, hK, hlk⟩ := id C
  rw [f_L_acts_34] at hf
  refine lv_istore (pc := 34) (lv' := [(8, .int s0), (0, .ref (q0 0)), (1, .ref (t0 0)), (2, .ref (ab)), (3, .ref (aw)), (5, .int x5), (6, .int x6), (7, .int x7)]) hx hb dL_acts_34 hl (by decide) rfl (fun ls hl => ?_)
  refine lv_iload (pc := 36) hx hb dL_acts_36 (lv_at hl 0 rfl) ?_
  refine lv_if_eq (pc := 38) (tgt := 50) hx hb dL_acts_38 (by decide) (fun c9 => ?_) (fun c9 => ?_)
  · have hf := ifT c9 hf
    refine lv_iconst (pc := 50) (v := -1) hx hb dL_acts_50 (by decide) ?_
    exact W.widen (Nat.le_of_ble_eq_true rfl : 0 ≤ 1) (Nat.le_of_ble_eq_true rfl : 0 ≤ 6) (jl_acts_51 X hE   _ _ _ _ _ _ _ _ _ _ hf _ _ _ h (lv_sub hl [1, 2, 3, 4, 5, 6, 7, 0] rfl))
  · have hf := ifF c9 hf
    refine lv_aload_n (pc := 41) hx hb dL_acts_41 rfl (lv_at hl 1 rfl) ?_
    refine lv_iload (pc := 42) hx hb dL_acts_42 (lv_at hl 7 rfl) ?_
    obtain ⟨z1, hc1, hf⟩ := bdS hf
    refine call_H (pc := 44) (As := [.ref (q0 0), .int x7]) (rest := []) (ws' := (aW q0 q cA d t0 tq u ab aw b w)) X h (vm_state d x7 hc1) cx_L_136 (aW_o q0 q cA d t0 tq u ab aw b w) (aW_o q0 q cA d t0 tq u ab aw b w).symm rfl rfl rfl hl.1 (Nat.le_of_ble_eq_true rfl) dL_acts_44 ⟨(Nat.le_of_ble_eq_true rfl), (Nat.le_of_ble_eq_true rfl)⟩ rfl rfl ⟨(Nat.le_of_ble_eq_true rfl), (Nat.le_of_ble_eq_true rfl)⟩ (fun H locs h => ?_)
    refine W.eq (g2 := F0 m 47 ls [.int z1]) rfl ?_
    refine lv_goto (pc := 47) (tgt := 51) hx hb dL_acts_47 (by decide) ?_
    exact jl_acts_51 X hE   _ _ _ _ _ _ _ _ _ _ hf _ _ _ h (lv_sub hl [1, 2, 3, 4, 5, 6, 7, 0] rfl)
def f_L_acts (d : Dk) (u : Dk) (b : (Nat → Int32)) (w : (Nat → Int32)) (x4 : Int32) (x5 : Int32) : Option (Int32 × Dk × Dk × (Nat → Int32) × (Nat → Int32)) := ((f_L_low x4 (20 : Int32)).bind fun z1 => ((f_L_low (x4 >>> ((5 : Int32) &&& 31)) (6 : Int32)).bind fun z2 => ((gn_envelopes d).bind fun z3 => (if z3 ≤ z2 then (f_L_acts_34 d u b w x5 z1 z2 (0 : Int32)) else (f_L_acts_34 d u b w x5 z1 z2 (1 : Int32))))))
set_option maxHeartbeats 1000000 in
set_option maxRecDepth 100000 in
theorem jl_acts_0  (X : LCx p l s m args meth c cL_acts 19 D cA A) (hE : ∀ (z : Int32 × Dk × Dk × (Nat → Int32) × (Nat → Int32)) (q tq : Nat → Nat → Nat) (pc : Nat) (H : Heap) (locs : List Loc) (ls : Array Slot) (cells slots : Nat), (z.1 = 0 ∨ z.1 = 1) → decode cL_acts pc = .ok (.ireturn, 1) → cells ≤ 81 → slots ≤ 772 → St D A s.heap (aW q0 q cA z.2.1 t0 tq z.2.2.1 ab aw z.2.2.2.1 z.2.2.2.2) H locs → W p l e rm_L_acts s m args below meth c H locs cells slots (Qf z) (F0 m pc ls [.int z.1])) (d : Dk) (u : Dk) (b : (Nat → Int32)) (w : (Nat → Int32)) (x4 : Int32) (x5 : Int32) (z : Int32 × Dk × Dk × (Nat → Int32) × (Nat → Int32)) (hf : f_L_acts d u b w x4 x5 = some z) (H : Heap) (locs : List Loc) (ls : Array Slot) (h : St D A s.heap (aW q0 q cA d t0 tq u ab aw b w) H locs) (hl : lv_has ls 19 [(0, .ref (q0 0)), (1, .ref (t0 0)), (2, .ref (ab)), (3, .ref (aw)), (4, .int x4), (5, .int x5)]) : W p l e rm_L_acts s m args below meth c H locs 0 0 (Qf z) (F0 m 0 ls []) := by
  obtain ⟨C, hl0, hXA, hN⟩ := id X
  obtain ⟨hx, hb, hml, hown, hts, hK, hlk⟩ := id C
  rw [f_L_acts] at hf
  refine lv_iload (pc := 0) hx hb dL_acts_0 (lv_at hl 4 rfl) ?_
  refine lv_bipush (pc := 2) (v := 20) hx hb dL_acts_2 (by decide) ?_
  obtain ⟨z1, hc1, hf⟩ := bdS hf
  refine call_SR (pc := 4) (As := [.int x4, .int (20 : Int32)]) (rest := []) (wc := []) C h (k_L_low x4 (20 : Int32) hc1) cw_L_192 [] rfl rfl rfl rfl hl.1 (Nat.le_of_ble_eq_true rfl) dL_acts_4 ⟨(Nat.le_of_ble_eq_true rfl), (Nat.le_of_ble_eq_true rfl)⟩ rfl rfl ⟨(Nat.le_of_ble_eq_true rfl), (Nat.le_of_ble_eq_true rfl)⟩ (fun H locs h => ?_)
  refine W.eq (g2 := F0 m 7 ls [.int z1]) rfl ?_
  refine lv_istore (pc := 7) (lv' := [(6, .int z1), (0, .ref (q0 0)), (1, .ref (t0 0)), (2, .ref (ab)), (3, .ref (aw)), (4, .int x4), (5, .int x5)]) hx hb dL_acts_7 hl (by decide) rfl (fun ls hl => ?_)
  refine lv_iload (pc := 9) hx hb dL_acts_9 (lv_at hl 5 rfl) ?_
  refine lv_iconst (pc := 11) (v := 5) hx hb dL_acts_11 (by decide) ?_
  refine lv_ishr (pc := 12) hx hb dL_acts_12 ?_
  refine lv_bipush (pc := 13) (v := 6) hx hb dL_acts_13 (by decide) ?_
  obtain ⟨z2, hc2, hf⟩ := bdS hf
  refine call_SR (pc := 15) (As := [.int (x4 >>> ((5 : Int32) &&& 31)), .int (6 : Int32)]) (rest := []) (wc := []) C h (k_L_low (x4 >>> ((5 : Int32) &&& 31)) (6 : Int32) hc2) cw_L_192 [] rfl rfl rfl rfl hl.1 (Nat.le_of_ble_eq_true rfl) dL_acts_15 ⟨(Nat.le_of_ble_eq_true rfl), (Nat.le_of_ble_eq_true rfl)⟩ rfl rfl ⟨(Nat.le_of_ble_eq_true rfl), (Nat.le_of_ble_eq_true rfl)⟩ (fun H locs h => ?_)
  refine W.eq (g2 := F0 m 18 ls [.int z2]) rfl ?_
  refine lv_istore (pc := 18) (lv' := [(7, .int z2), (6, .int z1), (0, .ref (q0 0)), (1, .ref (t0 0)), (2, .ref (ab)), (3, .ref (aw)), (4, .int x4), (5, .int x5)]) hx hb dL_acts_18 hl (by decide) rfl (fun ls hl => ?_)
  refine lv_iload (pc := 20) hx hb dL_acts_20 (lv_at hl 0 rfl) ?_
  refine lv_aload_n (pc := 22) hx hb dL_acts_22 rfl (lv_at hl 2 rfl) ?_
  obtain ⟨z3, hc3, hf⟩ := bdS hf
  obtain ⟨hn3, hv3⟩ := gn_envelopes_s hc3
  refine call_VRp (pc := 23) (rest := [.int z2]) (As := []) C h (k_X4_envelopes hn3 (q0 := q0) (q := q) d.2.1 d.2.2 hv3) cw_L_133 (kW_c0 q0 q cA d) rfl (aW_o ..) rfl rfl hl.1 (Nat.le_of_ble_eq_true rfl) dL_acts_23 ⟨(Nat.le_of_ble_eq_true rfl), (Nat.le_of_ble_eq_true rfl)⟩ rfl rfl ⟨(Nat.le_of_ble_eq_true rfl), (Nat.le_of_ble_eq_true rfl)⟩ (fun H locs h => ?_)
  refine W.eq (g2 := F0 m 26 ls [.int z3, .int z2]) rfl ?_
  refine lv_icmp_ge (pc := 26) (tgt := 33) hx hb dL_acts_26 (by decide) (fun c9 => ?_) (fun c9 => ?_)
  · have hf := ifT c9 hf
    refine lv_iconst (pc := 33) (v := 0) hx hb dL_acts_33 (by decide) ?_
    exact jl_acts_34 X hE   _ _ _ _ _ _ _ _ _ hf _ _ _ h (lv_sub hl [2, 3, 4, 5, 7, 1, 0] rfl)
  · have hf := ifF c9 hf
    refine lv_iconst (pc := 29) (v := 1) hx hb dL_acts_29 (by decide) ?_
    refine lv_goto (pc := 30) (tgt := 34) hx hb dL_acts_30 (by decide) ?_
    exact jl_acts_34 X hE   _ _ _ _ _ _ _ _ _ hf _ _ _ h (lv_sub hl [2, 3, 4, 5, 7, 1, 0] rfl)
set_option maxRecDepth 100000 in
theorem k_L_acts {q0 : Nat → Nat} {q : Nat → Nat → Nat} {t0 : Nat → Nat} {tq : Nat → Nat → Nat} {ab aw : Nat} {cA : Nat → ClassId} {D : va_G} (d : Dk) (u : Dk) (b : (Nat → Int32)) (w : (Nat → Int32)) (x4 x5 : Int32) {z : Int32 × Dk × Dk × (Nat → Int32) × (Nat → Int32)} (hf : f_L_acts d u b w x4 x5 = some z) : CtE yL_acts (.code yL_acts cL_acts 19 (some .boolean)) rm_L_acts [.ref (q0 0), .ref (t0 0), .ref (ab), .ref (aw), .int x4, .int x5] D cA (aW q0 q cA d t0 tq u ab aw b w) (fun qq : (Nat → Nat → Nat) × (Nat → Nat → Nat) => (aW q0 qq.1 cA z.2.1 t0 qq.2 z.2.2.1 ab aw z.2.2.2.1 z.2.2.2.2)) (.int z.1) 81 772 := by
  refine vxL_of (Qc := fun sz => PostE D (aW q0 q cA d t0 tq u ab aw b w) (fun qq : (Nat → Nat → Nat) × (Nat → Nat → Nat) => (aW q0 qq.1 cA z.2.1 t0 qq.2 z.2.2.1 ab aw z.2.2.2.1 z.2.2.2.2)) sz (.int z.1)) (by decide) (Nat.le_of_ble_eq_true rfl) rfl ?_
  intro p l e s m below meth c ls C hr h hl
  exact jl_acts_0 (Qf := fun z => vx_MQ below (PostE D (aW q0 q cA d t0 tq u ab aw b w) (fun qq : (Nat → Nat → Nat) × (Nat → Nat → Nat) => (aW q0 qq.1 cA z.2.1 t0 qq.2 z.2.2.1 ab aw z.2.2.2.1 z.2.2.2.2)) s.heap.size (.int z.1)) XN _ s 81 772 (va_A (aW q0 q cA d t0 tq u ab aw b w) s.heap.size)) C (fun z q tq pc H locs ls cells slots hbo hd hc hs h => end_zE (q, tq) C.1 hr hbo hc hs h hd) _ _ _ _ _ _ _ hf _ _ _ h (lv_sub hl [0, 1, 2, 3, 4, 5] rfl)
end
