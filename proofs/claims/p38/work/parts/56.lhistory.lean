theorem dL_history_0 : decode cL_history 0 = .ok (.aload_n 0, 1) := by decide +kernel
theorem dL_history_1 : decode cL_history 1 = .ok (.iload_n 3, 1) := by decide +kernel
theorem dL_history_2 : decode cL_history 2 = .ok (.invokestatic 141, 3) := by decide +kernel
theorem dL_history_5 : decode cL_history 5 = .ok (.istore 4, 2) := by decide +kernel
theorem dL_history_7 : decode cL_history 7 = .ok (.iconst 0, 1) := by decide +kernel
theorem dL_history_8 : decode cL_history 8 = .ok (.istore 5, 2) := by decide +kernel
theorem dL_history_10 : decode cL_history 10 = .ok (.aload_n 0, 1) := by decide +kernel
theorem dL_history_11 : decode cL_history 11 = .ok (.iload_n 3, 1) := by decide +kernel
theorem dL_history_12 : decode cL_history 12 = .ok (.invokestatic 148, 3) := by decide +kernel
theorem dL_history_15 : decode cL_history 15 = .ok (.istore 6, 2) := by decide +kernel
theorem dL_history_17 : decode cL_history 17 = .ok (.aload_n 0, 1) := by decide +kernel
theorem dL_history_18 : decode cL_history 18 = .ok (.iload_n 3, 1) := by decide +kernel
theorem dL_history_19 : decode cL_history 19 = .ok (.iconst 0, 1) := by decide +kernel
theorem dL_history_20 : decode cL_history 20 = .ok (.invokestatic 172, 3) := by decide +kernel
theorem dL_history_23 : decode cL_history 23 = .ok (.ifCond .ne 88, 3) := by decide +kernel
theorem dL_history_26 : decode cL_history 26 = .ok (.aload_n 0, 1) := by decide +kernel
theorem dL_history_27 : decode cL_history 27 = .ok (.iload_n 3, 1) := by decide +kernel
theorem dL_history_28 : decode cL_history 28 = .ok (.iconst 0, 1) := by decide +kernel
theorem dL_history_29 : decode cL_history 29 = .ok (.invokestatic 170, 3) := by decide +kernel
theorem dL_history_32 : decode cL_history 32 = .ok (.ifCond .ne 79, 3) := by decide +kernel
theorem dL_history_35 : decode cL_history 35 = .ok (.aload_n 0, 1) := by decide +kernel
theorem dL_history_36 : decode cL_history 36 = .ok (.iload_n 3, 1) := by decide +kernel
theorem dL_history_37 : decode cL_history 37 = .ok (.iconst 0, 1) := by decide +kernel
theorem dL_history_38 : decode cL_history 38 = .ok (.invokestatic 143, 3) := by decide +kernel
theorem dL_history_41 : decode cL_history 41 = .ok (.iconst 1, 1) := by decide +kernel
theorem dL_history_42 : decode cL_history 42 = .ok (.if_icmp .ne 69, 3) := by decide +kernel
theorem dL_history_45 : decode cL_history 45 = .ok (.aload_n 0, 1) := by decide +kernel
theorem dL_history_46 : decode cL_history 46 = .ok (.iload_n 3, 1) := by decide +kernel
theorem dL_history_47 : decode cL_history 47 = .ok (.iload 4, 2) := by decide +kernel
theorem dL_history_49 : decode cL_history 49 = .ok (.iconst 1, 1) := by decide +kernel
theorem dL_history_50 : decode cL_history 50 = .ok (.iadd, 1) := by decide +kernel
theorem dL_history_51 : decode cL_history 51 = .ok (.invokestatic 143, 3) := by decide +kernel
theorem dL_history_54 : decode cL_history 54 = .ok (.ldc 25, 2) := by decide +kernel
theorem dL_history_56 : decode cL_history 56 = .ok (.if_icmp .ne 55, 3) := by decide +kernel
theorem dL_history_59 : decode cL_history 59 = .ok (.aload_n 0, 1) := by decide +kernel
theorem dL_history_60 : decode cL_history 60 = .ok (.iload_n 3, 1) := by decide +kernel
theorem dL_history_61 : decode cL_history 61 = .ok (.iconst (-1), 1) := by decide +kernel
theorem dL_history_62 : decode cL_history 62 = .ok (.invokestatic 143, 3) := by decide +kernel
theorem dL_history_65 : decode cL_history 65 = .ok (.ldc 25, 2) := by decide +kernel
theorem dL_history_67 : decode cL_history 67 = .ok (.if_icmp .ne 44, 3) := by decide +kernel
theorem dL_history_70 : decode cL_history 70 = .ok (.aload_n 0, 1) := by decide +kernel
theorem dL_history_71 : decode cL_history 71 = .ok (.iload_n 3, 1) := by decide +kernel
theorem dL_history_72 : decode cL_history 72 = .ok (.iload 4, 2) := by decide +kernel
theorem dL_history_74 : decode cL_history 74 = .ok (.invokestatic 177, 3) := by decide +kernel
theorem dL_history_77 : decode cL_history 77 = .ok (.ldc 25, 2) := by decide +kernel
theorem dL_history_79 : decode cL_history 79 = .ok (.if_icmp .ne 32, 3) := by decide +kernel
theorem dL_history_82 : decode cL_history 82 = .ok (.aload_n 0, 1) := by decide +kernel
theorem dL_history_83 : decode cL_history 83 = .ok (.iload_n 3, 1) := by decide +kernel
theorem dL_history_84 : decode cL_history 84 = .ok (.iload 4, 2) := by decide +kernel
theorem dL_history_86 : decode cL_history 86 = .ok (.iconst 1, 1) := by decide +kernel
theorem dL_history_87 : decode cL_history 87 = .ok (.iadd, 1) := by decide +kernel
theorem dL_history_88 : decode cL_history 88 = .ok (.invokestatic 172, 3) := by decide +kernel
theorem dL_history_91 : decode cL_history 91 = .ok (.ldc 25, 2) := by decide +kernel
theorem dL_history_93 : decode cL_history 93 = .ok (.if_icmp .ne 18, 3) := by decide +kernel
theorem dL_history_96 : decode cL_history 96 = .ok (.aload_n 0, 1) := by decide +kernel
theorem dL_history_97 : decode cL_history 97 = .ok (.iload_n 3, 1) := by decide +kernel
theorem dL_history_98 : decode cL_history 98 = .ok (.iconst (-1), 1) := by decide +kernel
theorem dL_history_99 : decode cL_history 99 = .ok (.invokestatic 170, 3) := by decide +kernel
theorem dL_history_102 : decode cL_history 102 = .ok (.ldc 25, 2) := by decide +kernel
theorem dL_history_104 : decode cL_history 104 = .ok (.if_icmp .ne 7, 3) := by decide +kernel
theorem dL_history_107 : decode cL_history 107 = .ok (.iconst 1, 1) := by decide +kernel
theorem dL_history_108 : decode cL_history 108 = .ok (.goto 4, 3) := by decide +kernel
theorem dL_history_111 : decode cL_history 111 = .ok (.iconst 0, 1) := by decide +kernel
theorem dL_history_112 : decode cL_history 112 = .ok (.istore 7, 2) := by decide +kernel
theorem dL_history_114 : decode cL_history 114 = .ok (.iconst 0, 1) := by decide +kernel
theorem dL_history_115 : decode cL_history 115 = .ok (.istore 8, 2) := by decide +kernel
theorem dL_history_117 : decode cL_history 117 = .ok (.iload 8, 2) := by decide +kernel
theorem dL_history_119 : decode cL_history 119 = .ok (.iload 4, 2) := by decide +kernel
theorem dL_history_121 : decode cL_history 121 = .ok (.if_icmp .ge 534, 3) := by decide +kernel
theorem dL_history_124 : decode cL_history 124 = .ok (.iload 7, 2) := by decide +kernel
theorem dL_history_126 : decode cL_history 126 = .ok (.ifCond .eq 529, 3) := by decide +kernel
theorem dL_history_129 : decode cL_history 129 = .ok (.aload_n 0, 1) := by decide +kernel
theorem dL_history_130 : decode cL_history 130 = .ok (.iload_n 3, 1) := by decide +kernel
theorem dL_history_131 : decode cL_history 131 = .ok (.iload 8, 2) := by decide +kernel
theorem dL_history_133 : decode cL_history 133 = .ok (.invokestatic 177, 3) := by decide +kernel
theorem dL_history_136 : decode cL_history 136 = .ok (.istore 9, 2) := by decide +kernel
theorem dL_history_138 : decode cL_history 138 = .ok (.aload_n 0, 1) := by decide +kernel
theorem dL_history_139 : decode cL_history 139 = .ok (.iload_n 3, 1) := by decide +kernel
theorem dL_history_140 : decode cL_history 140 = .ok (.iload 8, 2) := by decide +kernel
theorem dL_history_142 : decode cL_history 142 = .ok (.invokestatic 179, 3) := by decide +kernel
theorem dL_history_145 : decode cL_history 145 = .ok (.istore 10, 2) := by decide +kernel
theorem dL_history_147 : decode cL_history 147 = .ok (.aload_n 0, 1) := by decide +kernel
theorem dL_history_148 : decode cL_history 148 = .ok (.iload_n 3, 1) := by decide +kernel
theorem dL_history_149 : decode cL_history 149 = .ok (.iload 8, 2) := by decide +kernel
theorem dL_history_151 : decode cL_history 151 = .ok (.invokestatic 181, 3) := by decide +kernel
theorem dL_history_154 : decode cL_history 154 = .ok (.istore 11, 2) := by decide +kernel
theorem dL_history_156 : decode cL_history 156 = .ok (.aload_n 0, 1) := by decide +kernel
theorem dL_history_157 : decode cL_history 157 = .ok (.iload_n 3, 1) := by decide +kernel
theorem dL_history_158 : decode cL_history 158 = .ok (.iload 8, 2) := by decide +kernel
theorem dL_history_160 : decode cL_history 160 = .ok (.iconst 1, 1) := by decide +kernel
theorem dL_history_161 : decode cL_history 161 = .ok (.iadd, 1) := by decide +kernel
theorem dL_history_162 : decode cL_history 162 = .ok (.invokestatic 143, 3) := by decide +kernel
theorem dL_history_165 : decode cL_history 165 = .ok (.bipush 31, 2) := by decide +kernel
theorem dL_history_167 : decode cL_history 167 = .ok (.aload_n 0, 1) := by decide +kernel
theorem dL_history_168 : decode cL_history 168 = .ok (.iload_n 3, 1) := by decide +kernel
theorem dL_history_169 : decode cL_history 169 = .ok (.iload 8, 2) := by decide +kernel
theorem dL_history_171 : decode cL_history 171 = .ok (.invokestatic 143, 3) := by decide +kernel
theorem dL_history_174 : decode cL_history 174 = .ok (.imul, 1) := by decide +kernel
theorem dL_history_175 : decode cL_history 175 = .ok (.bipush 7, 2) := by decide +kernel
theorem dL_history_177 : decode cL_history 177 = .ok (.iload 9, 2) := by decide +kernel
theorem dL_history_179 : decode cL_history 179 = .ok (.imul, 1) := by decide +kernel
theorem dL_history_180 : decode cL_history 180 = .ok (.iadd, 1) := by decide +kernel
theorem dL_history_181 : decode cL_history 181 = .ok (.bipush 11, 2) := by decide +kernel
theorem dL_history_183 : decode cL_history 183 = .ok (.iload 10, 2) := by decide +kernel
theorem dL_history_185 : decode cL_history 185 = .ok (.iconst 1, 1) := by decide +kernel
theorem dL_history_186 : decode cL_history 186 = .ok (.iadd, 1) := by decide +kernel
theorem dL_history_187 : decode cL_history 187 = .ok (.imul, 1) := by decide +kernel
theorem dL_history_188 : decode cL_history 188 = .ok (.iadd, 1) := by decide +kernel
theorem dL_history_189 : decode cL_history 189 = .ok (.bipush 17, 2) := by decide +kernel
theorem dL_history_191 : decode cL_history 191 = .ok (.iload 11, 2) := by decide +kernel
theorem dL_history_193 : decode cL_history 193 = .ok (.imul, 1) := by decide +kernel
theorem dL_history_194 : decode cL_history 194 = .ok (.iadd, 1) := by decide +kernel
theorem dL_history_195 : decode cL_history 195 = .ok (.ldc 183, 2) := by decide +kernel
theorem dL_history_197 : decode cL_history 197 = .ok (.irem, 1) := by decide +kernel
theorem dL_history_198 : decode cL_history 198 = .ok (.isub, 1) := by decide +kernel
theorem dL_history_199 : decode cL_history 199 = .ok (.istore 12, 2) := by decide +kernel
theorem dL_history_201 : decode cL_history 201 = .ok (.iload 12, 2) := by decide +kernel
theorem dL_history_203 : decode cL_history 203 = .ok (.ifCond .ge 11, 3) := by decide +kernel
theorem dL_history_206 : decode cL_history 206 = .ok (.iload 12, 2) := by decide +kernel
theorem dL_history_208 : decode cL_history 208 = .ok (.ldc 183, 2) := by decide +kernel
theorem dL_history_210 : decode cL_history 210 = .ok (.iadd, 1) := by decide +kernel
theorem dL_history_211 : decode cL_history 211 = .ok (.goto 5, 3) := by decide +kernel
theorem dL_history_214 : decode cL_history 214 = .ok (.iload 12, 2) := by decide +kernel
theorem dL_history_216 : decode cL_history 216 = .ok (.istore 12, 2) := by decide +kernel
theorem dL_history_218 : decode cL_history 218 = .ok (.iload 12, 2) := by decide +kernel
theorem dL_history_220 : decode cL_history 220 = .ok (.bipush 13, 2) := by decide +kernel
theorem dL_history_222 : decode cL_history 222 = .ok (.idiv, 1) := by decide +kernel
theorem dL_history_223 : decode cL_history 223 = .ok (.iconst 1, 1) := by decide +kernel
theorem dL_history_224 : decode cL_history 224 = .ok (.isub, 1) := by decide +kernel
theorem dL_history_225 : decode cL_history 225 = .ok (.istore 13, 2) := by decide +kernel
theorem dL_history_227 : decode cL_history 227 = .ok (.aload_n 0, 1) := by decide +kernel
theorem dL_history_228 : decode cL_history 228 = .ok (.iload_n 3, 1) := by decide +kernel
theorem dL_history_229 : decode cL_history 229 = .ok (.iload 8, 2) := by decide +kernel
theorem dL_history_231 : decode cL_history 231 = .ok (.invokestatic 170, 3) := by decide +kernel
theorem dL_history_234 : decode cL_history 234 = .ok (.istore 14, 2) := by decide +kernel
theorem dL_history_236 : decode cL_history 236 = .ok (.aload_n 0, 1) := by decide +kernel
theorem dL_history_237 : decode cL_history 237 = .ok (.iload_n 3, 1) := by decide +kernel
theorem dL_history_238 : decode cL_history 238 = .ok (.iload 8, 2) := by decide +kernel
theorem dL_history_240 : decode cL_history 240 = .ok (.iconst 1, 1) := by decide +kernel
theorem dL_history_241 : decode cL_history 241 = .ok (.iadd, 1) := by decide +kernel
theorem dL_history_242 : decode cL_history 242 = .ok (.invokestatic 170, 3) := by decide +kernel
theorem dL_history_245 : decode cL_history 245 = .ok (.istore 15, 2) := by decide +kernel
theorem dL_history_247 : decode cL_history 247 = .ok (.iload 9, 2) := by decide +kernel
theorem dL_history_249 : decode cL_history 249 = .ok (.ifCond .eq 16, 3) := by decide +kernel
theorem dL_history_252 : decode cL_history 252 = .ok (.iload 9, 2) := by decide +kernel
theorem dL_history_254 : decode cL_history 254 = .ok (.iconst 3, 1) := by decide +kernel
theorem dL_history_255 : decode cL_history 255 = .ok (.if_icmp .le 14, 3) := by decide +kernel
theorem dL_history_258 : decode cL_history 258 = .ok (.iload 9, 2) := by decide +kernel
theorem dL_history_260 : decode cL_history 260 = .ok (.bipush 6, 2) := by decide +kernel
theorem dL_history_262 : decode cL_history 262 = .ok (.if_icmp .ge 7, 3) := by decide +kernel
theorem dL_history_265 : decode cL_history 265 = .ok (.iconst 1, 1) := by decide +kernel
theorem dL_history_266 : decode cL_history 266 = .ok (.goto 4, 3) := by decide +kernel
theorem dL_history_269 : decode cL_history 269 = .ok (.iconst 0, 1) := by decide +kernel
theorem dL_history_270 : decode cL_history 270 = .ok (.istore 16, 2) := by decide +kernel
theorem dL_history_272 : decode cL_history 272 = .ok (.iload 12, 2) := by decide +kernel
theorem dL_history_274 : decode cL_history 274 = .ok (.bipush 13, 2) := by decide +kernel
theorem dL_history_276 : decode cL_history 276 = .ok (.irem, 1) := by decide +kernel
theorem dL_history_277 : decode cL_history 277 = .ok (.ifCond .ne 106, 3) := by decide +kernel
theorem dL_history_280 : decode cL_history 280 = .ok (.iload 13, 2) := by decide +kernel
theorem dL_history_282 : decode cL_history 282 = .ok (.iload 6, 2) := by decide +kernel
theorem dL_history_284 : decode cL_history 284 = .ok (.if_icmp .ge 99, 3) := by decide +kernel
theorem dL_history_287 : decode cL_history 287 = .ok (.iload 16, 2) := by decide +kernel
theorem dL_history_289 : decode cL_history 289 = .ok (.ifCond .eq 18, 3) := by decide +kernel
theorem dL_history_292 : decode cL_history 292 = .ok (.iload 13, 2) := by decide +kernel
theorem dL_history_294 : decode cL_history 294 = .ok (.iconst (-1), 1) := by decide +kernel
theorem dL_history_295 : decode cL_history 295 = .ok (.if_icmp .ne 88, 3) := by decide +kernel
theorem dL_history_298 : decode cL_history 298 = .ok (.iload 10, 2) := by decide +kernel
theorem dL_history_300 : decode cL_history 300 = .ok (.iconst (-1), 1) := by decide +kernel
theorem dL_history_301 : decode cL_history 301 = .ok (.if_icmp .ne 82, 3) := by decide +kernel
theorem dL_history_304 : decode cL_history 304 = .ok (.goto 13, 3) := by decide +kernel
theorem dL_history_307 : decode cL_history 307 = .ok (.iload 13, 2) := by decide +kernel
theorem dL_history_309 : decode cL_history 309 = .ok (.ifCond .lt 74, 3) := by decide +kernel
theorem dL_history_312 : decode cL_history 312 = .ok (.iload 10, 2) := by decide +kernel
theorem dL_history_314 : decode cL_history 314 = .ok (.ifCond .lt 69, 3) := by decide +kernel
theorem dL_history_317 : decode cL_history 317 = .ok (.iload 8, 2) := by decide +kernel
theorem dL_history_319 : decode cL_history 319 = .ok (.ifCond .ne 7, 3) := by decide +kernel
theorem dL_history_322 : decode cL_history 322 = .ok (.iconst 1, 1) := by decide +kernel
theorem dL_history_323 : decode cL_history 323 = .ok (.goto 4, 3) := by decide +kernel
theorem dL_history_326 : decode cL_history 326 = .ok (.iconst 0, 1) := by decide +kernel
theorem dL_history_327 : decode cL_history 327 = .ok (.iload 9, 2) := by decide +kernel
theorem dL_history_329 : decode cL_history 329 = .ok (.ifCond .ne 7, 3) := by decide +kernel
theorem dL_history_332 : decode cL_history 332 = .ok (.iconst 1, 1) := by decide +kernel
theorem dL_history_333 : decode cL_history 333 = .ok (.goto 4, 3) := by decide +kernel
theorem dL_history_336 : decode cL_history 336 = .ok (.iconst 0, 1) := by decide +kernel
theorem dL_history_337 : decode cL_history 337 = .ok (.if_icmp .ne 46, 3) := by decide +kernel
theorem dL_history_340 : decode cL_history 340 = .ok (.iload 8, 2) := by decide +kernel
theorem dL_history_342 : decode cL_history 342 = .ok (.ifCond .eq 28, 3) := by decide +kernel
theorem dL_history_345 : decode cL_history 345 = .ok (.aload_n 0, 1) := by decide +kernel
theorem dL_history_346 : decode cL_history 346 = .ok (.iload_n 3, 1) := by decide +kernel
theorem dL_history_347 : decode cL_history 347 = .ok (.iload 8, 2) := by decide +kernel
theorem dL_history_349 : decode cL_history 349 = .ok (.invokestatic 172, 3) := by decide +kernel
theorem dL_history_352 : decode cL_history 352 = .ok (.iconst 1, 1) := by decide +kernel
theorem dL_history_353 : decode cL_history 353 = .ok (.if_icmp .ne 30, 3) := by decide +kernel
theorem dL_history_356 : decode cL_history 356 = .ok (.aload_n 0, 1) := by decide +kernel
theorem dL_history_357 : decode cL_history 357 = .ok (.iload_n 3, 1) := by decide +kernel
theorem dL_history_358 : decode cL_history 358 = .ok (.iload 8, 2) := by decide +kernel
theorem dL_history_360 : decode cL_history 360 = .ok (.iconst 1, 1) := by decide +kernel
theorem dL_history_361 : decode cL_history 361 = .ok (.isub, 1) := by decide +kernel
theorem dL_history_362 : decode cL_history 362 = .ok (.invokestatic 181, 3) := by decide +kernel
theorem dL_history_365 : decode cL_history 365 = .ok (.iload 11, 2) := by decide +kernel
theorem dL_history_367 : decode cL_history 367 = .ok (.if_icmp .gt 16, 3) := by decide +kernel
theorem dL_history_370 : decode cL_history 370 = .ok (.iload 11, 2) := by decide +kernel
theorem dL_history_372 : decode cL_history 372 = .ok (.aload_n 0, 1) := by decide +kernel
theorem dL_history_373 : decode cL_history 373 = .ok (.invokevirtual 130, 3) := by decide +kernel
theorem dL_history_376 : decode cL_history 376 = .ok (.if_icmp .gt 7, 3) := by decide +kernel
theorem dL_history_379 : decode cL_history 379 = .ok (.iconst 1, 1) := by decide +kernel
theorem dL_history_380 : decode cL_history 380 = .ok (.goto 4, 3) := by decide +kernel
theorem dL_history_383 : decode cL_history 383 = .ok (.iconst 0, 1) := by decide +kernel
theorem dL_history_384 : decode cL_history 384 = .ok (.istore 7, 2) := by decide +kernel
theorem dL_history_386 : decode cL_history 386 = .ok (.iload 7, 2) := by decide +kernel
theorem dL_history_388 : decode cL_history 388 = .ok (.ifCond .eq 63, 3) := by decide +kernel
theorem dL_history_391 : decode cL_history 391 = .ok (.iload 16, 2) := by decide +kernel
theorem dL_history_393 : decode cL_history 393 = .ok (.ifCond .ne 58, 3) := by decide +kernel
theorem dL_history_396 : decode cL_history 396 = .ok (.iload 14, 2) := by decide +kernel
theorem dL_history_398 : decode cL_history 398 = .ok (.iload 13, 2) := by decide +kernel
theorem dL_history_400 : decode cL_history 400 = .ok (.ishr, 1) := by decide +kernel
theorem dL_history_401 : decode cL_history 401 = .ok (.iconst 1, 1) := by decide +kernel
theorem dL_history_402 : decode cL_history 402 = .ok (.iand, 1) := by decide +kernel
theorem dL_history_403 : decode cL_history 403 = .ok (.iconst 1, 1) := by decide +kernel
theorem dL_history_404 : decode cL_history 404 = .ok (.if_icmp .ne 44, 3) := by decide +kernel
theorem dL_history_407 : decode cL_history 407 = .ok (.iload 9, 2) := by decide +kernel
theorem dL_history_409 : decode cL_history 409 = .ok (.iconst 2, 1) := by decide +kernel
theorem dL_history_410 : decode cL_history 410 = .ok (.if_icmp .ne 20, 3) := by decide +kernel
theorem dL_history_413 : decode cL_history 413 = .ok (.iload 10, 2) := by decide +kernel
theorem dL_history_415 : decode cL_history 415 = .ok (.aload_n 2, 1) := by decide +kernel
theorem dL_history_416 : decode cL_history 416 = .ok (.bipush 8, 2) := by decide +kernel
theorem dL_history_418 : decode cL_history 418 = .ok (.iload_n 3, 1) := by decide +kernel
theorem dL_history_419 : decode cL_history 419 = .ok (.imul, 1) := by decide +kernel
theorem dL_history_420 : decode cL_history 420 = .ok (.iload 13, 2) := by decide +kernel
theorem dL_history_422 : decode cL_history 422 = .ok (.iadd, 1) := by decide +kernel
theorem dL_history_423 : decode cL_history 423 = .ok (.iaload, 1) := by decide +kernel
theorem dL_history_424 : decode cL_history 424 = .ok (.if_icmp .eq 24, 3) := by decide +kernel
theorem dL_history_427 : decode cL_history 427 = .ok (.goto 17, 3) := by decide +kernel
theorem dL_history_430 : decode cL_history 430 = .ok (.iload 10, 2) := by decide +kernel
theorem dL_history_432 : decode cL_history 432 = .ok (.aload_n 2, 1) := by decide +kernel
theorem dL_history_433 : decode cL_history 433 = .ok (.bipush 8, 2) := by decide +kernel
theorem dL_history_435 : decode cL_history 435 = .ok (.iload_n 3, 1) := by decide +kernel
theorem dL_history_436 : decode cL_history 436 = .ok (.imul, 1) := by decide +kernel
theorem dL_history_437 : decode cL_history 437 = .ok (.iload 13, 2) := by decide +kernel
theorem dL_history_439 : decode cL_history 439 = .ok (.iadd, 1) := by decide +kernel
theorem dL_history_440 : decode cL_history 440 = .ok (.iaload, 1) := by decide +kernel
theorem dL_history_441 : decode cL_history 441 = .ok (.if_icmp .ne 7, 3) := by decide +kernel
theorem dL_history_444 : decode cL_history 444 = .ok (.iconst 1, 1) := by decide +kernel
theorem dL_history_445 : decode cL_history 445 = .ok (.goto 4, 3) := by decide +kernel
theorem dL_history_448 : decode cL_history 448 = .ok (.iconst 0, 1) := by decide +kernel
theorem dL_history_449 : decode cL_history 449 = .ok (.istore 7, 2) := by decide +kernel
theorem dL_history_451 : decode cL_history 451 = .ok (.iload 5, 2) := by decide +kernel
theorem dL_history_453 : decode cL_history 453 = .ok (.iload 7, 2) := by decide +kernel
theorem dL_history_455 : decode cL_history 455 = .ok (.ifCond .eq 22, 3) := by decide +kernel
theorem dL_history_458 : decode cL_history 458 = .ok (.iload 9, 2) := by decide +kernel
theorem dL_history_460 : decode cL_history 460 = .ok (.iconst 1, 1) := by decide +kernel
theorem dL_history_461 : decode cL_history 461 = .ok (.if_icmp .eq 9, 3) := by decide +kernel
theorem dL_history_464 : decode cL_history 464 = .ok (.iload 9, 2) := by decide +kernel
theorem dL_history_466 : decode cL_history 466 = .ok (.iconst 2, 1) := by decide +kernel
theorem dL_history_467 : decode cL_history 467 = .ok (.if_icmp .ne 10, 3) := by decide +kernel
theorem dL_history_470 : decode cL_history 470 = .ok (.iconst 1, 1) := by decide +kernel
theorem dL_history_471 : decode cL_history 471 = .ok (.iload 13, 2) := by decide +kernel
theorem dL_history_473 : decode cL_history 473 = .ok (.ishl, 1) := by decide +kernel
theorem dL_history_474 : decode cL_history 474 = .ok (.goto 4, 3) := by decide +kernel
theorem dL_history_477 : decode cL_history 477 = .ok (.iconst 0, 1) := by decide +kernel
theorem dL_history_478 : decode cL_history 478 = .ok (.ior, 1) := by decide +kernel
theorem dL_history_479 : decode cL_history 479 = .ok (.istore 5, 2) := by decide +kernel
theorem dL_history_481 : decode cL_history 481 = .ok (.iconst 0, 1) := by decide +kernel
theorem dL_history_482 : decode cL_history 482 = .ok (.istore 17, 2) := by decide +kernel
theorem dL_history_484 : decode cL_history 484 = .ok (.iconst 0, 1) := by decide +kernel
theorem dL_history_485 : decode cL_history 485 = .ok (.istore 18, 2) := by decide +kernel
theorem dL_history_487 : decode cL_history 487 = .ok (.iload 18, 2) := by decide +kernel
theorem dL_history_489 : decode cL_history 489 = .ok (.iload 6, 2) := by decide +kernel
theorem dL_history_491 : decode cL_history 491 = .ok (.if_icmp .ge 49, 3) := by decide +kernel
theorem dL_history_494 : decode cL_history 494 = .ok (.iload 17, 2) := by decide +kernel
theorem dL_history_496 : decode cL_history 496 = .ok (.iload 5, 2) := by decide +kernel
theorem dL_history_498 : decode cL_history 498 = .ok (.iload 18, 2) := by decide +kernel
theorem dL_history_500 : decode cL_history 500 = .ok (.ishr, 1) := by decide +kernel
theorem dL_history_501 : decode cL_history 501 = .ok (.iconst 1, 1) := by decide +kernel
theorem dL_history_502 : decode cL_history 502 = .ok (.iand, 1) := by decide +kernel
theorem dL_history_503 : decode cL_history 503 = .ok (.ifCond .ne 27, 3) := by decide +kernel
theorem dL_history_506 : decode cL_history 506 = .ok (.aload_n 1, 1) := by decide +kernel
theorem dL_history_507 : decode cL_history 507 = .ok (.bipush 8, 2) := by decide +kernel
theorem dL_history_509 : decode cL_history 509 = .ok (.iload_n 3, 1) := by decide +kernel
theorem dL_history_510 : decode cL_history 510 = .ok (.imul, 1) := by decide +kernel
theorem dL_history_511 : decode cL_history 511 = .ok (.iload 18, 2) := by decide +kernel
theorem dL_history_513 : decode cL_history 513 = .ok (.iadd, 1) := by decide +kernel
theorem dL_history_514 : decode cL_history 514 = .ok (.iaload, 1) := by decide +kernel
theorem dL_history_515 : decode cL_history 515 = .ok (.iload 5, 2) := by decide +kernel
theorem dL_history_517 : decode cL_history 517 = .ok (.iconst (-1), 1) := by decide +kernel
theorem dL_history_518 : decode cL_history 518 = .ok (.ixor, 1) := by decide +kernel
theorem dL_history_519 : decode cL_history 519 = .ok (.iand, 1) := by decide +kernel
theorem dL_history_520 : decode cL_history 520 = .ok (.ifCond .ne 10, 3) := by decide +kernel
theorem dL_history_523 : decode cL_history 523 = .ok (.iconst 1, 1) := by decide +kernel
theorem dL_history_524 : decode cL_history 524 = .ok (.iload 18, 2) := by decide +kernel
theorem dL_history_526 : decode cL_history 526 = .ok (.ishl, 1) := by decide +kernel
theorem dL_history_527 : decode cL_history 527 = .ok (.goto 4, 3) := by decide +kernel
theorem dL_history_530 : decode cL_history 530 = .ok (.iconst 0, 1) := by decide +kernel
theorem dL_history_531 : decode cL_history 531 = .ok (.ior, 1) := by decide +kernel
theorem dL_history_532 : decode cL_history 532 = .ok (.istore 17, 2) := by decide +kernel
theorem dL_history_534 : decode cL_history 534 = .ok (.iinc 18 1, 3) := by decide +kernel
theorem dL_history_537 : decode cL_history 537 = .ok (.goto (-50), 3) := by decide +kernel
theorem dL_history_540 : decode cL_history 540 = .ok (.iload 9, 2) := by decide +kernel
theorem dL_history_542 : decode cL_history 542 = .ok (.iconst 2, 1) := by decide +kernel
theorem dL_history_543 : decode cL_history 543 = .ok (.if_icmp .le 14, 3) := by decide +kernel
theorem dL_history_546 : decode cL_history 546 = .ok (.iload 9, 2) := by decide +kernel
theorem dL_history_548 : decode cL_history 548 = .ok (.bipush 6, 2) := by decide +kernel
theorem dL_history_550 : decode cL_history 550 = .ok (.if_icmp .ge 7, 3) := by decide +kernel
theorem dL_history_553 : decode cL_history 553 = .ok (.iconst 1, 1) := by decide +kernel
theorem dL_history_554 : decode cL_history 554 = .ok (.goto 4, 3) := by decide +kernel
theorem dL_history_557 : decode cL_history 557 = .ok (.iconst 0, 1) := by decide +kernel
theorem dL_history_558 : decode cL_history 558 = .ok (.istore 18, 2) := by decide +kernel
theorem dL_history_560 : decode cL_history 560 = .ok (.iload 9, 2) := by decide +kernel
theorem dL_history_562 : decode cL_history 562 = .ok (.iconst 3, 1) := by decide +kernel
theorem dL_history_563 : decode cL_history 563 = .ok (.if_icmp .ne 7, 3) := by decide +kernel
theorem dL_history_566 : decode cL_history 566 = .ok (.iconst 3, 1) := by decide +kernel
theorem dL_history_567 : decode cL_history 567 = .ok (.goto 38, 3) := by decide +kernel
theorem dL_history_570 : decode cL_history 570 = .ok (.iload 9, 2) := by decide +kernel
theorem dL_history_572 : decode cL_history 572 = .ok (.iconst 4, 1) := by decide +kernel
theorem dL_history_573 : decode cL_history 573 = .ok (.if_icmp .ne 7, 3) := by decide +kernel
theorem dL_history_576 : decode cL_history 576 = .ok (.iconst 4, 1) := by decide +kernel
theorem dL_history_577 : decode cL_history 577 = .ok (.goto 28, 3) := by decide +kernel
theorem dL_history_580 : decode cL_history 580 = .ok (.iload 9, 2) := by decide +kernel
theorem dL_history_582 : decode cL_history 582 = .ok (.iconst 5, 1) := by decide +kernel
theorem dL_history_583 : decode cL_history 583 = .ok (.if_icmp .ne 7, 3) := by decide +kernel
theorem dL_history_586 : decode cL_history 586 = .ok (.iconst 5, 1) := by decide +kernel
theorem dL_history_587 : decode cL_history 587 = .ok (.goto 18, 3) := by decide +kernel
theorem dL_history_590 : decode cL_history 590 = .ok (.iload 5, 2) := by decide +kernel
theorem dL_history_592 : decode cL_history 592 = .ok (.invokestatic 160, 3) := by decide +kernel
theorem dL_history_595 : decode cL_history 595 = .ok (.iload 6, 2) := by decide +kernel
theorem dL_history_597 : decode cL_history 597 = .ok (.if_icmp .ne 7, 3) := by decide +kernel
theorem dL_history_600 : decode cL_history 600 = .ok (.iconst 2, 1) := by decide +kernel
theorem dL_history_601 : decode cL_history 601 = .ok (.goto 4, 3) := by decide +kernel
theorem dL_history_604 : decode cL_history 604 = .ok (.iconst 1, 1) := by decide +kernel
theorem dL_history_605 : decode cL_history 605 = .ok (.istore 19, 2) := by decide +kernel
theorem dL_history_607 : decode cL_history 607 = .ok (.iload 7, 2) := by decide +kernel
theorem dL_history_609 : decode cL_history 609 = .ok (.ifCond .eq 37, 3) := by decide +kernel
theorem dL_history_612 : decode cL_history 612 = .ok (.iload 15, 2) := by decide +kernel
theorem dL_history_614 : decode cL_history 614 = .ok (.iload 18, 2) := by decide +kernel
theorem dL_history_616 : decode cL_history 616 = .ok (.ifCond .eq 7, 3) := by decide +kernel
theorem dL_history_619 : decode cL_history 619 = .ok (.iconst 0, 1) := by decide +kernel
theorem dL_history_620 : decode cL_history 620 = .ok (.goto 5, 3) := by decide +kernel
theorem dL_history_623 : decode cL_history 623 = .ok (.iload 17, 2) := by decide +kernel
theorem dL_history_625 : decode cL_history 625 = .ok (.if_icmp .ne 21, 3) := by decide +kernel
theorem dL_history_628 : decode cL_history 628 = .ok (.aload_n 0, 1) := by decide +kernel
theorem dL_history_629 : decode cL_history 629 = .ok (.iload_n 3, 1) := by decide +kernel
theorem dL_history_630 : decode cL_history 630 = .ok (.iload 8, 2) := by decide +kernel
theorem dL_history_632 : decode cL_history 632 = .ok (.iconst 1, 1) := by decide +kernel
theorem dL_history_633 : decode cL_history 633 = .ok (.iadd, 1) := by decide +kernel
theorem dL_history_634 : decode cL_history 634 = .ok (.invokestatic 172, 3) := by decide +kernel
theorem dL_history_637 : decode cL_history 637 = .ok (.iload 19, 2) := by decide +kernel
theorem dL_history_639 : decode cL_history 639 = .ok (.if_icmp .ne 7, 3) := by decide +kernel
theorem dL_history_642 : decode cL_history 642 = .ok (.iconst 1, 1) := by decide +kernel
theorem dL_history_643 : decode cL_history 643 = .ok (.goto 4, 3) := by decide +kernel
theorem dL_history_646 : decode cL_history 646 = .ok (.iconst 0, 1) := by decide +kernel
theorem dL_history_647 : decode cL_history 647 = .ok (.istore 7, 2) := by decide +kernel
theorem dL_history_649 : decode cL_history 649 = .ok (.iinc 8 1, 3) := by decide +kernel
theorem dL_history_652 : decode cL_history 652 = .ok (.goto (-535), 3) := by decide +kernel
theorem dL_history_655 : decode cL_history 655 = .ok (.iload 7, 2) := by decide +kernel
theorem dL_history_657 : decode cL_history 657 = .ok (.ireturn, 1) := by decide +kernel
section
variable {p : Program} {l : Launch} {e : Env} {s : State} {m : MethodId} {args : Array Value} {below : List Frame} {meth : Method} {c : Code} {D : va_G} {cA : Nat → ClassId} {A : Nat → Prop} {q0 t0 : Nat → Nat} {q tq : Nat → Nat → Nat} {ab aw : Nat}
variable {Qf : Int32 → State → Prop}
abbrev rm_L_history : Room := { frames := 9, cells := 5, slots := 30, locals := 150 }
def f_L_history_625 (d : Dk) (b : (Nat → Int32)) (w : (Nat → Int32)) (r117 : Int32 → Int32 → Int32 → Int32 → Int32 → Int32 → Option (Int32)) (x3 : Int32) (x4 : Int32) (x5 : Int32) (x6 : Int32) (x8 : Int32) (x19 : Int32) (s0 : Int32) (s1 : Int32) : Option (Int32) := (if s1 = s0 then ((gn_stateBehind d x3 (x8 + (1 : Int32))).bind fun z1 => (if z1 = x19 then (r117 x3 x4 x5 x6 (1 : Int32) (x8 + (1 : Int32))) else (r117 x3 x4 x5 x6 (0 : Int32) (x8 + (1 : Int32))))) else (r117 x3 x4 x5 x6 (0 : Int32) (x8 + (1 : Int32))))
set_option maxHeartbeats 1000000 in
set_option maxRecDepth 100000 in
theorem jl_history_625  {d : Dk} {b : (Nat → Int32)} {w : (Nat → Int32)} (X : LCx p l s m args meth c cL_history 20 D cA A) (hE : ∀ (z : Int32) (pc : Nat) (H : Heap) (locs : List Loc) (ls : Array Slot) (cells slots : Nat), (z = 0 ∨ z = 1) → decode cL_history pc = .ok (.ireturn, 1) → cells ≤ 5 → slots ≤ 30 → St D A s.heap (kbW q0 q cA d ab aw b w) H locs → W p l e rm_L_history s m args below meth c H locs cells slots (Qf z) (F0 m pc ls [.int z])) (r117 : Int32 → Int32 → Int32 → Int32 → Int32 → Int32 → Option (Int32)) (hr117 : ∀ (x3 : Int32) (x4 : Int32) (x5 : Int32) (x6 : Int32) (x7 : Int32) (x8 : Int32) (z : Int32), r117 x3 x4 x5 x6 x7 x8 = some z → ∀ (H : Heap) (locs : List Loc) (ls : Array Slot), St D A s.heap (kbW q0 q cA d ab aw b w) H locs → lv_has ls 20 [(0, .ref (q0 0)), (1, .ref (ab)), (2, .ref (aw)), (3, .int x3), (4, .int x4), (5, .int x5), (6, .int x6), (7, .int x7), (8, .int x8)] → W p l e rm_L_history s m args below meth c H locs 5 30 (Qf z) (F0 m 117 ls [])) (x3 : Int32) (x4 : Int32) (x5 : Int32) (x6 : Int32) (x8 : Int32) (x19 : Int32) (s0 : Int32) (s1 : Int32) (z : Int32) (hf : f_L_history_625 d b w r117 x3 x4 x5 x6 x8 x19 s0 s1 = some z) (H : Heap) (locs : List Loc) (ls : Array Slot) (h : St D A s.heap (kbW q0 q cA d ab aw b w) H locs) (hl : lv_has ls 20 [(0, .ref (q0 0)), (1, .ref (ab)), (2, .ref (aw)), (3, .int x3), (4, .int x4), (5, .int x5), (6, .int x6), (8, .int x8), (19, .int x19)]) : W p l e rm_L_history s m args below meth c H locs 5 30 (Qf z) (F0 m 625 ls [.int s0, .int s1]) := by
  obtain ⟨C, hl0, hXA, hN⟩ := id X
  obtain ⟨hx, hb, hml, hown, hts, hK, hlk⟩ := id C
  rw [f_L_history_625] at hf
  refine lv_icmp_ne (pc := 625) (tgt := 646) hx hb dL_history_625 (by decide) (fun c9 => ?_) (fun c9 => ?_)
  · have hf := ifF c9 hf
    refine lv_iconst (pc := 646) (v := 0) hx hb dL_history_646 (by decide) ?_
    refine lv_istore (pc := 647) (lv' := [(7, .int (0 : Int32)), (0, .ref (q0 0)), (1, .ref (ab)), (2, .ref (aw)), (3, .int x3), (4, .int x4), (5, .int x5), (6, .int x6), (8, .int x8), (19, .int x19)]) hx hb dL_history_647 hl (by decide) rfl (fun ls hl => ?_)
    refine lv_iinc (pc := 649) (v := (x8 + (1 : Int32))) (lv' := [(8, .int (x8 + (1 : Int32))), (7, .int (0 : Int32)), (0, .ref (q0 0)), (1, .ref (ab)), (2, .ref (aw)), (3, .int x3), (4, .int x4), (5, .int x5), (6, .int x6), (19, .int x19)]) hx hb dL_history_649 hl (k := 8) rfl rfl (by decide) rfl (fun ls hl => ?_)
    refine lv_goto (pc := 652) (tgt := 117) hx hb dL_history_652 (by decide) ?_
    exact hr117 _ _ _ _ _ _ _ hf _ _ _ h (lv_sub hl [2, 3, 4, 5, 6, 7, 8, 1, 0] rfl)
  · have hf := ifT c9 hf
    refine lv_aload_n (pc := 628) hx hb dL_history_628 rfl (lv_at hl 0 rfl) ?_
    refine lv_iload_n (pc := 629) hx hb dL_history_629 rfl (lv_at hl 3 rfl) ?_
    refine lv_iload (pc := 630) hx hb dL_history_630 (lv_at hl 7 rfl) ?_
    refine lv_iconst (pc := 632) (v := 1) hx hb dL_history_632 (by decide) ?_
    refine lv_iadd (pc := 633) hx hb dL_history_633 ?_
    obtain ⟨z1, hc1, hf⟩ := bdS hf
    refine call_H (pc := 634) (As := [.ref (q0 0), .int x3, .int (x8 + (1 : Int32))]) (rest := []) (ws' := (kbW q0 q cA d ab aw b w)) X h (vn_stateBehind d x3 (x8 + (1 : Int32)) hc1) cx_L_172 (kbW_o q0 q cA d ab aw b w) (kbW_o q0 q cA d ab aw b w).symm rfl rfl rfl hl.1 (Nat.le_of_ble_eq_true rfl) dL_history_634 ⟨(Nat.le_of_ble_eq_true rfl), (Nat.le_of_ble_eq_true rfl)⟩ rfl rfl ⟨(Nat.le_of_ble_eq_true rfl), (Nat.le_of_ble_eq_true rfl)⟩ (fun H locs h => ?_)
    refine W.eq (g2 := F0 m 637 ls [.int z1]) rfl ?_
    refine lv_iload (pc := 637) hx hb dL_history_637 (lv_at hl 8 rfl) ?_
    refine lv_icmp_ne (pc := 639) (tgt := 646) hx hb dL_history_639 (by decide) (fun c9 => ?_) (fun c9 => ?_)
    · have hf := ifF c9 hf
      refine lv_iconst (pc := 646) (v := 0) hx hb dL_history_646 (by decide) ?_
      refine lv_istore (pc := 647) (lv' := [(7, .int (0 : Int32)), (0, .ref (q0 0)), (1, .ref (ab)), (2, .ref (aw)), (3, .int x3), (4, .int x4), (5, .int x5), (6, .int x6), (8, .int x8), (19, .int x19)]) hx hb dL_history_647 hl (by decide) rfl (fun ls hl => ?_)
      refine lv_iinc (pc := 649) (v := (x8 + (1 : Int32))) (lv' := [(8, .int (x8 + (1 : Int32))), (7, .int (0 : Int32)), (0, .ref (q0 0)), (1, .ref (ab)), (2, .ref (aw)), (3, .int x3), (4, .int x4), (5, .int x5), (6, .int x6), (19, .int x19)]) hx hb dL_history_649 hl (k := 8) rfl rfl (by decide) rfl (fun ls hl => ?_)
      refine lv_goto (pc := 652) (tgt := 117) hx hb dL_history_652 (by decide) ?_
      exact hr117 _ _ _ _ _ _ _ hf _ _ _ h (lv_sub hl [2, 3, 4, 5, 6, 7, 8, 1, 0] rfl)
    · have hf := ifT c9 hf
      refine lv_iconst (pc := 642) (v := 1) hx hb dL_history_642 (by decide) ?_
      refine lv_goto (pc := 643) (tgt := 647) hx hb dL_history_643 (by decide) ?_
      refine lv_istore (pc := 647) (lv' := [(7, .int (1 : Int32)), (0, .ref (q0 0)), (1, .ref (ab)), (2, .ref (aw)), (3, .int x3), (4, .int x4), (5, .int x5), (6, .int x6), (8, .int x8), (19, .int x19)]) hx hb dL_history_647 hl (by decide) rfl (fun ls hl => ?_)
      refine lv_iinc (pc := 649) (v := (x8 + (1 : Int32))) (lv' := [(8, .int (x8 + (1 : Int32))), (7, .int (1 : Int32)), (0, .ref (q0 0)), (1, .ref (ab)), (2, .ref (aw)), (3, .int x3), (4, .int x4), (5, .int x5), (6, .int x6), (19, .int x19)]) hx hb dL_history_649 hl (k := 8) rfl rfl (by decide) rfl (fun ls hl => ?_)
      refine lv_goto (pc := 652) (tgt := 117) hx hb dL_history_652 (by decide) ?_
      exact hr117 _ _ _ _ _ _ _ hf _ _ _ h (lv_sub hl [2, 3, 4, 5, 6, 7, 8, 1, 0] rfl)
def f_L_history_605 (d : Dk) (b : (Nat → Int32)) (w : (Nat → Int32)) (r117 : Int32 → Int32 → Int32 → Int32 → Int32 → Int32 → Option (Int32)) (x3 : Int32) (x4 : Int32) (x5 : Int32) (x6 : Int32) (x7 : Int32) (x8 : Int32) (x15 : Int32) (x17 : Int32) (x18 : Int32) (s0 : Int32) : Option (Int32) := (if x7 = 0 then (r117 x3 x4 x5 x6 (0 : Int32) (x8 + (1 : Int32))) else (if x18 = 0 then (f_L_history_625 d b w r117 x3 x4 x5 x6 x8 s0 x17 x15) else (f_L_history_625 d b w r117 x3 x4 x5 x6 x8 s0 (0 : Int32) x15)))
set_option maxHeartbeats 1000000 in
set_option maxRecDepth 100000 in
theorem jl_history_605  {d : Dk} {b : (Nat → Int32)} {w : (Nat → Int32)} (X : LCx p l s m args meth c cL_history 20 D cA A) (hE : ∀ (z : Int32) (pc : Nat) (H : Heap) (locs : List Loc) (ls : Array Slot) (cells slots : Nat), (z = 0 ∨ z = 1) → decode cL_history pc = .ok (.ireturn, 1) → cells ≤ 5 → slots ≤ 30 → St D A s.heap (kbW q0 q cA d ab aw b w) H locs → W p l e rm_L_history s m args below meth c H locs cells slots (Qf z) (F0 m pc ls [.int z])) (r117 : Int32 → Int32 → Int32 → Int32 → Int32 → Int32 → Option (Int32)) (hr117 : ∀ (x3 : Int32) (x4 : Int32) (x5 : Int32) (x6 : Int32) (x7 : Int32) (x8 : Int32) (z : Int32), r117 x3 x4 x5 x6 x7 x8 = some z → ∀ (H : Heap) (locs : List Loc) (ls : Array Slot), St D A s.heap (kbW q0 q cA d ab aw b w) H locs → lv_has ls 20 [(0, .ref (q0 0)), (1, .ref (ab)), (2, .ref (aw)), (3, .int x3), (4, .int x4), (5, .int x5), (6, .int x6), (7, .int x7), (8, .int x8)] → W p l e rm_L_history s m args below meth c H locs 5 30 (Qf z) (F0 m 117 ls [])) (x3 : Int32) (x4 : Int32) (x5 : Int32) (x6 : Int32) (x7 : Int32) (x8 : Int32) (x15 : Int32) (x17 : Int32) (x18 : Int32) (s0 : Int32) (z : Int32) (hf : f_L_history_605 d b w r117 x3 x4 x5 x6 x7 x8 x15 x17 x18 s0 = some z) (H : Heap) (locs : List Loc) (ls : Array Slot) (h : St D A s.heap (kbW q0 q cA d ab aw b w) H locs) (hl : lv_has ls 20 [(0, .ref (q0 0)), (1, .ref (ab)), (2, .ref (aw)), (3, .int x3), (4, .int x4), (5, .int x5), (6, .int x6), (7, .int x7), (8, .int x8), (15, .int x15), (17, .int x17), (18, .int x18)]) : W p l e rm_L_history s m args below meth c H locs 5 30 (Qf z) (F0 m 605 ls [.int s0]) := by
  obtain ⟨C, hl0, hXA, hN⟩ := id X
  obtain ⟨hx, hb, hml, hown, hts, hK, hlk⟩ := id C
  rw [f_L_history_605] at hf
  refine lv_istore (pc := 605) (lv' := [(19, .int s0), (0, .ref (q0 0)), (1, .ref (ab)), (2, .ref (aw)), (3, .int x3), (4, .int x4), (5, .int x5), (6, .int x6), (7, .int x7), (8, .int x8), (15, .int x15), (17, .int x17), (18, .int x18)]) hx hb dL_history_605 hl (by decide) rfl (fun ls hl => ?_)
  refine lv_iload (pc := 607) hx hb dL_history_607 (lv_at hl 8 rfl) ?_
  refine lv_if_eq (pc := 609) (tgt := 646) hx hb dL_history_609 (by decide) (fun c9 => ?_) (fun c9 => ?_)
  · have hf := ifT c9 hf
    refine lv_iconst (pc := 646) (v := 0) hx hb dL_history_646 (by decide) ?_
    refine lv_istore (pc := 647) (lv' := [(7, .int (0 : Int32)), (19, .int s0), (0, .ref (q0 0)), (1, .ref (ab)), (2, .ref (aw)), (3, .int x3), (4, .int x4), (5, .int x5), (6, .int x6), (8, .int x8), (15, .int x15), (17, .int x17), (18, .int x18)]) hx hb dL_history_647 hl (by decide) rfl (fun ls hl => ?_)
    refine lv_iinc (pc := 649) (v := (x8 + (1 : Int32))) (lv' := [(8, .int (x8 + (1 : Int32))), (7, .int (0 : Int32)), (19, .int s0), (0, .ref (q0 0)), (1, .ref (ab)), (2, .ref (aw)), (3, .int x3), (4, .int x4), (5, .int x5), (6, .int x6), (15, .int x15), (17, .int x17), (18, .int x18)]) hx hb dL_history_649 hl (k := 9) rfl rfl (by decide) rfl (fun ls hl => ?_)
    refine lv_goto (pc := 652) (tgt := 117) hx hb dL_history_652 (by decide) ?_
    exact hr117 _ _ _ _ _ _ _ hf _ _ _ h (lv_sub hl [3, 4, 5, 6, 7, 8, 9, 1, 0] rfl)
  · have hf := ifF c9 hf
    refine lv_iload (pc := 612) hx hb dL_history_612 (lv_at hl 10 rfl) ?_
    refine lv_iload (pc := 614) hx hb dL_history_614 (lv_at hl 12 rfl) ?_
    refine lv_if_eq (pc := 616) (tgt := 623) hx hb dL_history_616 (by decide) (fun c9 => ?_) (fun c9 => ?_)
    · have hf := ifT c9 hf
      refine lv_iload (pc := 623) hx hb dL_history_623 (lv_at hl 11 rfl) ?_
      exact jl_history_625 X hE _ (hr117) _ _ _ _ _ _ _ _ _ hf _ _ _ h (lv_sub hl [1, 2, 3, 4, 5, 6, 7, 9, 0] rfl)
    · have hf := ifF c9 hf
      refine lv_iconst (pc := 619) (v := 0) hx hb dL_history_619 (by decide) ?_
      refine lv_goto (pc := 620) (tgt := 625) hx hb dL_history_620 (by decide) ?_
      exact jl_history_625 X hE _ (hr117) _ _ _ _ _ _ _ _ _ hf _ _ _ h (lv_sub hl [1, 2, 3, 4, 5, 6, 7, 9, 0] rfl)
def f_L_history_558 (d : Dk) (b : (Nat → Int32)) (w : (Nat → Int32)) (r117 : Int32 → Int32 → Int32 → Int32 → Int32 → Int32 → Option (Int32)) (x3 : Int32) (x4 : Int32) (x5 : Int32) (x6 : Int32) (x7 : Int32) (x8 : Int32) (x9 : Int32) (x15 : Int32) (x17 : Int32) (s0 : Int32) : Option (Int32) := (if x9 = (3 : Int32) then (f_L_history_605 d b w r117 x3 x4 x5 x6 x7 x8 x15 x17 s0 (3 : Int32)) else (if x9 = (4 : Int32) then (f_L_history_605 d b w r117 x3 x4 x5 x6 x7 x8 x15 x17 s0 (4 : Int32)) else (if x9 = (5 : Int32) then (f_L_history_605 d b w r117 x3 x4 x5 x6 x7 x8 x15 x17 s0 (5 : Int32)) else ((f_L_many x5).bind fun z1 => (if z1 = x6 then (f_L_history_605 d b w r117 x3 x4 x5 x6 x7 x8 x15 x17 s0 (2 : Int32)) else (f_L_history_605 d b w r117 x3 x4 x5 x6 x7 x8 x15 x17 s0 (1 : Int32)))))))
set_option maxHeartbeats 1000000 in
set_option maxRecDepth 100000 in
theorem jl_history_558  {d : Dk} {b : (Nat → Int32)} {w : (Nat → Int32)} (X : LCx p l s m args meth c cL_history 20 D cA A) (hE : ∀ (z : Int32) (pc : Nat) (H : Heap) (locs : List Loc) (ls : Array Slot) (cells slots : Nat), (z = 0 ∨ z = 1) → decode cL_history pc = .ok (.ireturn, 1) → cells ≤ 5 → slots ≤ 30 → St D A s.heap (kbW q0 q cA d ab aw b w) H locs → W p l e rm_L_history s m args below meth c H locs cells slots (Qf z) (F0 m pc ls [.int z])) (r117 : Int32 → Int32 → Int32 → Int32 → Int32 → Int32 → Option (Int32)) (hr117 : ∀ (x3 : Int32) (x4 : Int32) (x5 : Int32) (x6 : Int32) (x7 : Int32) (x8 : Int32) (z : Int32), r117 x3 x4 x5 x6 x7 x8 = some z → ∀ (H : Heap) (locs : List Loc) (ls : Array Slot), St D A s.heap (kbW q0 q cA d ab aw b w) H locs → lv_has ls 20 [(0, .ref (q0 0)), (1, .ref (ab)), (2, .ref (aw)), (3, .int x3), (4, .int x4), (5, .int x5), (6, .int x6), (7, .int x7), (8, .int x8)] → W p l e rm_L_history s m args below meth c H locs 5 30 (Qf z) (F0 m 117 ls [])) (x3 : Int32) (x4 : Int32) (x5 : Int32) (x6 : Int32) (x7 : Int32) (x8 : Int32) (x9 : Int32) (x15 : Int32) (x17 : Int32) (s0 : Int32) (z : Int32) (hf : f_L_history_558 d b w r117 x3 x4 x5 x6 x7 x8 x9 x15 x17 s0 = some z) (H : Heap) (locs : List Loc) (ls : Array Slot) (h : St D A s.heap (kbW q0 q cA d ab aw b w) H locs) (hl : lv_has ls 20 [(0, .ref (q0 0)), (1, .ref (ab)), (2, .ref (aw)), (3, .int x3), (4, .int x4), (5, .int x5), (6, .int x6), (7, .int x7), (8, .int x8), (9, .int x9), (15, .int x15), (17, .int x17)]) : W p l e rm_L_history s m args below meth c H locs 5 30 (Qf z) (F0 m 558 ls [.int s0]) := by
  obtain ⟨C, hl0, hXA, hN⟩ := id X
  obtain ⟨hx, hb, hml, hown, hts, hK, hlk⟩ := id C
  rw [f_L_history_558] at hf
  refine lv_istore (pc := 558) (lv' := [(18, .int s0), (0, .ref (q0 0)), (1, .ref (ab)), (2, .ref (aw)), (3, .int x3), (4, .int x4), (5, .int x5), (6, .int x6), (7, .int x7), (8, .int x8), (9, .int x9), (15, .int x15), (17, .int x17)]) hx hb dL_history_558 hl (by decide) rfl (fun ls hl => ?_)
  refine lv_iload (pc := 560) hx hb dL_history_560 (lv_at hl 10 rfl) ?_
  refine lv_iconst (pc := 562) (v := 3) hx hb dL_history_562 (by decide) ?_
  refine lv_icmp_ne (pc := 563) (tgt := 570) hx hb dL_history_563 (by decide) (fun c9 => ?_) (fun c9 => ?_)
  · have hf := ifF c9 hf
    refine lv_iload (pc := 570) hx hb dL_history_570 (lv_at hl 10 rfl) ?_
    refine lv_iconst (pc := 572) (v := 4) hx hb dL_history_572 (by decide) ?_
    refine lv_icmp_ne (pc := 573) (tgt := 580) hx hb dL_history_573 (by decide) (fun c9 => ?_) (fun c9 => ?_)
    · have hf := ifF c9 hf
      refine lv_iload (pc := 580) hx hb dL_history_580 (lv_at hl 10 rfl) ?_
      refine lv_iconst (pc := 582) (v := 5) hx hb dL_history_582 (by decide) ?_
      refine lv_icmp_ne (pc := 583) (tgt := 590) hx hb dL_history_583 (by decide) (fun c9 => ?_) (fun c9 => ?_)
      · have hf := ifF c9 hf
        refine lv_iload (pc := 590) hx hb dL_history_590 (lv_at hl 6 rfl) ?_
        obtain ⟨z1, hc1, hf⟩ := bdS hf
        refine call_SR (pc := 592) (As := [.int x5]) (rest := []) (wc := []) C h (k_L_many x5 hc1) cw_L_160 [] rfl rfl rfl rfl hl.1 (Nat.le_of_ble_eq_true rfl) dL_history_592 ⟨(Nat.le_of_ble_eq_true rfl), (Nat.le_of_ble_eq_true rfl)⟩ rfl rfl ⟨(Nat.le_of_ble_eq_true rfl), (Nat.le_of_ble_eq_true rfl)⟩ (fun H locs h => ?_)
        refine W.eq (g2 := F0 m 595 ls [.int z1]) rfl ?_
        refine lv_iload (pc := 595) hx hb dL_history_595 (lv_at hl 7 rfl) ?_
        refine lv_icmp_ne (pc := 597) (tgt := 604) hx hb dL_history_597 (by decide) (fun c9 => ?_) (fun c9 => ?_)
        · have hf := ifF c9 hf
          refine lv_iconst (pc := 604) (v := 1) hx hb dL_history_604 (by decide) ?_
          exact jl_history_605 X hE _ (hr117) _ _ _ _ _ _ _ _ _ _ _ hf _ _ _ h (lv_sub hl [1, 2, 3, 4, 5, 6, 7, 8, 9, 11, 12, 0] rfl)
        · have hf := ifT c9 hf
          refine lv_iconst (pc := 600) (v := 2) hx hb dL_history_600 (by decide) ?_
          refine lv_goto (pc := 601) (tgt := 605) hx hb dL_history_601 (by decide) ?_
          exact jl_history_605 X hE _ (hr117) _ _ _ _ _ _ _ _ _ _ _ hf _ _ _ h (lv_sub hl [1, 2, 3, 4, 5, 6, 7, 8, 9, 11, 12, 0] rfl)
      · have hf := ifT c9 hf
        refine lv_iconst (pc := 586) (v := 5) hx hb dL_history_586 (by decide) ?_
        refine lv_goto (pc := 587) (tgt := 605) hx hb dL_history_587 (by decide) ?_
        exact jl_history_605 X hE _ (hr117) _ _ _ _ _ _ _ _ _ _ _ hf _ _ _ h (lv_sub hl [1, 2, 3, 4, 5, 6, 7, 8, 9, 11, 12, 0] rfl)
    · have hf := ifT c9 hf
      refine lv_iconst (pc := 576) (v := 4) hx hb dL_history_576 (by decide) ?_
      refine lv_goto (pc := 577) (tgt := 605) hx hb dL_history_577 (by decide) ?_
      exact jl_history_605 X hE _ (hr117) _ _ _ _ _ _ _ _ _ _ _ hf _ _ _ h (lv_sub hl [1, 2, 3, 4, 5, 6, 7, 8, 9, 11, 12, 0] rfl)
  · have hf := ifT c9 hf
    refine lv_iconst (pc := 566) (v := 3) hx hb dL_history_566 (by decide) ?_
    refine lv_goto (pc := 567) (tgt := 605) hx hb dL_history_567 (by decide) ?_
    exact jl_history_605 X hE _ (hr117) _ _ _ _ _ _ _ _ _ _ _ hf _ _ _ h (lv_sub hl [1, 2, 3, 4, 5, 6, 7, 8, 9, 11, 12, 0] rfl)
def f_L_history_557 (d : Dk) (b : (Nat → Int32)) (w : (Nat → Int32)) (r117 : Int32 → Int32 → Int32 → Int32 → Int32 → Int32 → Option (Int32)) (x3 : Int32) (x4 : Int32) (x5 : Int32) (x6 : Int32) (x7 : Int32) (x8 : Int32) (x9 : Int32) (x15 : Int32) (x17 : Int32) : Option (Int32) := (f_L_history_558 d b w r117 x3 x4 x5 x6 x7 x8 x9 x15 x17 (0 : Int32))
set_option maxHeartbeats 1000000 in
set_option maxRecDepth 100000 in
theorem jl_history_557  {d : Dk} {b : (Nat → Int32)} {w : (Nat → Int32)} (X : LCx p l s m args meth c cL_history 20 D cA A) (hE : ∀ (z : Int32) (pc : Nat) (H : Heap) (locs : List Loc) (ls : Array Slot) (cells slots : Nat), (z = 0 ∨ z = 1) → decode cL_history pc = .ok (.ireturn, 1) → cells ≤ 5 → slots ≤ 30 → St D A s.heap (kbW q0 q cA d ab aw b w) H locs → W p l e rm_L_history s m args below meth c H locs cells slots (Qf z) (F0 m pc ls [.int z])) (r117 : Int32 → Int32 → Int32 → Int32 → Int32 → Int32 → Option (Int32)) (hr117 : ∀ (x3 : Int32) (x4 : Int32) (x5 : Int32) (x6 : Int32) (x7 : Int32) (x8 : Int32) (z : Int32), r117 x3 x4 x5 x6 x7 x8 = some z → ∀ (H : Heap) (locs : List Loc) (ls : Array Slot), St D A s.heap (kbW q0 q cA d ab aw b w) H locs → lv_has ls 20 [(0, .ref (q0 0)), (1, .ref (ab)), (2, .ref (aw)), (3, .int x3), (4, .int x4), (5, .int x5), (6, .int x6), (7, .int x7), (8, .int x8)] → W p l e rm_L_history s m args below meth c H locs 5 30 (Qf z) (F0 m 117 ls [])) (x3 : Int32) (x4 : Int32) (x5 : Int32) (x6 : Int32) (x7 : Int32) (x8 : Int32) (x9 : Int32) (x15 : Int32) (x17 : Int32) (z : Int32) (hf : f_L_history_557 d b w r117 x3 x4 x5 x6 x7 x8 x9 x15 x17 = some z) (H : Heap) (locs : List Loc) (ls : Array Slot) (h : St D A s.heap (kbW q0 q cA d ab aw b w) H locs) (hl : lv_has ls 20 [(0, .ref (q0 0)), (1, .ref (ab)), (2, .ref (aw)), (3, .int x3), (4, .int x4), (5, .int x5), (6, .int x6), (7, .int x7), (8, .int x8), (9, .int x9), (15, .int x15), (17, .int x17)]) : W p l e rm_L_history s m args below meth c H locs 5 30 (Qf z) (F0 m 557 ls []) := by
  obtain ⟨C, hl0, hXA, hN⟩ := id X
  obtain ⟨hx, hb, hml, hown, hts, hK, hlk⟩ := id C
  rw [f_L_history_557] at hf
  refine lv_iconst (pc := 557) (v := 0) hx hb dL_history_557 (by decide) ?_
  exact jl_history_558 X hE _ (hr117) _ _ _ _ _ _ _ _ _ _ _ hf _ _ _ h (lv_sub hl [0, 1, 2, 3, 4, 5, 6, 7, 8, 9, 10, 11] rfl)
def f_L_history_540 (d : Dk) (b : (Nat → Int32)) (w : (Nat → Int32)) (r117 : Int32 → Int32 → Int32 → Int32 → Int32 → Int32 → Option (Int32)) (x3 : Int32) (x4 : Int32) (x5 : Int32) (x6 : Int32) (x7 : Int32) (x8 : Int32) (x9 : Int32) (x15 : Int32) (x17 : Int32) : Option (Int32) := (if x9 ≤ (2 : Int32) then (f_L_history_557 d b w r117 x3 x4 x5 x6 x7 x8 x9 x15 x17) else (if (6 : Int32) ≤ x9 then (f_L_history_557 d b w r117 x3 x4 x5 x6 x7 x8 x9 x15 x17) else (f_L_history_558 d b w r117 x3 x4 x5 x6 x7 x8 x9 x15 x17 (1 : Int32))))
set_option maxHeartbeats 1000000 in
set_option maxRecDepth 100000 in
theorem jl_history_540  {d : Dk} {b : (Nat → Int32)} {w : (Nat → Int32)} (X : LCx p l s m args meth c cL_history 20 D cA A) (hE : ∀ (z : Int32) (pc : Nat) (H : Heap) (locs : List Loc) (ls : Array Slot) (cells slots : Nat), (z = 0 ∨ z = 1) → decode cL_history pc = .ok (.ireturn, 1) → cells ≤ 5 → slots ≤ 30 → St D A s.heap (kbW q0 q cA d ab aw b w) H locs → W p l e rm_L_history s m args below meth c H locs cells slots (Qf z) (F0 m pc ls [.int z])) (r117 : Int32 → Int32 → Int32 → Int32 → Int32 → Int32 → Option (Int32)) (hr117 : ∀ (x3 : Int32) (x4 : Int32) (x5 : Int32) (x6 : Int32) (x7 : Int32) (x8 : Int32) (z : Int32), r117 x3 x4 x5 x6 x7 x8 = some z → ∀ (H : Heap) (locs : List Loc) (ls : Array Slot), St D A s.heap (kbW q0 q cA d ab aw b w) H locs → lv_has ls 20 [(0, .ref (q0 0)), (1, .ref (ab)), (2, .ref (aw)), (3, .int x3), (4, .int x4), (5, .int x5), (6, .int x6), (7, .int x7), (8, .int x8)] → W p l e rm_L_history s m args below meth c H locs 5 30 (Qf z) (F0 m 117 ls [])) (x3 : Int32) (x4 : Int32) (x5 : Int32) (x6 : Int32) (x7 : Int32) (x8 : Int32) (x9 : Int32) (x15 : Int32) (x17 : Int32) (z : Int32) (hf : f_L_history_540 d b w r117 x3 x4 x5 x6 x7 x8 x9 x15 x17 = some z) (H : Heap) (locs : List Loc) (ls : Array Slot) (h : St D A s.heap (kbW q0 q cA d ab aw b w) H locs) (hl : lv_has ls 20 [(0, .ref (q0 0)), (1, .ref (ab)), (2, .ref (aw)), (3, .int x3), (4, .int x4), (5, .int x5), (6, .int x6), (7, .int x7), (8, .int x8), (9, .int x9), (15, .int x15), (17, .int x17)]) : W p l e rm_L_history s m args below meth c H locs 5 30 (Qf z) (F0 m 540 ls []) := by
  obtain ⟨C, hl0, hXA, hN⟩ := id X
  obtain ⟨hx, hb, hml, hown, hts, hK, hlk⟩ := id C
  rw [f_L_history_540] at hf
  refine lv_iload (pc := 540) hx hb dL_history_540 (lv_at hl 9 rfl) ?_
  refine lv_iconst (pc := 542) (v := 2) hx hb dL_history_542 (by decide) ?_
  refine lv_icmp_le (pc := 543) (tgt := 557) hx hb dL_history_543 (by decide) (fun c9 => ?_) (fun c9 => ?_)
  · have hf := ifT c9 hf
    exact jl_history_557 X hE _ (hr117) _ _ _ _ _ _ _ _ _ _ hf _ _ _ h (lv_sub hl [0, 1, 2, 3, 4, 5, 6, 7, 8, 9, 10, 11] rfl)
  · have hf := ifF c9 hf
    refine lv_iload (pc := 546) hx hb dL_history_546 (lv_at hl 9 rfl) ?_
    refine lv_bipush (pc := 548) (v := 6) hx hb dL_history_548 (by decide) ?_
    refine lv_icmp_ge (pc := 550) (tgt := 557) hx hb dL_history_550 (by decide) (fun c9 => ?_) (fun c9 => ?_)
    · have hf := ifT c9 hf
      exact jl_history_557 X hE _ (hr117) _ _ _ _ _ _ _ _ _ _ hf _ _ _ h (lv_sub hl [0, 1, 2, 3, 4, 5, 6, 7, 8, 9, 10, 11] rfl)
    · have hf := ifF c9 hf
      refine lv_iconst (pc := 553) (v := 1) hx hb dL_history_553 (by decide) ?_
      refine lv_goto (pc := 554) (tgt := 558) hx hb dL_history_554 (by decide) ?_
      exact jl_history_558 X hE _ (hr117) _ _ _ _ _ _ _ _ _ _ _ hf _ _ _ h (lv_sub hl [0, 1, 2, 3, 4, 5, 6, 7, 8, 9, 10, 11] rfl)
def f_L_history_530 (d : Dk) (b : (Nat → Int32)) (w : (Nat → Int32)) (r117 : Int32 → Int32 → Int32 → Int32 → Int32 → Int32 → Option (Int32)) (r487 : Int32 → Int32 → Int32 → Int32 → Int32 → Int32 → Int32 → Int32 → Int32 → Int32 → Option (Int32)) (x3 : Int32) (x4 : Int32) (x5 : Int32) (x6 : Int32) (x7 : Int32) (x8 : Int32) (x9 : Int32) (x15 : Int32) (x18 : Int32) (s0 : Int32) : Option (Int32) := (r487 x3 x4 x5 x6 x7 x8 x9 x15 (s0 ||| (0 : Int32)) (x18 + (1 : Int32)))
set_option maxHeartbeats 1000000 in
set_option maxRecDepth 100000 in
theorem jl_history_530  {d : Dk} {b : (Nat → Int32)} {w : (Nat → Int32)} (X : LCx p l s m args meth c cL_history 20 D cA A) (hE : ∀ (z : Int32) (pc : Nat) (H : Heap) (locs : List Loc) (ls : Array Slot) (cells slots : Nat), (z = 0 ∨ z = 1) → decode cL_history pc = .ok (.ireturn, 1) → cells ≤ 5 → slots ≤ 30 → St D A s.heap (kbW q0 q cA d ab aw b w) H locs → W p l e rm_L_history s m args below meth c H locs cells slots (Qf z) (F0 m pc ls [.int z])) (r117 : Int32 → Int32 → Int32 → Int32 → Int32 → Int32 → Option (Int32)) (r487 : Int32 → Int32 → Int32 → Int32 → Int32 → Int32 → Int32 → Int32 → Int32 → Int32 → Option (Int32)) (hr117 : ∀ (x3 : Int32) (x4 : Int32) (x5 : Int32) (x6 : Int32) (x7 : Int32) (x8 : Int32) (z : Int32), r117 x3 x4 x5 x6 x7 x8 = some z → ∀ (H : Heap) (locs : List Loc) (ls : Array Slot), St D A s.heap (kbW q0 q cA d ab aw b w) H locs → lv_has ls 20 [(0, .ref (q0 0)), (1, .ref (ab)), (2, .ref (aw)), (3, .int x3), (4, .int x4), (5, .int x5), (6, .int x6), (7, .int x7), (8, .int x8)] → W p l e rm_L_history s m args below meth c H locs 5 30 (Qf z) (F0 m 117 ls [])) (hr487 : ∀ (x3 : Int32) (x4 : Int32) (x5 : Int32) (x6 : Int32) (x7 : Int32) (x8 : Int32) (x9 : Int32) (x15 : Int32) (x17 : Int32) (x18 : Int32) (z : Int32), r487 x3 x4 x5 x6 x7 x8 x9 x15 x17 x18 = some z → ∀ (H : Heap) (locs : List Loc) (ls : Array Slot), St D A s.heap (kbW q0 q cA d ab aw b w) H locs → lv_has ls 20 [(0, .ref (q0 0)), (1, .ref (ab)), (2, .ref (aw)), (3, .int x3), (4, .int x4), (5, .int x5), (6, .int x6), (7, .int x7), (8, .int x8), (9, .int x9), (15, .int x15), (17, .int x17), (18, .int x18)] → W p l e rm_L_history s m args below meth c H locs 5 30 (Qf z) (F0 m 487 ls [])) (x3 : Int32) (x4 : Int32) (x5 : Int32) (x6 : Int32) (x7 : Int32) (x8 : Int32) (x9 : Int32) (x15 : Int32) (x18 : Int32) (s0 : Int32) (z : Int32) (hf : f_L_history_530 d b w r117 r487 x3 x4 x5 x6 x7 x8 x9 x15 x18 s0 = some z) (H : Heap) (locs : List Loc) (ls : Array Slot) (h : St D A s.heap (kbW q0 q cA d ab aw b w) H locs) (hl : lv_has ls 20 [(0, .ref (q0 0)), (1, .ref (ab)), (2, .ref (aw)), (3, .int x3), (4, .int x4), (5, .int x5), (6, .int x6), (7, .int x7), (8, .int x8), (9, .int x9), (15, .int x15), (18, .int x18)]) : W p l e rm_L_history s m args below meth c H locs 5 30 (Qf z) (F0 m 530 ls [.int s0]) := by
  obtain ⟨C, hl0, hXA, hN⟩ := id X
  obtain ⟨hx, hb, hml, hown, hts, hK, hlk⟩ := id C
  rw [f_L_history_530] at hf
  refine lv_iconst (pc := 530) (v := 0) hx hb dL_history_530 (by decide) ?_
  refine lv_ior (pc := 531) hx hb dL_history_531 ?_
  refine lv_istore (pc := 532) (lv' := [(17, .int (s0 ||| (0 : Int32))), (0, .ref (q0 0)), (1, .ref (ab)), (2, .ref (aw)), (3, .int x3), (4, .int x4), (5, .int x5), (6, .int x6), (7, .int x7), (8, .int x8), (9, .int x9), (15, .int x15), (18, .int x18)]) hx hb dL_history_532 hl (by decide) rfl (fun ls hl => ?_)
  refine lv_iinc (pc := 534) (v := (x18 + (1 : Int32))) (lv' := [(18, .int (x18 + (1 : Int32))), (17, .int (s0 ||| (0 : Int32))), (0, .ref (q0 0)), (1, .ref (ab)), (2, .ref (aw)), (3, .int x3), (4, .int x4), (5, .int x5), (6, .int x6), (7, .int x7), (8, .int x8), (9, .int x9), (15, .int x15)]) hx hb dL_history_534 hl (k := 12) rfl rfl (by decide) rfl (fun ls hl => ?_)
  refine lv_goto (pc := 537) (tgt := 487) hx hb dL_history_537 (by decide) ?_
  exact hr487 _ _ _ _ _ _ _ _ _ _ _ hf _ _ _ h (lv_sub hl [2, 3, 4, 5, 6, 7, 8, 9, 10, 11, 12, 1, 0] rfl)
def f_L_history_487 (d : Dk) (b : (Nat → Int32)) (w : (Nat → Int32)) (r117 : Int32 → Int32 → Int32 → Int32 → Int32 → Int32 → Option (Int32)) : Nat → Int32 → Int32 → Int32 → Int32 → Int32 → Int32 → Int32 → Int32 → Int32 → Int32 → Option (Int32)
  | 0, _, _, _, _, _, _, _, _, _, _ => none
  | n + 1, x3, x4, x5, x6, x7, x8, x9, x15, x17, x18 => (if x6 ≤ x18 then (f_L_history_540 d b w r117 x3 x4 x5 x6 x7 x8 x9 x15 x17) else (if ((x5 >>> (x18 &&& 31)) &&& (1 : Int32)) = 0 then (if inb (((8 : Int32) * x3) + x18) 48 then (if ((b (((8 : Int32) * x3) + x18).toNatClampNeg) &&& (x5 ^^^ (-1 : Int32))) = 0 then ((f_L_history_487 d b w r117 n) x3 x4 x5 x6 x7 x8 x9 x15 (x17 ||| ((1 : Int32) <<< (x18 &&& 31))) (x18 + (1 : Int32))) else (f_L_history_530 d b w r117 (f_L_history_487 d b w r117 n) x3 x4 x5 x6 x7 x8 x9 x15 x18 x17)) else none) else (f_L_history_530 d b w r117 (f_L_history_487 d b w r117 n) x3 x4 x5 x6 x7 x8 x9 x15 x18 x17)))
set_option maxHeartbeats 1000000 in
set_option maxRecDepth 100000 in
theorem jl_history_487  {d : Dk} {b : (Nat → Int32)} {w : (Nat → Int32)} (X : LCx p l s m args meth c cL_history 20 D cA A) (hE : ∀ (z : Int32) (pc : Nat) (H : Heap) (locs : List Loc) (ls : Array Slot) (cells slots : Nat), (z = 0 ∨ z = 1) → decode cL_history pc = .ok (.ireturn, 1) → cells ≤ 5 → slots ≤ 30 → St D A s.heap (kbW q0 q cA d ab aw b w) H locs → W p l e rm_L_history s m args below meth c H locs cells slots (Qf z) (F0 m pc ls [.int z])) (r117 : Int32 → Int32 → Int32 → Int32 → Int32 → Int32 → Option (Int32)) (hr117 : ∀ (x3 : Int32) (x4 : Int32) (x5 : Int32) (x6 : Int32) (x7 : Int32) (x8 : Int32) (z : Int32), r117 x3 x4 x5 x6 x7 x8 = some z → ∀ (H : Heap) (locs : List Loc) (ls : Array Slot), St D A s.heap (kbW q0 q cA d ab aw b w) H locs → lv_has ls 20 [(0, .ref (q0 0)), (1, .ref (ab)), (2, .ref (aw)), (3, .int x3), (4, .int x4), (5, .int x5), (6, .int x6), (7, .int x7), (8, .int x8)] → W p l e rm_L_history s m args below meth c H locs 5 30 (Qf z) (F0 m 117 ls [])) : ∀ (n : Nat) (x3 : Int32) (x4 : Int32) (x5 : Int32) (x6 : Int32) (x7 : Int32) (x8 : Int32) (x9 : Int32) (x15 : Int32) (x17 : Int32) (x18 : Int32) (z : Int32), f_L_history_487 d b w r117 n x3 x4 x5 x6 x7 x8 x9 x15 x17 x18 = some z → ∀ (H : Heap) (locs : List Loc) (ls : Array Slot), St D A s.heap (kbW q0 q cA d ab aw b w) H locs → lv_has ls 20 [(0, .ref (q0 0)), (1, .ref (ab)), (2, .ref (aw)), (3, .int x3), (4, .int x4), (5, .int x5), (6, .int x6), (7, .int x7), (8, .int x8), (9, .int x9), (15, .int x15), (17, .int x17), (18, .int x18)] → W p l e rm_L_history s m args below meth c H locs 5 30 (Qf z) (F0 m 487 ls []) := by
  obtain ⟨C, hl0, hXA, hN⟩ := id X
  obtain ⟨hx, hb, hml, hown, hts, hK, hlk⟩ := id C
  intro n
  induction n with
  | zero => intro x3 x4 x5 x6 x7 x8 x9 x15 x17 x18 z hf; rw [f_L_history_487] at hf; cases hf
  | succ n ih =>
    intro x3 x4 x5 x6 x7 x8 x9 x15 x17 x18 z hf H locs ls h hl
    rw [f_L_history_487] at hf
    refine lv_iload (pc := 487) hx hb dL_history_487 (lv_at hl 12 rfl) ?_
    refine lv_iload (pc := 489) hx hb dL_history_489 (lv_at hl 6 rfl) ?_
    refine lv_icmp_ge (pc := 491) (tgt := 540) hx hb dL_history_491 (by decide) (fun c9 => ?_) (fun c9 => ?_)
    · have hf := ifT c9 hf
      exact jl_history_540 X hE _ (hr117) _ _ _ _ _ _ _ _ _ _ hf _ _ _ h (lv_sub hl [0, 1, 2, 3, 4, 5, 6, 7, 8, 9, 10, 11] rfl)
    · have hf := ifF c9 hf
      refine lv_iload (pc := 494) hx hb dL_history_494 (lv_at hl 11 rfl) ?_
      refine lv_iload (pc := 496) hx hb dL_history_496 (lv_at hl 5 rfl) ?_
      refine lv_iload (pc := 498) hx hb dL_history_498 (lv_at hl 12 rfl) ?_
      refine lv_ishr (pc := 500) hx hb dL_history_500 ?_
      refine lv_iconst (pc := 501) (v := 1) hx hb dL_history_501 (by decide) ?_
      refine lv_iand (pc := 502) hx hb dL_history_502 ?_
      refine lv_if_ne (pc := 503) (tgt := 530) hx hb dL_history_503 (by decide) (fun c9 => ?_) (fun c9 => ?_)
      · have hf := ifF c9 hf
        exact jl_history_530 X hE _ _ (hr117) (ih) _ _ _ _ _ _ _ _ _ _ _ hf _ _ _ h (lv_sub hl [0, 1, 2, 3, 4, 5, 6, 7, 8, 9, 10, 12] rfl)
      · have hf := ifT c9 hf
        refine lv_aload_n (pc := 506) hx hb dL_history_506 rfl (lv_at hl 1 rfl) ?_
        refine lv_bipush (pc := 507) (v := 8) hx hb dL_history_507 (by decide) ?_
        refine lv_iload_n (pc := 509) hx hb dL_history_509 rfl (lv_at hl 3 rfl) ?_
        refine lv_imul (pc := 510) hx hb dL_history_510 ?_
        refine lv_iload (pc := 511) hx hb dL_history_511 (lv_at hl 12 rfl) ?_
        refine lv_iadd (pc := 513) hx hb dL_history_513 ?_
        obtain ⟨hin, hf⟩ := ifS hf
        refine g_ild (pc := 514) (n := 48) (f := b) C h.1 0 (kbW_0 ..) hin dL_history_514 ?_
        refine lv_iload (pc := 515) hx hb dL_history_515 (lv_at hl 5 rfl) ?_
        refine lv_iconst (pc := 517) (v := -1) hx hb dL_history_517 (by decide) ?_
        refine lv_ixor (pc := 518) hx hb dL_history_518 ?_
        refine lv_iand (pc := 519) hx hb dL_history_519 ?_
        refine lv_if_ne (pc := 520) (tgt := 530) hx hb dL_history_520 (by decide) (fun c9 => ?_) (fun c9 => ?_)
        · have hf := ifF c9 hf
          exact jl_history_530 X hE _ _ (hr117) (ih) _ _ _ _ _ _ _ _ _ _ _ hf _ _ _ h (lv_sub hl [0, 1, 2, 3, 4, 5, 6, 7, 8, 9, 10, 12] rfl)
        · have hf := ifT c9 hf
          refine lv_iconst (pc := 523) (v := 1) hx hb dL_history_523 (by decide) ?_
          refine lv_iload (pc := 524) hx hb dL_history_524 (lv_at hl 12 rfl) ?_
          refine lv_ishl (pc := 526) hx hb dL_history_526 ?_
          refine lv_goto (pc := 527) (tgt := 531) hx hb dL_history_527 (by decide) ?_
          refine lv_ior (pc := 531) hx hb dL_history_531 ?_
          refine lv_istore (pc := 532) (lv' := [(17, .int (x17 ||| ((1 : Int32) <<< (x18 &&& 31)))), (0, .ref (q0 0)), (1, .ref (ab)), (2, .ref (aw)), (3, .int x3), (4, .int x4), (5, .int x5), (6, .int x6), (7, .int x7), (8, .int x8), (9, .int x9), (15, .int x15), (18, .int x18)]) hx hb dL_history_532 hl (by decide) rfl (fun ls hl => ?_)
          refine lv_iinc (pc := 534) (v := (x18 + (1 : Int32))) (lv' := [(18, .int (x18 + (1 : Int32))), (17, .int (x17 ||| ((1 : Int32) <<< (x18 &&& 31)))), (0, .ref (q0 0)), (1, .ref (ab)), (2, .ref (aw)), (3, .int x3), (4, .int x4), (5, .int x5), (6, .int x6), (7, .int x7), (8, .int x8), (9, .int x9), (15, .int x15)]) hx hb dL_history_534 hl (k := 12) rfl rfl (by decide) rfl (fun ls hl => ?_)
          refine lv_goto (pc := 537) (tgt := 487) hx hb dL_history_537 (by decide) ?_
          exact ih _ _ _ _ _ _ _ _ _ _ _ hf _ _ _ h (lv_sub hl [2, 3, 4, 5, 6, 7, 8, 9, 10, 11, 12, 1, 0] rfl)
def f_L_history_478 (d : Dk) (b : (Nat → Int32)) (w : (Nat → Int32)) (r117 : Int32 → Int32 → Int32 → Int32 → Int32 → Int32 → Option (Int32)) (x3 : Int32) (x4 : Int32) (x6 : Int32) (x7 : Int32) (x8 : Int32) (x9 : Int32) (x15 : Int32) (s0 : Int32) (s1 : Int32) : Option (Int32) := (f_L_history_487 d b w r117 FU x3 x4 (s1 ||| s0) x6 x7 x8 x9 x15 (0 : Int32) (0 : Int32))
set_option maxHeartbeats 1000000 in
set_option maxRecDepth 100000 in
theorem jl_history_478  {d : Dk} {b : (Nat → Int32)} {w : (Nat → Int32)} (X : LCx p l s m args meth c cL_history 20 D cA A) (hE : ∀ (z : Int32) (pc : Nat) (H : Heap) (locs : List Loc) (ls : Array Slot) (cells slots : Nat), (z = 0 ∨ z = 1) → decode cL_history pc = .ok (.ireturn, 1) → cells ≤ 5 → slots ≤ 30 → St D A s.heap (kbW q0 q cA d ab aw b w) H locs → W p l e rm_L_history s m args below meth c H locs cells slots (Qf z) (F0 m pc ls [.int z])) (r117 : Int32 → Int32 → Int32 → Int32 → Int32 → Int32 → Option (Int32)) (hr117 : ∀ (x3 : Int32) (x4 : Int32) (x5 : Int32) (x6 : Int32) (x7 : Int32) (x8 : Int32) (z : Int32), r117 x3 x4 x5 x6 x7 x8 = some z → ∀ (H : Heap) (locs : List Loc) (ls : Array Slot), St D A s.heap (kbW q0 q cA d ab aw b w) H locs → lv_has ls 20 [(0, .ref (q0 0)), (1, .ref (ab)), (2, .ref (aw)), (3, .int x3), (4, .int x4), (5, .int x5), (6, .int x6), (7, .int x7), (8, .int x8)] → W p l e rm_L_history s m args below meth c H locs 5 30 (Qf z) (F0 m 117 ls [])) (x3 : Int32) (x4 : Int32) (x6 : Int32) (x7 : Int32) (x8 : Int32) (x9 : Int32) (x15 : Int32) (s0 : Int32) (s1 : Int32) (z : Int32) (hf : f_L_history_478 d b w r117 x3 x4 x6 x7 x8 x9 x15 s0 s1 = some z) (H : Heap) (locs : List Loc) (ls : Array Slot) (h : St D A s.heap (kbW q0 q cA d ab aw b w) H locs) (hl : lv_has ls 20 [(0, .ref (q0 0)), (1, .ref (ab)), (2, .ref (aw)), (3, .int x3), (4, .int x4), (6, .int x6), (7, .int x7), (8, .int x8), (9, .int x9), (15, .int x15)]) : W p l e rm_L_history s m args below meth c H locs 5 30 (Qf z) (F0 m 478 ls [.int s0, .int s1]) := by
  obtain ⟨C, hl0, hXA, hN⟩ := id X
  obtain ⟨hx, hb, hml, hown, hts, hK, hlk⟩ := id C
  rw [f_L_history_478] at hf
  refine lv_ior (pc := 478) hx hb dL_history_478 ?_
  refine lv_istore (pc := 479) (lv' := [(5, .int (s1 ||| s0)), (0, .ref (q0 0)), (1, .ref (ab)), (2, .ref (aw)), (3, .int x3), (4, .int x4), (6, .int x6), (7, .int x7), (8, .int x8), (9, .int x9), (15, .int x15)]) hx hb dL_history_479 hl (by decide) rfl (fun ls hl => ?_)
  refine lv_iconst (pc := 481) (v := 0) hx hb dL_history_481 (by decide) ?_
  refine lv_istore (pc := 482) (lv' := [(17, .int (0 : Int32)), (5, .int (s1 ||| s0)), (0, .ref (q0 0)), (1, .ref (ab)), (2, .ref (aw)), (3, .int x3), (4, .int x4), (6, .int x6), (7, .int x7), (8, .int x8), (9, .int x9), (15, .int x15)]) hx hb dL_history_482 hl (by decide) rfl (fun ls hl => ?_)
  refine lv_iconst (pc := 484) (v := 0) hx hb dL_history_484 (by decide) ?_
  refine lv_istore (pc := 485) (lv' := [(18, .int (0 : Int32)), (17, .int (0 : Int32)), (5, .int (s1 ||| s0)), (0, .ref (q0 0)), (1, .ref (ab)), (2, .ref (aw)), (3, .int x3), (4, .int x4), (6, .int x6), (7, .int x7), (8, .int x8), (9, .int x9), (15, .int x15)]) hx hb dL_history_485 hl (by decide) rfl (fun ls hl => ?_)
  exact jl_history_487 X hE _ (hr117) FU _ _ _ _ _ _ _ _ _ _ _ hf _ _ _ h (lv_sub hl [3, 4, 5, 6, 7, 2, 8, 9, 10, 11, 12, 1, 0] rfl)
def f_L_history_477 (d : Dk) (b : (Nat → Int32)) (w : (Nat → Int32)) (r117 : Int32 → Int32 → Int32 → Int32 → Int32 → Int32 → Option (Int32)) (x3 : Int32) (x4 : Int32) (x6 : Int32) (x7 : Int32) (x8 : Int32) (x9 : Int32) (x15 : Int32) (s0 : Int32) : Option (Int32) := (f_L_history_478 d b w r117 x3 x4 x6 x7 x8 x9 x15 (0 : Int32) s0)
set_option maxHeartbeats 1000000 in
set_option maxRecDepth 100000 in
theorem jl_history_477  {d : Dk} {b : (Nat → Int32)} {w : (Nat → Int32)} (X : LCx p l s m args meth c cL_history 20 D cA A) (hE : ∀ (z : Int32) (pc : Nat) (H : Heap) (locs : List Loc) (ls : Array Slot) (cells slots : Nat), (z = 0 ∨ z = 1) → decode cL_history pc = .ok (.ireturn, 1) → cells ≤ 5 → slots ≤ 30 → St D A s.heap (kbW q0 q cA d ab aw b w) H locs → W p l e rm_L_history s m args below meth c H locs cells slots (Qf z) (F0 m pc ls [.int z])) (r117 : Int32 → Int32 → Int32 → Int32 → Int32 → Int32 → Option (Int32)) (hr117 : ∀ (x3 : Int32) (x4 : Int32) (x5 : Int32) (x6 : Int32) (x7 : Int32) (x8 : Int32) (z : Int32), r117 x3 x4 x5 x6 x7 x8 = some z → ∀ (H : Heap) (locs : List Loc) (ls : Array Slot), St D A s.heap (kbW q0 q cA d ab aw b w) H locs → lv_has ls 20 [(0, .ref (q0 0)), (1, .ref (ab)), (2, .ref (aw)), (3, .int x3), (4, .int x4), (5, .int x5), (6, .int x6), (7, .int x7), (8, .int x8)] → W p l e rm_L_history s m args below meth c H locs 5 30 (Qf z) (F0 m 117 ls [])) (x3 : Int32) (x4 : Int32) (x6 : Int32) (x7 : Int32) (x8 : Int32) (x9 : Int32) (x15 : Int32) (s0 : Int32) (z : Int32) (hf : f_L_history_477 d b w r117 x3 x4 x6 x7 x8 x9 x15 s0 = some z) (H : Heap) (locs : List Loc) (ls : Array Slot) (h : St D A s.heap (kbW q0 q cA d ab aw b w) H locs) (hl : lv_has ls 20 [(0, .ref (q0 0)), (1, .ref (ab)), (2, .ref (aw)), (3, .int x3), (4, .int x4), (6, .int x6), (7, .int x7), (8, .int x8), (9, .int x9), (15, .int x15)]) : W p l e rm_L_history s m args below meth c H locs 5 30 (Qf z) (F0 m 477 ls [.int s0]) := by
  obtain ⟨C, hl0, hXA, hN⟩ := id X
  obtain ⟨hx, hb, hml, hown, hts, hK, hlk⟩ := id C
  rw [f_L_history_477] at hf
  refine lv_iconst (pc := 477) (v := 0) hx hb dL_history_477 (by decide) ?_
  exact jl_history_478 X hE _ (hr117) _ _ _ _ _ _ _ _ _ _ hf _ _ _ h (lv_sub hl [0, 1, 2, 3, 4, 5, 6, 7, 8, 9] rfl)
def f_L_history_451 (d : Dk) (b : (Nat → Int32)) (w : (Nat → Int32)) (r117 : Int32 → Int32 → Int32 → Int32 → Int32 → Int32 → Option (Int32)) (x3 : Int32) (x4 : Int32) (x5 : Int32) (x6 : Int32) (x7 : Int32) (x8 : Int32) (x9 : Int32) (x13 : Int32) (x15 : Int32) : Option (Int32) := (if x7 = 0 then (f_L_history_477 d b w r117 x3 x4 x6 x7 x8 x9 x15 x5) else (if x9 = (1 : Int32) then (f_L_history_478 d b w r117 x3 x4 x6 x7 x8 x9 x15 ((1 : Int32) <<< (x13 &&& 31)) x5) else (if x9 = (2 : Int32) then (f_L_history_478 d b w r117 x3 x4 x6 x7 x8 x9 x15 ((1 : Int32) <<< (x13 &&& 31)) x5) else (f_L_history_477 d b w r117 x3 x4 x6 x7 x8 x9 x15 x5))))
set_option maxHeartbeats 1000000 in
set_option maxRecDepth 100000 in
theorem jl_history_451  {d : Dk} {b : (Nat → Int32)} {w : (Nat → Int32)} (X : LCx p l s m args meth c cL_history 20 D cA A) (hE : ∀ (z : Int32) (pc : Nat) (H : Heap) (locs : List Loc) (ls : Array Slot) (cells slots : Nat), (z = 0 ∨ z = 1) → decode cL_history pc = .ok (.ireturn, 1) → cells ≤ 5 → slots ≤ 30 → St D A s.heap (kbW q0 q cA d ab aw b w) H locs → W p l e rm_L_history s m args below meth c H locs cells slots (Qf z) (F0 m pc ls [.int z])) (r117 : Int32 → Int32 → Int32 → Int32 → Int32 → Int32 → Option (Int32)) (hr117 : ∀ (x3 : Int32) (x4 : Int32) (x5 : Int32) (x6 : Int32) (x7 : Int32) (x8 : Int32) (z : Int32), r117 x3 x4 x5 x6 x7 x8 = some z → ∀ (H : Heap) (locs : List Loc) (ls : Array Slot), St D A s.heap (kbW q0 q cA d ab aw b w) H locs → lv_has ls 20 [(0, .ref (q0 0)), (1, .ref (ab)), (2, .ref (aw)), (3, .int x3), (4, .int x4), (5, .int x5), (6, .int x6), (7, .int x7), (8, .int x8)] → W p l e rm_L_history s m args below meth c H locs 5 30 (Qf z) (F0 m 117 ls [])) (x3 : Int32) (x4 : Int32) (x5 : Int32) (x6 : Int32) (x7 : Int32) (x8 : Int32) (x9 : Int32) (x13 : Int32) (x15 : Int32) (z : Int32) (hf : f_L_history_451 d b w r117 x3 x4 x5 x6 x7 x8 x9 x13 x15 = some z) (H : Heap) (locs : List Loc) (ls : Array Slot) (h : St D A s.heap (kbW q0 q cA d ab aw b w) H locs) (hl : lv_has ls 20 [(0, .ref (q0 0)), (1, .ref (ab)), (2, .ref (aw)), (3, .int x3), (4, .int x4), (5, .int x5), (6, .int x6), (7, .int x7), (8, .int x8), (9, .int x9), (13, .int x13), (15, .int x15)]) : W p l e rm_L_history s m args below meth c H locs 5 30 (Qf z) (F0 m 451 ls []) := by
  obtain ⟨C, hl0, hXA, hN⟩ := id X
  obtain ⟨hx, hb, hml, hown, hts, hK, hlk⟩ := id C
  rw [f_L_history_451] at hf
  refine lv_iload (pc := 451) hx hb dL_history_451 (lv_at hl 5 rfl) ?_
  refine lv_iload (pc := 453) hx hb dL_history_453 (lv_at hl 7 rfl) ?_
  refine lv_if_eq (pc := 455) (tgt := 477) hx hb dL_history_455 (by decide) (fun c9 => ?_) (fun c9 => ?_)
  · have hf := ifT c9 hf
    exact jl_history_477 X hE _ (hr117) _ _ _ _ _ _ _ _ _ hf _ _ _ h (lv_sub hl [0, 1, 2, 3, 4, 6, 7, 8, 9, 11] rfl)
  · have hf := ifF c9 hf
    refine lv_iload (pc := 458) hx hb dL_history_458 (lv_at hl 9 rfl) ?_
    refine lv_iconst (pc := 460) (v := 1) hx hb dL_history_460 (by decide) ?_
    refine lv_icmp_eq (pc := 461) (tgt := 470) hx hb dL_history_461 (by decide) (fun c9 => ?_) (fun c9 => ?_)
    · have hf := ifT c9 hf
      refine lv_iconst (pc := 470) (v := 1) hx hb dL_history_470 (by decide) ?_
      refine lv_iload (pc := 471) hx hb dL_history_471 (lv_at hl 10 rfl) ?_
      refine lv_ishl (pc := 473) hx hb dL_history_473 ?_
      refine lv_goto (pc := 474) (tgt := 478) hx hb dL_history_474 (by decide) ?_
      exact jl_history_478 X hE _ (hr117) _ _ _ _ _ _ _ _ _ _ hf _ _ _ h (lv_sub hl [0, 1, 2, 3, 4, 6, 7, 8, 9, 11] rfl)
    · have hf := ifF c9 hf
      refine lv_iload (pc := 464) hx hb dL_history_464 (lv_at hl 9 rfl) ?_
      refine lv_iconst (pc := 466) (v := 2) hx hb dL_history_466 (by decide) ?_
      refine lv_icmp_ne (pc := 467) (tgt := 477) hx hb dL_history_467 (by decide) (fun c9 => ?_) (fun c9 => ?_)
      · have hf := ifF c9 hf
        exact jl_history_477 X hE _ (hr117) _ _ _ _ _ _ _ _ _ hf _ _ _ h (lv_sub hl [0, 1, 2, 3, 4, 6, 7, 8, 9, 11] rfl)
      · have hf := ifT c9 hf
        refine lv_iconst (pc := 470) (v := 1) hx hb dL_history_470 (by decide) ?_
        refine lv_iload (pc := 471) hx hb dL_history_471 (lv_at hl 10 rfl) ?_
        refine lv_ishl (pc := 473) hx hb dL_history_473 ?_
        refine lv_goto (pc := 474) (tgt := 478) hx hb dL_history_474 (by decide) ?_
        exact jl_history_478 X hE _ (hr117) _ _ _ _ _ _ _ _ _ _ hf _ _ _ h (lv_sub hl [0, 1, 2, 3, 4, 6, 7, 8, 9, 11] rfl)
def f_L_history_449 (d : Dk) (b : (Nat → Int32)) (w : (Nat → Int32)) (r117 : Int32 → Int32 → Int32 → Int32 → Int32 → Int32 → Option (Int32)) (x3 : Int32) (x4 : Int32) (x5 : Int32) (x6 : Int32) (x8 : Int32) (x9 : Int32) (x13 : Int32) (x15 : Int32) (s0 : Int32) : Option (Int32) := (f_L_history_451 d b w r117 x3 x4 x5 x6 s0 x8 x9 x13 x15)
set_option maxHeartbeats 1000000 in
set_option maxRecDepth 100000 in
theorem jl_history_449  {d : Dk} {b : (Nat → Int32)} {w : (Nat → Int32)} (X : LCx p l s m args meth c cL_history 20 D cA A) (hE : ∀ (z : Int32) (pc : Nat) (H : Heap) (locs : List Loc) (ls : Array Slot) (cells slots : Nat), (z = 0 ∨ z = 1) → decode cL_history pc = .ok (.ireturn, 1) → cells ≤ 5 → slots ≤ 30 → St D A s.heap (kbW q0 q cA d ab aw b w) H locs → W p l e rm_L_history s m args below meth c H locs cells slots (Qf z) (F0 m pc ls [.int z])) (r117 : Int32 → Int32 → Int32 → Int32 → Int32 → Int32 → Option (Int32)) (hr117 : ∀ (x3 : Int32) (x4 : Int32) (x5 : Int32) (x6 : Int32) (x7 : Int32) (x8 : Int32) (z : Int32), r117 x3 x4 x5 x6 x7 x8 = some z → ∀ (H : Heap) (locs : List Loc) (ls : Array Slot), St D A s.heap (kbW q0 q cA d ab aw b w) H locs → lv_has ls 20 [(0, .ref (q0 0)), (1, .ref (ab)), (2, .ref (aw)), (3, .int x3), (4, .int x4), (5, .int x5), (6, .int x6), (7, .int x7), (8, .int x8)] → W p l e rm_L_history s m args below meth c H locs 5 30 (Qf z) (F0 m 117 ls [])) (x3 : Int32) (x4 : Int32) (x5 : Int32) (x6 : Int32) (x8 : Int32) (x9 : Int32) (x13 : Int32) (x15 : Int32) (s0 : Int32) (z : Int32) (hf : f_L_history_449 d b w r117 x3 x4 x5 x6 x8 x9 x13 x15 s0 = some z) (H : Heap) (locs : List Loc) (ls : Array Slot) (h : St D A s.heap (kbW q0 q cA d ab aw b w) H locs) (hl : lv_has ls 20 [(0, .ref (q0 0)), (1, .ref (ab)), (2, .ref (aw)), (3, .int x3), (4, .int x4), (5, .int x5), (6, .int x6), (8, .int x8), (9, .int x9), (13, .int x13), (15, .int x15)]) : W p l e rm_L_history s m args below meth c H locs 5 30 (Qf z) (F0 m 449 ls [.int s0]) := by
  obtain ⟨C, hl0, hXA, hN⟩ := id X
  obtain ⟨hx, hb, hml, hown, hts, hK, hlk⟩ := id C
  rw [f_L_history_449] at hf
  refine lv_istore (pc := 449) (lv' := [(7, .int s0), (0, .ref (q0 0)), (1, .ref (ab)), (2, .ref (aw)), (3, .int x3), (4, .int x4), (5, .int x5), (6, .int x6), (8, .int x8), (9, .int x9), (13, .int x13), (15, .int x15)]) hx hb dL_history_449 hl (by decide) rfl (fun ls hl => ?_)
  exact jl_history_451 X hE _ (hr117) _ _ _ _ _ _ _ _ _ _ hf _ _ _ h (lv_sub hl [1, 2, 3, 4, 5, 6, 7, 0, 8, 9, 10, 11] rfl)
def f_L_history_448 (d : Dk) (b : (Nat → Int32)) (w : (Nat → Int32)) (r117 : Int32 → Int32 → Int32 → Int32 → Int32 → Int32 → Option (Int32)) (x3 : Int32) (x4 : Int32) (x5 : Int32) (x6 : Int32) (x8 : Int32) (x9 : Int32) (x13 : Int32) (x15 : Int32) : Option (Int32) := (f_L_history_449 d b w r117 x3 x4 x5 x6 x8 x9 x13 x15 (0 : Int32))
set_option maxHeartbeats 1000000 in
set_option maxRecDepth 100000 in
theorem jl_history_448  {d : Dk} {b : (Nat → Int32)} {w : (Nat → Int32)} (X : LCx p l s m args meth c cL_history 20 D cA A) (hE : ∀ (z : Int32) (pc : Nat) (H : Heap) (locs : List Loc) (ls : Array Slot) (cells slots : Nat), (z = 0 ∨ z = 1) → decode cL_history pc = .ok (.ireturn, 1) → cells ≤ 5 → slots ≤ 30 → St D A s.heap (kbW q0 q cA d ab aw b w) H locs → W p l e rm_L_history s m args below meth c H locs cells slots (Qf z) (F0 m pc ls [.int z])) (r117 : Int32 → Int32 → Int32 → Int32 → Int32 → Int32 → Option (Int32)) (hr117 : ∀ (x3 : Int32) (x4 : Int32) (x5 : Int32) (x6 : Int32) (x7 : Int32) (x8 : Int32) (z : Int32), r117 x3 x4 x5 x6 x7 x8 = some z → ∀ (H : Heap) (locs : List Loc) (ls : Array Slot), St D A s.heap (kbW q0 q cA d ab aw b w) H locs → lv_has ls 20 [(0, .ref (q0 0)), (1, .ref (ab)), (2, .ref (aw)), (3, .int x3), (4, .int x4), (5, .int x5), (6, .int x6), (7, .int x7), (8, .int x8)] → W p l e rm_L_history s m args below meth c H locs 5 30 (Qf z) (F0 m 117 ls [])) (x3 : Int32) (x4 : Int32) (x5 : Int32) (x6 : Int32) (x8 : Int32) (x9 : Int32) (x13 : Int32) (x15 : Int32) (z : Int32) (hf : f_L_history_448 d b w r117 x3 x4 x5 x6 x8 x9 x13 x15 = some z) (H : Heap) (locs : List Loc) (ls : Array Slot) (h : St D A s.heap (kbW q0 q cA d ab aw b w) H locs) (hl : lv_has ls 20 [(0, .ref (q0 0)), (1, .ref (ab)), (2, .ref (aw)), (3, .int x3), (4, .int x4), (5, .int x5), (6, .int x6), (8, .int x8), (9, .int x9), (13, .int x13), (15, .int x15)]) : W p l e rm_L_history s m args below meth c H locs 5 30 (Qf z) (F0 m 448 ls []) := by
  obtain ⟨C, hl0, hXA, hN⟩ := id X
  obtain ⟨hx, hb, hml, hown, hts, hK, hlk⟩ := id C
  rw [f_L_history_448] at hf
  refine lv_iconst (pc := 448) (v := 0) hx hb dL_history_448 (by decide) ?_
  exact jl_history_449 X hE _ (hr117) _ _ _ _ _ _ _ _ _ _ hf _ _ _ h (lv_sub hl [0, 1, 2, 3, 4, 5, 6, 7, 8, 9, 10] rfl)
def f_L_history_384 (d : Dk) (b : (Nat → Int32)) (w : (Nat → Int32)) (r117 : Int32 → Int32 → Int32 → Int32 → Int32 → Int32 → Option (Int32)) (x3 : Int32) (x4 : Int32) (x5 : Int32) (x6 : Int32) (x8 : Int32) (x9 : Int32) (x10 : Int32) (x13 : Int32) (x14 : Int32) (x15 : Int32) (x16 : Int32) (s0 : Int32) : Option (Int32) := (if s0 = 0 then (f_L_history_451 d b w r117 x3 x4 x5 x6 s0 x8 x9 x13 x15) else (if x16 = 0 then (if ((x14 >>> (x13 &&& 31)) &&& (1 : Int32)) = (1 : Int32) then (if x9 = (2 : Int32) then (if inb (((8 : Int32) * x3) + x13) 48 then (if x10 = (w (((8 : Int32) * x3) + x13).toNatClampNeg) then (f_L_history_448 d b w r117 x3 x4 x5 x6 x8 x9 x13 x15) else (f_L_history_449 d b w r117 x3 x4 x5 x6 x8 x9 x13 x15 (1 : Int32))) else none) else (if inb (((8 : Int32) * x3) + x13) 48 then (if x10 = (w (((8 : Int32) * x3) + x13).toNatClampNeg) then (f_L_history_449 d b w r117 x3 x4 x5 x6 x8 x9 x13 x15 (1 : Int32)) else (f_L_history_448 d b w r117 x3 x4 x5 x6 x8 x9 x13 x15)) else none)) else (f_L_history_448 d b w r117 x3 x4 x5 x6 x8 x9 x13 x15)) else (f_L_history_451 d b w r117 x3 x4 x5 x6 s0 x8 x9 x13 x15)))
set_option maxHeartbeats 1000000 in
set_option maxRecDepth 100000 in
theorem jl_history_384  {d : Dk} {b : (Nat → Int32)} {w : (Nat → Int32)} (X : LCx p l s m args meth c cL_history 20 D cA A) (hE : ∀ (z : Int32) (pc : Nat) (H : Heap) (locs : List Loc) (ls : Array Slot) (cells slots : Nat), (z = 0 ∨ z = 1) → decode cL_history pc = .ok (.ireturn, 1) → cells ≤ 5 → slots ≤ 30 → St D A s.heap (kbW q0 q cA d ab aw b w) H locs → W p l e rm_L_history s m args below meth c H locs cells slots (Qf z) (F0 m pc ls [.int z])) (r117 : Int32 → Int32 → Int32 → Int32 → Int32 → Int32 → Option (Int32)) (hr117 : ∀ (x3 : Int32) (x4 : Int32) (x5 : Int32) (x6 : Int32) (x7 : Int32) (x8 : Int32) (z : Int32), r117 x3 x4 x5 x6 x7 x8 = some z → ∀ (H : Heap) (locs : List Loc) (ls : Array Slot), St D A s.heap (kbW q0 q cA d ab aw b w) H locs → lv_has ls 20 [(0, .ref (q0 0)), (1, .ref (ab)), (2, .ref (aw)), (3, .int x3), (4, .int x4), (5, .int x5), (6, .int x6), (7, .int x7), (8, .int x8)] → W p l e rm_L_history s m args below meth c H locs 5 30 (Qf z) (F0 m 117 ls [])) (x3 : Int32) (x4 : Int32) (x5 : Int32) (x6 : Int32) (x8 : Int32) (x9 : Int32) (x10 : Int32) (x13 : Int32) (x14 : Int32) (x15 : Int32) (x16 : Int32) (s0 : Int32) (z : Int32) (hf : f_L_history_384 d b w r117 x3 x4 x5 x6 x8 x9 x10 x13 x14 x15 x16 s0 = some z) (H : Heap) (locs : List Loc) (ls : Array Slot) (h : St D A s.heap (kbW q0 q cA d ab aw b w) H locs) (hl : lv_has ls 20 [(0, .ref (q0 0)), (1, .ref (ab)), (2, .ref (aw)), (3, .int x3), (4, .int x4), (5, .int x5), (6, .int x6), (8, .int x8), (9, .int x9), (10, .int x10), (13, .int x13), (14, .int x14), (15, .int x15), (16, .int x16)]) : W p l e rm_L_history s m args below meth c H locs 5 30 (Qf z) (F0 m 384 ls [.int s0]) := by
  obtain ⟨C, hl0, hXA, hN⟩ := id X
  obtain ⟨hx, hb, hml, hown, hts, hK, hlk⟩ := id C
  rw [f_L_history_384] at hf
  refine lv_istore (pc := 384) (lv' := [(7, .int s0), (0, .ref (q0 0)), (1, .ref (ab)), (2, .ref (aw)), (3, .int x3), (4, .int x4), (5, .int x5), (6, .int x6), (8, .int x8), (9, .int x9), (10, .int x10), (13, .int x13), (14, .int x14), (15, .int x15), (16, .int x16)]) hx hb dL_history_384 hl (by decide) rfl (fun ls hl => ?_)
  refine lv_iload (pc := 386) hx hb dL_history_386 (lv_at hl 0 rfl) ?_
  refine lv_if_eq (pc := 388) (tgt := 451) hx hb dL_history_388 (by decide) (fun c9 => ?_) (fun c9 => ?_)
  · have hf := ifT c9 hf
    exact jl_history_451 X hE _ (hr117) _ _ _ _ _ _ _ _ _ _ hf _ _ _ h (lv_sub hl [1, 2, 3, 4, 5, 6, 7, 0, 8, 9, 11, 13] rfl)
  · have hf := ifF c9 hf
    refine lv_iload (pc := 391) hx hb dL_history_391 (lv_at hl 14 rfl) ?_
    refine lv_if_ne (pc := 393) (tgt := 451) hx hb dL_history_393 (by decide) (fun c9 => ?_) (fun c9 => ?_)
    · have hf := ifF c9 hf
      exact jl_history_451 X hE _ (hr117) _ _ _ _ _ _ _ _ _ _ hf _ _ _ h (lv_sub hl [1, 2, 3, 4, 5, 6, 7, 0, 8, 9, 11, 13] rfl)
    · have hf := ifT c9 hf
      refine lv_iload (pc := 396) hx hb dL_history_396 (lv_at hl 12 rfl) ?_
      refine lv_iload (pc := 398) hx hb dL_history_398 (lv_at hl 11 rfl) ?_
      refine lv_ishr (pc := 400) hx hb dL_history_400 ?_
      refine lv_iconst (pc := 401) (v := 1) hx hb dL_history_401 (by decide) ?_
      refine lv_iand (pc := 402) hx hb dL_history_402 ?_
      refine lv_iconst (pc := 403) (v := 1) hx hb dL_history_403 (by decide) ?_
      refine lv_icmp_ne (pc := 404) (tgt := 448) hx hb dL_history_404 (by decide) (fun c9 => ?_) (fun c9 => ?_)
      · have hf := ifF c9 hf
        exact jl_history_448 X hE _ (hr117) _ _ _ _ _ _ _ _ _ hf _ _ _ h (lv_sub hl [1, 2, 3, 4, 5, 6, 7, 8, 9, 11, 13] rfl)
      · have hf := ifT c9 hf
        refine lv_iload (pc := 407) hx hb dL_history_407 (lv_at hl 9 rfl) ?_
        refine lv_iconst (pc := 409) (v := 2) hx hb dL_history_409 (by decide) ?_
        refine lv_icmp_ne (pc := 410) (tgt := 430) hx hb dL_history_410 (by decide) (fun c9 => ?_) (fun c9 => ?_)
        · have hf := ifF c9 hf
          refine lv_iload (pc := 430) hx hb dL_history_430 (lv_at hl 10 rfl) ?_
          refine lv_aload_n (pc := 432) hx hb dL_history_432 rfl (lv_at hl 3 rfl) ?_
          refine lv_bipush (pc := 433) (v := 8) hx hb dL_history_433 (by decide) ?_
          refine lv_iload_n (pc := 435) hx hb dL_history_435 rfl (lv_at hl 4 rfl) ?_
          refine lv_imul (pc := 436) hx hb dL_history_436 ?_
          refine lv_iload (pc := 437) hx hb dL_history_437 (lv_at hl 11 rfl) ?_
          refine lv_iadd (pc := 439) hx hb dL_history_439 ?_
          obtain ⟨hin, hf⟩ := ifS hf
          refine g_ild (pc := 440) (n := 48) (f := w) C h.1 1 (kbW_1 ..) hin dL_history_440 ?_
          refine lv_icmp_ne (pc := 441) (tgt := 448) hx hb dL_history_441 (by decide) (fun c9 => ?_) (fun c9 => ?_)
          · have hf := ifF c9 hf
            exact jl_history_448 X hE _ (hr117) _ _ _ _ _ _ _ _ _ hf _ _ _ h (lv_sub hl [1, 2, 3, 4, 5, 6, 7, 8, 9, 11, 13] rfl)
          · have hf := ifT c9 hf
            refine lv_iconst (pc := 444) (v := 1) hx hb dL_history_444 (by decide) ?_
            refine lv_goto (pc := 445) (tgt := 449) hx hb dL_history_445 (by decide) ?_
            exact jl_history_449 X hE _ (hr117) _ _ _ _ _ _ _ _ _ _ hf _ _ _ h (lv_sub hl [1, 2, 3, 4, 5, 6, 7, 8, 9, 11, 13] rfl)
        · have hf := ifT c9 hf
          refine lv_iload (pc := 413) hx hb dL_history_413 (lv_at hl 10 rfl) ?_
          refine lv_aload_n (pc := 415) hx hb dL_history_415 rfl (lv_at hl 3 rfl) ?_
          refine lv_bipush (pc := 416) (v := 8) hx hb dL_history_416 (by decide) ?_
          refine lv_iload_n (pc := 418) hx hb dL_history_418 rfl (lv_at hl 4 rfl) ?_
          refine lv_imul (pc := 419) hx hb dL_history_419 ?_
          refine lv_iload (pc := 420) hx hb dL_history_420 (lv_at hl 11 rfl) ?_
          refine lv_iadd (pc := 422) hx hb dL_history_422 ?_
          obtain ⟨hin, hf⟩ := ifS hf
          refine g_ild (pc := 423) (n := 48) (f := w) C h.1 1 (kbW_1 ..) hin dL_history_423 ?_
          refine lv_icmp_eq (pc := 424) (tgt := 448) hx hb dL_history_424 (by decide) (fun c9 => ?_) (fun c9 => ?_)
          · have hf := ifT c9 hf
            exact jl_history_448 X hE _ (hr117) _ _ _ _ _ _ _ _ _ hf _ _ _ h (lv_sub hl [1, 2, 3, 4, 5, 6, 7, 8, 9, 11, 13] rfl)
          · have hf := ifF c9 hf
            refine lv_goto (pc := 427) (tgt := 444) hx hb dL_history_427 (by decide) ?_
            refine lv_iconst (pc := 444) (v := 1) hx hb dL_history_444 (by decide) ?_
            refine lv_goto (pc := 445) (tgt := 449) hx hb dL_history_445 (by decide) ?_
            exact jl_history_449 X hE _ (hr117) _ _ _ _ _ _ _ _ _ _ hf _ _ _ h (lv_sub hl [1, 2, 3, 4, 5, 6, 7, 8, 9, 11, 13] rfl)
def f_L_history_383 (d : Dk) (b : (Nat → Int32)) (w : (Nat → Int32)) (r117 : Int32 → Int32 → Int32 → Int32 → Int32 → Int32 → Option (Int32)) (x3 : Int32) (x4 : Int32) (x5 : Int32) (x6 : Int32) (x8 : Int32) (x9 : Int32) (x10 : Int32) (x13 : Int32) (x14 : Int32) (x15 : Int32) (x16 : Int32) : Option (Int32) := (f_L_history_384 d b w r117 x3 x4 x5 x6 x8 x9 x10 x13 x14 x15 x16 (0 : Int32))
set_option maxHeartbeats 1000000 in
set_option maxRecDepth 100000 in
theorem jl_history_383  {d : Dk} {b : (Nat → Int32)} {w : (Nat → Int32)} (X : LCx p l s m args meth c cL_history 20 D cA A) (hE : ∀ (z : Int32) (pc : Nat) (H : Heap) (locs : List Loc) (ls : Array Slot) (cells slots : Nat), (z = 0 ∨ z = 1) → decode cL_history pc = .ok (.ireturn, 1) → cells ≤ 5 → slots ≤ 30 → St D A s.heap (kbW q0 q cA d ab aw b w) H locs → W p l e rm_L_history s m args below meth c H locs cells slots (Qf z) (F0 m pc ls [.int z])) (r117 : Int32 → Int32 → Int32 → Int32 → Int32 → Int32 → Option (Int32)) (hr117 : ∀ (x3 : Int32) (x4 : Int32) (x5 : Int32) (x6 : Int32) (x7 : Int32) (x8 : Int32) (z : Int32), r117 x3 x4 x5 x6 x7 x8 = some z → ∀ (H : Heap) (locs : List Loc) (ls : Array Slot), St D A s.heap (kbW q0 q cA d ab aw b w) H locs → lv_has ls 20 [(0, .ref (q0 0)), (1, .ref (ab)), (2, .ref (aw)), (3, .int x3), (4, .int x4), (5, .int x5), (6, .int x6), (7, .int x7), (8, .int x8)] → W p l e rm_L_history s m args below meth c H locs 5 30 (Qf z) (F0 m 117 ls [])) (x3 : Int32) (x4 : Int32) (x5 : Int32) (x6 : Int32) (x8 : Int32) (x9 : Int32) (x10 : Int32) (x13 : Int32) (x14 : Int32) (x15 : Int32) (x16 : Int32) (z : Int32) (hf : f_L_history_383 d b w r117 x3 x4 x5 x6 x8 x9 x10 x13 x14 x15 x16 = some z) (H : Heap) (locs : List Loc) (ls : Array Slot) (h : St D A s.heap (kbW q0 q cA d ab aw b w) H locs) (hl : lv_has ls 20 [(0, .ref (q0 0)), (1, .ref (ab)), (2, .ref (aw)), (3, .int x3), (4, .int x4), (5, .int x5), (6, .int x6), (8, .int x8), (9, .int x9), (10, .int x10), (13, .int x13), (14, .int x14), (15, .int x15), (16, .int x16)]) : W p l e rm_L_history s m args below meth c H locs 5 30 (Qf z) (F0 m 383 ls []) := by
  obtain ⟨C, hl0, hXA, hN⟩ := id X
  obtain ⟨hx, hb, hml, hown, hts, hK, hlk⟩ := id C
  rw [f_L_history_383] at hf
  refine lv_iconst (pc := 383) (v := 0) hx hb dL_history_383 (by decide) ?_
  exact jl_history_384 X hE _ (hr117) _ _ _ _ _ _ _ _ _ _ _ _ _ hf _ _ _ h (lv_sub hl [0, 1, 2, 3, 4, 5, 6, 7, 8, 9, 10, 11, 12, 13] rfl)
def f_L_history_370 (d : Dk) (b : (Nat → Int32)) (w : (Nat → Int32)) (r117 : Int32 → Int32 → Int32 → Int32 → Int32 → Int32 → Option (Int32)) (x3 : Int32) (x4 : Int32) (x5 : Int32) (x6 : Int32) (x8 : Int32) (x9 : Int32) (x10 : Int32) (x11 : Int32) (x13 : Int32) (x14 : Int32) (x15 : Int32) (x16 : Int32) : Option (Int32) := ((gn_today d).bind fun z1 => (if z1 < x11 then (f_L_history_383 d b w r117 x3 x4 x5 x6 x8 x9 x10 x13 x14 x15 x16) else (f_L_history_384 d b w r117 x3 x4 x5 x6 x8 x9 x10 x13 x14 x15 x16 (1 : Int32))))
set_option maxHeartbeats 1000000 in
set_option maxRecDepth 100000 in
theorem jl_history_370  {d : Dk} {b : (Nat → Int32)} {w : (Nat → Int32)} (X : LCx p l s m args meth c cL_history 20 D cA A) (hE : ∀ (z : Int32) (pc : Nat) (H : Heap) (locs : List Loc) (ls : Array Slot) (cells slots : Nat), (z = 0 ∨ z = 1) → decode cL_history pc = .ok (.ireturn, 1) → cells ≤ 5 → slots ≤ 30 → St D A s.heap (kbW q0 q cA d ab aw b w) H locs → W p l e rm_L_history s m args below meth c H locs cells slots (Qf z) (F0 m pc ls [.int z])) (r117 : Int32 → Int32 → Int32 → Int32 → Int32 → Int32 → Option (Int32)) (hr117 : ∀ (x3 : Int32) (x4 : Int32) (x5 : Int32) (x6 : Int32) (x7 : Int32) (x8 : Int32) (z : Int32), r117 x3 x4 x5 x6 x7 x8 = some z → ∀ (H : Heap) (locs : List Loc) (ls : Array Slot), St D A s.heap (kbW q0 q cA d ab aw b w) H locs → lv_has ls 20 [(0, .ref (q0 0)), (1, .ref (ab)), (2, .ref (aw)), (3, .int x3), (4, .int x4), (5, .int x5), (6, .int x6), (7, .int x7), (8, .int x8)] → W p l e rm_L_history s m args below meth c H locs 5 30 (Qf z) (F0 m 117 ls [])) (x3 : Int32) (x4 : Int32) (x5 : Int32) (x6 : Int32) (x8 : Int32) (x9 : Int32) (x10 : Int32) (x11 : Int32) (x13 : Int32) (x14 : Int32) (x15 : Int32) (x16 : Int32) (z : Int32) (hf : f_L_history_370 d b w r117 x3 x4 x5 x6 x8 x9 x10 x11 x13 x14 x15 x16 = some z) (H : Heap) (locs : List Loc) (ls : Array Slot) (h : St D A s.heap (kbW q0 q cA d ab aw b w) H locs) (hl : lv_has ls 20 [(0, .ref (q0 0)), (1, .ref (ab)), (2, .ref (aw)), (3, .int x3), (4, .int x4), (5, .int x5), (6, .int x6), (8, .int x8), (9, .int x9), (10, .int x10), (11, .int x11), (13, .int x13), (14, .int x14), (15, .int x15), (16, .int x16)]) : W p l e rm_L_history s m args below meth c H locs 5 30 (Qf z) (F0 m 370 ls []) := by
  obtain ⟨C, hl0, hXA, hN⟩ := id X
  obtain ⟨hx, hb, hml, hown, hts, hK, hlk⟩ := id C
  rw [f_L_history_370] at hf
  refine lv_iload (pc := 370) hx hb dL_history_370 (lv_at hl 10 rfl) ?_
  refine lv_aload_n (pc := 372) hx hb dL_history_372 rfl (lv_at hl 0 rfl) ?_
  obtain ⟨z1, hc1, hf⟩ := bdS hf
  obtain ⟨hn1, hv1⟩ := gn_today_s hc1
  refine call_VRp (pc := 373) (rest := [.int x11]) (As := []) C h (k_X4_today hn1 (q0 := q0) (q := q) d.2.1 d.2.2 hv1) cw_L_130 (kW_c0 q0 q cA d) rfl (kbW_o ..) rfl rfl hl.1 (Nat.le_of_ble_eq_true rfl) dL_history_373 ⟨(Nat.le_of_ble_eq_true rfl), (Nat.le_of_ble_eq_true rfl)⟩ rfl rfl ⟨(Nat.le_of_ble_eq_true rfl), (Nat.le_of_ble_eq_true rfl)⟩ (fun H locs h => ?_)
  refine W.eq (g2 := F0 m 376 ls [.int z1, .int x11]) rfl ?_
  refine lv_icmp_gt (pc := 376) (tgt := 383) hx hb dL_history_376 (by decide) (fun c9 => ?_) (fun c9 => ?_)
  · have hf := ifT c9 hf
    exact jl_history_383 X hE _ (hr117) _ _ _ _ _ _ _ _ _ _ _ _ hf _ _ _ h (lv_sub hl [0, 1, 2, 3, 4, 5, 6, 7, 8, 9, 11, 12, 13, 14] rfl)
  · have hf := ifF c9 hf
    refine lv_iconst (pc := 379) (v := 1) hx hb dL_history_379 (by decide) ?_
    refine lv_goto (pc := 380) (tgt := 384) hx hb dL_history_380 (by decide) ?_
    exact jl_history_384 X hE _ (hr117) _ _ _ _ _ _ _ _ _ _ _ _ _ hf _ _ _ h (lv_sub hl [0, 1, 2, 3, 4, 5, 6, 7, 8, 9, 11, 12, 13, 14] rfl)
def f_L_history_337 (d : Dk) (b : (Nat → Int32)) (w : (Nat → Int32)) (r117 : Int32 → Int32 → Int32 → Int32 → Int32 → Int32 → Option (Int32)) (x3 : Int32) (x4 : Int32) (x5 : Int32) (x6 : Int32) (x8 : Int32) (x9 : Int32) (x10 : Int32) (x11 : Int32) (x13 : Int32) (x14 : Int32) (x15 : Int32) (x16 : Int32) (s0 : Int32) (s1 : Int32) : Option (Int32) := (if s1 = s0 then (if x8 = 0 then (f_L_history_370 d b w r117 x3 x4 x5 x6 x8 x9 x10 x11 x13 x14 x15 x16) else ((gn_stateBehind d x3 x8).bind fun z1 => (if z1 = (1 : Int32) then ((gn_dayOf d x3 (x8 - (1 : Int32))).bind fun z2 => (if x11 < z2 then (f_L_history_383 d b w r117 x3 x4 x5 x6 x8 x9 x10 x13 x14 x15 x16) else (f_L_history_370 d b w r117 x3 x4 x5 x6 x8 x9 x10 x11 x13 x14 x15 x16))) else (f_L_history_383 d b w r117 x3 x4 x5 x6 x8 x9 x10 x13 x14 x15 x16)))) else (f_L_history_383 d b w r117 x3 x4 x5 x6 x8 x9 x10 x13 x14 x15 x16))
set_option maxHeartbeats 1000000 in
set_option maxRecDepth 100000 in
theorem jl_history_337  {d : Dk} {b : (Nat → Int32)} {w : (Nat → Int32)} (X : LCx p l s m args meth c cL_history 20 D cA A) (hE : ∀ (z : Int32) (pc : Nat) (H : Heap) (locs : List Loc) (ls : Array Slot) (cells slots : Nat), (z = 0 ∨ z = 1) → decode cL_history pc = .ok (.ireturn, 1) → cells ≤ 5 → slots ≤ 30 → St D A s.heap (kbW q0 q cA d ab aw b w) H locs → W p l e rm_L_history s m args below meth c H locs cells slots (Qf z) (F0 m pc ls [.int z])) (r117 : Int32 → Int32 → Int32 → Int32 → Int32 → Int32 → Option (Int32)) (hr117 : ∀ (x3 : Int32) (x4 : Int32) (x5 : Int32) (x6 : Int32) (x7 : Int32) (x8 : Int32) (z : Int32), r117 x3 x4 x5 x6 x7 x8 = some z → ∀ (H : Heap) (locs : List Loc) (ls : Array Slot), St D A s.heap (kbW q0 q cA d ab aw b w) H locs → lv_has ls 20 [(0, .ref (q0 0)), (1, .ref (ab)), (2, .ref (aw)), (3, .int x3), (4, .int x4), (5, .int x5), (6, .int x6), (7, .int x7), (8, .int x8)] → W p l e rm_L_history s m args below meth c H locs 5 30 (Qf z) (F0 m 117 ls [])) (x3 : Int32) (x4 : Int32) (x5 : Int32) (x6 : Int32) (x8 : Int32) (x9 : Int32) (x10 : Int32) (x11 : Int32) (x13 : Int32) (x14 : Int32) (x15 : Int32) (x16 : Int32) (s0 : Int32) (s1 : Int32) (z : Int32) (hf : f_L_history_337 d b w r117 x3 x4 x5 x6 x8 x9 x10 x11 x13 x14 x15 x16 s0 s1 = some z) (H : Heap) (locs : List Loc) (ls : Array Slot) (h : St D A s.heap (kbW q0 q cA d ab aw b w) H locs) (hl : lv_has ls 20 [(0, .ref (q0 0)), (1, .ref (ab)), (2, .ref (aw)), (3, .int x3), (4, .int x4), (5, .int x5), (6, .int x6), (8, .int x8), (9, .int x9), (10, .int x10), (11, .int x11), (13, .int x13), (14, .int x14), (15, .int x15), (16, .int x16)]) : W p l e rm_L_history s m args below meth c H locs 5 30 (Qf z) (F0 m 337 ls [.int s0, .int s1]) := by
  obtain ⟨C, hl0, hXA, hN⟩ := id X
  obtain ⟨hx, hb, hml, hown, hts, hK, hlk⟩ := id C
  rw [f_L_history_337] at hf
  refine lv_icmp_ne (pc := 337) (tgt := 383) hx hb dL_history_337 (by decide) (fun c9 => ?_) (fun c9 => ?_)
  · have hf := ifF c9 hf
    exact jl_history_383 X hE _ (hr117) _ _ _ _ _ _ _ _ _ _ _ _ hf _ _ _ h (lv_sub hl [0, 1, 2, 3, 4, 5, 6, 7, 8, 9, 11, 12, 13, 14] rfl)
  · have hf := ifT c9 hf
    refine lv_iload (pc := 340) hx hb dL_history_340 (lv_at hl 7 rfl) ?_
    refine lv_if_eq (pc := 342) (tgt := 370) hx hb dL_history_342 (by decide) (fun c9 => ?_) (fun c9 => ?_)
    · have hf := ifT c9 hf
      exact jl_history_370 X hE _ (hr117) _ _ _ _ _ _ _ _ _ _ _ _ _ hf _ _ _ h (lv_sub hl [0, 1, 2, 3, 4, 5, 6, 7, 8, 9, 10, 11, 12, 13, 14] rfl)
    · have hf := ifF c9 hf
      refine lv_aload_n (pc := 345) hx hb dL_history_345 rfl (lv_at hl 0 rfl) ?_
      refine lv_iload_n (pc := 346) hx hb dL_history_346 rfl (lv_at hl 3 rfl) ?_
      refine lv_iload (pc := 347) hx hb dL_history_347 (lv_at hl 7 rfl) ?_
      obtain ⟨z1, hc1, hf⟩ := bdS hf
      refine call_H (pc := 349) (As := [.ref (q0 0), .int x3, .int x8]) (rest := []) (ws' := (kbW q0 q cA d ab aw b w)) X h (vn_stateBehind d x3 x8 hc1) cx_L_172 (kbW_o q0 q cA d ab aw b w) (kbW_o q0 q cA d ab aw b w).symm rfl rfl rfl hl.1 (Nat.le_of_ble_eq_true rfl) dL_history_349 ⟨(Nat.le_of_ble_eq_true rfl), (Nat.le_of_ble_eq_true rfl)⟩ rfl rfl ⟨(Nat.le_of_ble_eq_true rfl), (Nat.le_of_ble_eq_true rfl)⟩ (fun H locs h => ?_)
      refine W.eq (g2 := F0 m 352 ls [.int z1]) rfl ?_
      refine lv_iconst (pc := 352) (v := 1) hx hb dL_history_352 (by decide) ?_
      refine lv_icmp_ne (pc := 353) (tgt := 383) hx hb dL_history_353 (by decide) (fun c9 => ?_) (fun c9 => ?_)
      · have hf := ifF c9 hf
        exact jl_history_383 X hE _ (hr117) _ _ _ _ _ _ _ _ _ _ _ _ hf _ _ _ h (lv_sub hl [0, 1, 2, 3, 4, 5, 6, 7, 8, 9, 11, 12, 13, 14] rfl)
      · have hf := ifT c9 hf
        refine lv_aload_n (pc := 356) hx hb dL_history_356 rfl (lv_at hl 0 rfl) ?_
        refine lv_iload_n (pc := 357) hx hb dL_history_357 rfl (lv_at hl 3 rfl) ?_
        refine lv_iload (pc := 358) hx hb dL_history_358 (lv_at hl 7 rfl) ?_
        refine lv_iconst (pc := 360) (v := 1) hx hb dL_history_360 (by decide) ?_
        refine lv_isub (pc := 361) hx hb dL_history_361 ?_
        obtain ⟨z2, hc2, hf⟩ := bdS hf
        refine call_H (pc := 362) (As := [.ref (q0 0), .int x3, .int (x8 - (1 : Int32))]) (rest := []) (ws' := (kbW q0 q cA d ab aw b w)) X h (vn_dayOf d x3 (x8 - (1 : Int32)) hc2) cx_L_181 (kbW_o q0 q cA d ab aw b w) (kbW_o q0 q cA d ab aw b w).symm rfl rfl rfl hl.1 (Nat.le_of_ble_eq_true rfl) dL_history_362 ⟨(Nat.le_of_ble_eq_true rfl), (Nat.le_of_ble_eq_true rfl)⟩ rfl rfl ⟨(Nat.le_of_ble_eq_true rfl), (Nat.le_of_ble_eq_true rfl)⟩ (fun H locs h => ?_)
        refine W.eq (g2 := F0 m 365 ls [.int z2]) rfl ?_
        refine lv_iload (pc := 365) hx hb dL_history_365 (lv_at hl 10 rfl) ?_
        refine lv_icmp_gt (pc := 367) (tgt := 383) hx hb dL_history_367 (by decide) (fun c9 => ?_) (fun c9 => ?_)
        · have hf := ifT c9 hf
          exact jl_history_383 X hE _ (hr117) _ _ _ _ _ _ _ _ _ _ _ _ hf _ _ _ h (lv_sub hl [0, 1, 2, 3, 4, 5, 6, 7, 8, 9, 11, 12, 13, 14] rfl)
        · have hf := ifF c9 hf
          exact jl_history_370 X hE _ (hr117) _ _ _ _ _ _ _ _ _ _ _ _ _ hf _ _ _ h (lv_sub hl [0, 1, 2, 3, 4, 5, 6, 7, 8, 9, 10, 11, 12, 13, 14] rfl)
def f_L_history_327 (d : Dk) (b : (Nat → Int32)) (w : (Nat → Int32)) (r117 : Int32 → Int32 → Int32 → Int32 → Int32 → Int32 → Option (Int32)) (x3 : Int32) (x4 : Int32) (x5 : Int32) (x6 : Int32) (x8 : Int32) (x9 : Int32) (x10 : Int32) (x11 : Int32) (x13 : Int32) (x14 : Int32) (x15 : Int32) (x16 : Int32) (s0 : Int32) : Option (Int32) := (if x9 = 0 then (f_L_history_337 d b w r117 x3 x4 x5 x6 x8 x9 x10 x11 x13 x14 x15 x16 (1 : Int32) s0) else (f_L_history_337 d b w r117 x3 x4 x5 x6 x8 x9 x10 x11 x13 x14 x15 x16 (0 : Int32) s0))
set_option maxHeartbeats 1000000 in
set_option maxRecDepth 100000 in
theorem jl_history_327  {d : Dk} {b : (Nat → Int32)} {w : (Nat → Int32)} (X : LCx p l s m args meth c cL_history 20 D cA A) (hE : ∀ (z : Int32) (pc : Nat) (H : Heap) (locs : List Loc) (ls : Array Slot) (cells slots : Nat), (z = 0 ∨ z = 1) → decode cL_history pc = .ok (.ireturn, 1) → cells ≤ 5 → slots ≤ 30 → St D A s.heap (kbW q0 q cA d ab aw b w) H locs → W p l e rm_L_history s m args below meth c H locs cells slots (Qf z) (F0 m pc ls [.int z])) (r117 : Int32 → Int32 → Int32 → Int32 → Int32 → Int32 → Option (Int32)) (hr117 : ∀ (x3 : Int32) (x4 : Int32) (x5 : Int32) (x6 : Int32) (x7 : Int32) (x8 : Int32) (z : Int32), r117 x3 x4 x5 x6 x7 x8 = some z → ∀ (H : Heap) (locs : List Loc) (ls : Array Slot), St D A s.heap (kbW q0 q cA d ab aw b w) H locs → lv_has ls 20 [(0, .ref (q0 0)), (1, .ref (ab)), (2, .ref (aw)), (3, .int x3), (4, .int x4), (5, .int x5), (6, .int x6), (7, .int x7), (8, .int x8)] → W p l e rm_L_history s m args below meth c H locs 5 30 (Qf z) (F0 m 117 ls [])) (x3 : Int32) (x4 : Int32) (x5 : Int32) (x6 : Int32) (x8 : Int32) (x9 : Int32) (x10 : Int32) (x11 : Int32) (x13 : Int32) (x14 : Int32) (x15 : Int32) (x16 : Int32) (s0 : Int32) (z : Int32) (hf : f_L_history_327 d b w r117 x3 x4 x5 x6 x8 x9 x10 x11 x13 x14 x15 x16 s0 = some z) (H : Heap) (locs : List Loc) (ls : Array Slot) (h : St D A s.heap (kbW q0 q cA d ab aw b w) H locs) (hl : lv_has ls 20 [(0, .ref (q0 0)), (1, .ref (ab)), (2, .ref (aw)), (3, .int x3), (4, .int x4), (5, .int x5), (6, .int x6), (8, .int x8), (9, .int x9), (10, .int x10), (11, .int x11), (13, .int x13), (14, .int x14), (15, .int x15), (16, .int x16)]) : W p l e rm_L_history s m args below meth c H locs 5 30 (Qf z) (F0 m 327 ls [.int s0]) := by
  obtain ⟨C, hl0, hXA, hN⟩ := id X
  obtain ⟨hx, hb, hml, hown, hts, hK, hlk⟩ := id C
  rw [f_L_history_327] at hf
  refine lv_iload (pc := 327) hx hb dL_history_327 (lv_at hl 8 rfl) ?_
  refine lv_if_ne (pc := 329) (tgt := 336) hx hb dL_history_329 (by decide) (fun c9 => ?_) (fun c9 => ?_)
  · have hf := ifF c9 hf
    refine lv_iconst (pc := 336) (v := 0) hx hb dL_history_336 (by decide) ?_
    exact jl_history_337 X hE _ (hr117) _ _ _ _ _ _ _ _ _ _ _ _ _ _ _ hf _ _ _ h (lv_sub hl [0, 1, 2, 3, 4, 5, 6, 7, 8, 9, 10, 11, 12, 13, 14] rfl)
  · have hf := ifT c9 hf
    refine lv_iconst (pc := 332) (v := 1) hx hb dL_history_332 (by decide) ?_
    refine lv_goto (pc := 333) (tgt := 337) hx hb dL_history_333 (by decide) ?_
    exact jl_history_337 X hE _ (hr117) _ _ _ _ _ _ _ _ _ _ _ _ _ _ _ hf _ _ _ h (lv_sub hl [0, 1, 2, 3, 4, 5, 6, 7, 8, 9, 10, 11, 12, 13, 14] rfl)
def f_L_history_317 (d : Dk) (b : (Nat → Int32)) (w : (Nat → Int32)) (r117 : Int32 → Int32 → Int32 → Int32 → Int32 → Int32 → Option (Int32)) (x3 : Int32) (x4 : Int32) (x5 : Int32) (x6 : Int32) (x8 : Int32) (x9 : Int32) (x10 : Int32) (x11 : Int32) (x13 : Int32) (x14 : Int32) (x15 : Int32) (x16 : Int32) : Option (Int32) := (if x8 = 0 then (f_L_history_327 d b w r117 x3 x4 x5 x6 x8 x9 x10 x11 x13 x14 x15 x16 (1 : Int32)) else (f_L_history_327 d b w r117 x3 x4 x5 x6 x8 x9 x10 x11 x13 x14 x15 x16 (0 : Int32)))
set_option maxHeartbeats 1000000 in
set_option maxRecDepth 100000 in
theorem jl_history_317  {d : Dk} {b : (Nat → Int32)} {w : (Nat → Int32)} (X : LCx p l s m args meth c cL_history 20 D cA A) (hE : ∀ (z : Int32) (pc : Nat) (H : Heap) (locs : List Loc) (ls : Array Slot) (cells slots : Nat), (z = 0 ∨ z = 1) → decode cL_history pc = .ok (.ireturn, 1) → cells ≤ 5 → slots ≤ 30 → St D A s.heap (kbW q0 q cA d ab aw b w) H locs → W p l e rm_L_history s m args below meth c H locs cells slots (Qf z) (F0 m pc ls [.int z])) (r117 : Int32 → Int32 → Int32 → Int32 → Int32 → Int32 → Option (Int32)) (hr117 : ∀ (x3 : Int32) (x4 : Int32) (x5 : Int32) (x6 : Int32) (x7 : Int32) (x8 : Int32) (z : Int32), r117 x3 x4 x5 x6 x7 x8 = some z → ∀ (H : Heap) (locs : List Loc) (ls : Array Slot), St D A s.heap (kbW q0 q cA d ab aw b w) H locs → lv_has ls 20 [(0, .ref (q0 0)), (1, .ref (ab)), (2, .ref (aw)), (3, .int x3), (4, .int x4), (5, .int x5), (6, .int x6), (7, .int x7), (8, .int x8)] → W p l e rm_L_history s m args below meth c H locs 5 30 (Qf z) (F0 m 117 ls [])) (x3 : Int32) (x4 : Int32) (x5 : Int32) (x6 : Int32) (x8 : Int32) (x9 : Int32) (x10 : Int32) (x11 : Int32) (x13 : Int32) (x14 : Int32) (x15 : Int32) (x16 : Int32) (z : Int32) (hf : f_L_history_317 d b w r117 x3 x4 x5 x6 x8 x9 x10 x11 x13 x14 x15 x16 = some z) (H : Heap) (locs : List Loc) (ls : Array Slot) (h : St D A s.heap (kbW q0 q cA d ab aw b w) H locs) (hl : lv_has ls 20 [(0, .ref (q0 0)), (1, .ref (ab)), (2, .ref (aw)), (3, .int x3), (4, .int x4), (5, .int x5), (6, .int x6), (8, .int x8), (9, .int x9), (10, .int x10), (11, .int x11), (13, .int x13), (14, .int x14), (15, .int x15), (16, .int x16)]) : W p l e rm_L_history s m args below meth c H locs 5 30 (Qf z) (F0 m 317 ls []) := by
  obtain ⟨C, hl0, hXA, hN⟩ := id X
  obtain ⟨hx, hb, hml, hown, hts, hK, hlk⟩ := id C
  rw [f_L_history_317] at hf
  refine lv_iload (pc := 317) hx hb dL_history_317 (lv_at hl 7 rfl) ?_
  refine lv_if_ne (pc := 319) (tgt := 326) hx hb dL_history_319 (by decide) (fun c9 => ?_) (fun c9 => ?_)
  · have hf := ifF c9 hf
    refine lv_iconst (pc := 326) (v := 0) hx hb dL_history_326 (by decide) ?_
    exact jl_history_327 X hE _ (hr117) _ _ _ _ _ _ _ _ _ _ _ _ _ _ hf _ _ _ h (lv_sub hl [0, 1, 2, 3, 4, 5, 6, 7, 8, 9, 10, 11, 12, 13, 14] rfl)
  · have hf := ifT c9 hf
    refine lv_iconst (pc := 322) (v := 1) hx hb dL_history_322 (by decide) ?_
    refine lv_goto (pc := 323) (tgt := 327) hx hb dL_history_323 (by decide) ?_
    exact jl_history_327 X hE _ (hr117) _ _ _ _ _ _ _ _ _ _ _ _ _ _ hf _ _ _ h (lv_sub hl [0, 1, 2, 3, 4, 5, 6, 7, 8, 9, 10, 11, 12, 13, 14] rfl)
def f_L_history_270 (d : Dk) (b : (Nat → Int32)) (w : (Nat → Int32)) (r117 : Int32 → Int32 → Int32 → Int32 → Int32 → Int32 → Option (Int32)) (x3 : Int32) (x4 : Int32) (x5 : Int32) (x6 : Int32) (x8 : Int32) (x9 : Int32) (x10 : Int32) (x11 : Int32) (x12 : Int32) (x13 : Int32) (x14 : Int32) (x15 : Int32) (s0 : Int32) : Option (Int32) := (if (x12 - x12 / (13 : Int32) * (13 : Int32)) = 0 then (if x6 ≤ x13 then (f_L_history_383 d b w r117 x3 x4 x5 x6 x8 x9 x10 x13 x14 x15 s0) else (if s0 = 0 then (if x13 < 0 then (f_L_history_383 d b w r117 x3 x4 x5 x6 x8 x9 x10 x13 x14 x15 s0) else (if x10 < 0 then (f_L_history_383 d b w r117 x3 x4 x5 x6 x8 x9 x10 x13 x14 x15 s0) else (f_L_history_317 d b w r117 x3 x4 x5 x6 x8 x9 x10 x11 x13 x14 x15 s0))) else (if x13 = (-1 : Int32) then (if x10 = (-1 : Int32) then (f_L_history_317 d b w r117 x3 x4 x5 x6 x8 x9 x10 x11 x13 x14 x15 s0) else (f_L_history_383 d b w r117 x3 x4 x5 x6 x8 x9 x10 x13 x14 x15 s0)) else (f_L_history_383 d b w r117 x3 x4 x5 x6 x8 x9 x10 x13 x14 x15 s0)))) else (f_L_history_383 d b w r117 x3 x4 x5 x6 x8 x9 x10 x13 x14 x15 s0))
set_option maxHeartbeats 1000000 in
set_option maxRecDepth 100000 in
theorem jl_history_270  {d : Dk} {b : (Nat → Int32)} {w : (Nat → Int32)} (X : LCx p l s m args meth c cL_history 20 D cA A) (hE : ∀ (z : Int32) (pc : Nat) (H : Heap) (locs : List Loc) (ls : Array Slot) (cells slots : Nat), (z = 0 ∨ z = 1) → decode cL_history pc = .ok (.ireturn, 1) → cells ≤ 5 → slots ≤ 30 → St D A s.heap (kbW q0 q cA d ab aw b w) H locs → W p l e rm_L_history s m args below meth c H locs cells slots (Qf z) (F0 m pc ls [.int z])) (r117 : Int32 → Int32 → Int32 → Int32 → Int32 → Int32 → Option (Int32)) (hr117 : ∀ (x3 : Int32) (x4 : Int32) (x5 : Int32) (x6 : Int32) (x7 : Int32) (x8 : Int32) (z : Int32), r117 x3 x4 x5 x6 x7 x8 = some z → ∀ (H : Heap) (locs : List Loc) (ls : Array Slot), St D A s.heap (kbW q0 q cA d ab aw b w) H locs → lv_has ls 20 [(0, .ref (q0 0)), (1, .ref (ab)), (2, .ref (aw)), (3, .int x3), (4, .int x4), (5, .int x5), (6, .int x6), (7, .int x7), (8, .int x8)] → W p l e rm_L_history s m args below meth c H locs 5 30 (Qf z) (F0 m 117 ls [])) (x3 : Int32) (x4 : Int32) (x5 : Int32) (x6 : Int32) (x8 : Int32) (x9 : Int32) (x10 : Int32) (x11 : Int32) (x12 : Int32) (x13 : Int32) (x14 : Int32) (x15 : Int32) (s0 : Int32) (z : Int32) (hf : f_L_history_270 d b w r117 x3 x4 x5 x6 x8 x9 x10 x11 x12 x13 x14 x15 s0 = some z) (H : Heap) (locs : List Loc) (ls : Array Slot) (h : St D A s.heap (kbW q0 q cA d ab aw b w) H locs) (hl : lv_has ls 20 [(0, .ref (q0 0)), (1, .ref (ab)), (2, .ref (aw)), (3, .int x3), (4, .int x4), (5, .int x5), (6, .int x6), (8, .int x8), (9, .int x9), (10, .int x10), (11, .int x11), (12, .int x12), (13, .int x13), (14, .int x14), (15, .int x15)]) : W p l e rm_L_history s m args below meth c H locs 5 30 (Qf z) (F0 m 270 ls [.int s0]) := by
  obtain ⟨C, hl0, hXA, hN⟩ := id X
  obtain ⟨hx, hb, hml, hown, hts, hK, hlk⟩ := id C
  rw [f_L_history_270] at hf
  refine lv_istore (pc := 270) (lv' := [(16, .int s0), (0, .ref (q0 0)), (1, .ref (ab)), (2, .ref (aw)), (3, .int x3), (4, .int x4), (5, .int x5), (6, .int x6), (8, .int x8), (9, .int x9), (10, .int x10), (11, .int x11), (12, .int x12), (13, .int x13), (14, .int x14), (15, .int x15)]) hx hb dL_history_270 hl (by decide) rfl (fun ls hl => ?_)
  refine lv_iload (pc := 272) hx hb dL_history_272 (lv_at hl 12 rfl) ?_
  refine lv_bipush (pc := 274) (v := 13) hx hb dL_history_274 (by decide) ?_
  refine lv_irem (pc := 276) hx hb dL_history_276 (by decide) ?_
  refine lv_if_ne (pc := 277) (tgt := 383) hx hb dL_history_277 (by decide) (fun c9 => ?_) (fun c9 => ?_)
  · have hf := ifF c9 hf
    exact jl_history_383 X hE _ (hr117) _ _ _ _ _ _ _ _ _ _ _ _ hf _ _ _ h (lv_sub hl [1, 2, 3, 4, 5, 6, 7, 8, 9, 10, 13, 14, 15, 0] rfl)
  · have hf := ifT c9 hf
    refine lv_iload (pc := 280) hx hb dL_history_280 (lv_at hl 13 rfl) ?_
    refine lv_iload (pc := 282) hx hb dL_history_282 (lv_at hl 7 rfl) ?_
    refine lv_icmp_ge (pc := 284) (tgt := 383) hx hb dL_history_284 (by decide) (fun c9 => ?_) (fun c9 => ?_)
    · have hf := ifT c9 hf
      exact jl_history_383 X hE _ (hr117) _ _ _ _ _ _ _ _ _ _ _ _ hf _ _ _ h (lv_sub hl [1, 2, 3, 4, 5, 6, 7, 8, 9, 10, 13, 14, 15, 0] rfl)
    · have hf := ifF c9 hf
      refine lv_iload (pc := 287) hx hb dL_history_287 (lv_at hl 0 rfl) ?_
      refine lv_if_eq (pc := 289) (tgt := 307) hx hb dL_history_289 (by decide) (fun c9 => ?_) (fun c9 => ?_)
      · have hf := ifT c9 hf
        refine lv_iload (pc := 307) hx hb dL_history_307 (lv_at hl 13 rfl) ?_
        refine lv_if_lt (pc := 309) (tgt := 383) hx hb dL_history_309 (by decide) (fun c9 => ?_) (fun c9 => ?_)
        · have hf := ifT c9 hf
          exact jl_history_383 X hE _ (hr117) _ _ _ _ _ _ _ _ _ _ _ _ hf _ _ _ h (lv_sub hl [1, 2, 3, 4, 5, 6, 7, 8, 9, 10, 13, 14, 15, 0] rfl)
        · have hf := ifF c9 hf
          refine lv_iload (pc := 312) hx hb dL_history_312 (lv_at hl 10 rfl) ?_
          refine lv_if_lt (pc := 314) (tgt := 383) hx hb dL_history_314 (by decide) (fun c9 => ?_) (fun c9 => ?_)
          · have hf := ifT c9 hf
            exact jl_history_383 X hE _ (hr117) _ _ _ _ _ _ _ _ _ _ _ _ hf _ _ _ h (lv_sub hl [1, 2, 3, 4, 5, 6, 7, 8, 9, 10, 13, 14, 15, 0] rfl)
          · have hf := ifF c9 hf
            exact jl_history_317 X hE _ (hr117) _ _ _ _ _ _ _ _ _ _ _ _ _ hf _ _ _ h (lv_sub hl [1, 2, 3, 4, 5, 6, 7, 8, 9, 10, 11, 13, 14, 15, 0] rfl)
      · have hf := ifF c9 hf
        refine lv_iload (pc := 292) hx hb dL_history_292 (lv_at hl 13 rfl) ?_
        refine lv_iconst (pc := 294) (v := -1) hx hb dL_history_294 (by decide) ?_
        refine lv_icmp_ne (pc := 295) (tgt := 383) hx hb dL_history_295 (by decide) (fun c9 => ?_) (fun c9 => ?_)
        · have hf := ifF c9 hf
          exact jl_history_383 X hE _ (hr117) _ _ _ _ _ _ _ _ _ _ _ _ hf _ _ _ h (lv_sub hl [1, 2, 3, 4, 5, 6, 7, 8, 9, 10, 13, 14, 15, 0] rfl)
        · have hf := ifT c9 hf
          refine lv_iload (pc := 298) hx hb dL_history_298 (lv_at hl 10 rfl) ?_
          refine lv_iconst (pc := 300) (v := -1) hx hb dL_history_300 (by decide) ?_
          refine lv_icmp_ne (pc := 301) (tgt := 383) hx hb dL_history_301 (by decide) (fun c9 => ?_) (fun c9 => ?_)
          · have hf := ifF c9 hf
            exact jl_history_383 X hE _ (hr117) _ _ _ _ _ _ _ _ _ _ _ _ hf _ _ _ h (lv_sub hl [1, 2, 3, 4, 5, 6, 7, 8, 9, 10, 13, 14, 15, 0] rfl)
          · have hf := ifT c9 hf
            refine lv_goto (pc := 304) (tgt := 317) hx hb dL_history_304 (by decide) ?_
            exact jl_history_317 X hE _ (hr117) _ _ _ _ _ _ _ _ _ _ _ _ _ hf _ _ _ h (lv_sub hl [1, 2, 3, 4, 5, 6, 7, 8, 9, 10, 11, 13, 14, 15, 0] rfl)
def f_L_history_269 (d : Dk) (b : (Nat → Int32)) (w : (Nat → Int32)) (r117 : Int32 → Int32 → Int32 → Int32 → Int32 → Int32 → Option (Int32)) (x3 : Int32) (x4 : Int32) (x5 : Int32) (x6 : Int32) (x8 : Int32) (x9 : Int32) (x10 : Int32) (x11 : Int32) (x12 : Int32) (x13 : Int32) (x14 : Int32) (x15 : Int32) : Option (Int32) := (f_L_history_270 d b w r117 x3 x4 x5 x6 x8 x9 x10 x11 x12 x13 x14 x15 (0 : Int32))
set_option maxHeartbeats 1000000 in
set_option maxRecDepth 100000 in
theorem jl_history_269  {d : Dk} {b : (Nat → Int32)} {w : (Nat → Int32)} (X : LCx p l s m args meth c cL_history 20 D cA A) (hE : ∀ (z : Int32) (pc : Nat) (H : Heap) (locs : List Loc) (ls : Array Slot) (cells slots : Nat), (z = 0 ∨ z = 1) → decode cL_history pc = .ok (.ireturn, 1) → cells ≤ 5 → slots ≤ 30 → St D A s.heap (kbW q0 q cA d ab aw b w) H locs → W p l e rm_L_history s m args below meth c H locs cells slots (Qf z) (F0 m pc ls [.int z])) (r117 : Int32 → Int32 → Int32 → Int32 → Int32 → Int32 → Option (Int32)) (hr117 : ∀ (x3 : Int32) (x4 : Int32) (x5 : Int32) (x6 : Int32) (x7 : Int32) (x8 : Int32) (z : Int32), r117 x3 x4 x5 x6 x7 x8 = some z → ∀ (H : Heap) (locs : List Loc) (ls : Array Slot), St D A s.heap (kbW q0 q cA d ab aw b w) H locs → lv_has ls 20 [(0, .ref (q0 0)), (1, .ref (ab)), (2, .ref (aw)), (3, .int x3), (4, .int x4), (5, .int x5), (6, .int x6), (7, .int x7), (8, .int x8)] → W p l e rm_L_history s m args below meth c H locs 5 30 (Qf z) (F0 m 117 ls [])) (x3 : Int32) (x4 : Int32) (x5 : Int32) (x6 : Int32) (x8 : Int32) (x9 : Int32) (x10 : Int32) (x11 : Int32) (x12 : Int32) (x13 : Int32) (x14 : Int32) (x15 : Int32) (z : Int32) (hf : f_L_history_269 d b w r117 x3 x4 x5 x6 x8 x9 x10 x11 x12 x13 x14 x15 = some z) (H : Heap) (locs : List Loc) (ls : Array Slot) (h : St D A s.heap (kbW q0 q cA d ab aw b w) H locs) (hl : lv_has ls 20 [(0, .ref (q0 0)), (1, .ref (ab)), (2, .ref (aw)), (3, .int x3), (4, .int x4), (5, .int x5), (6, .int x6), (8, .int x8), (9, .int x9), (10, .int x10), (11, .int x11), (12, .int x12), (13, .int x13), (14, .int x14), (15, .int x15)]) : W p l e rm_L_history s m args below meth c H locs 5 30 (Qf z) (F0 m 269 ls []) := by
  obtain ⟨C, hl0, hXA, hN⟩ := id X
  obtain ⟨hx, hb, hml, hown, hts, hK, hlk⟩ := id C
  rw [f_L_history_269] at hf
  refine lv_iconst (pc := 269) (v := 0) hx hb dL_history_269 (by decide) ?_
  exact jl_history_270 X hE _ (hr117) _ _ _ _ _ _ _ _ _ _ _ _ _ _ hf _ _ _ h (lv_sub hl [0, 1, 2, 3, 4, 5, 6, 7, 8, 9, 10, 11, 12, 13, 14] rfl)
def f_L_history_216 (d : Dk) (b : (Nat → Int32)) (w : (Nat → Int32)) (r117 : Int32 → Int32 → Int32 → Int32 → Int32 → Int32 → Option (Int32)) (x3 : Int32) (x4 : Int32) (x5 : Int32) (x6 : Int32) (x8 : Int32) (x9 : Int32) (x10 : Int32) (x11 : Int32) (s0 : Int32) : Option (Int32) := ((gn_openBehind d x3 x8).bind fun z1 => ((gn_openBehind d x3 (x8 + (1 : Int32))).bind fun z2 => (if x9 = 0 then (f_L_history_270 d b w r117 x3 x4 x5 x6 x8 x9 x10 x11 s0 ((s0 / (13 : Int32)) - (1 : Int32)) z1 z2 (1 : Int32)) else (if x9 ≤ (3 : Int32) then (f_L_history_269 d b w r117 x3 x4 x5 x6 x8 x9 x10 x11 s0 ((s0 / (13 : Int32)) - (1 : Int32)) z1 z2) else (if (6 : Int32) ≤ x9 then (f_L_history_269 d b w r117 x3 x4 x5 x6 x8 x9 x10 x11 s0 ((s0 / (13 : Int32)) - (1 : Int32)) z1 z2) else (f_L_history_270 d b w r117 x3 x4 x5 x6 x8 x9 x10 x11 s0 ((s0 / (13 : Int32)) - (1 : Int32)) z1 z2 (1 : Int32)))))))
set_option maxHeartbeats 1000000 in
set_option maxRecDepth 100000 in
theorem jl_history_216  {d : Dk} {b : (Nat → Int32)} {w : (Nat → Int32)} (X : LCx p l s m args meth c cL_history 20 D cA A) (hE : ∀ (z : Int32) (pc : Nat) (H : Heap) (locs : List Loc) (ls : Array Slot) (cells slots : Nat), (z = 0 ∨ z = 1) → decode cL_history pc = .ok (.ireturn, 1) → cells ≤ 5 → slots ≤ 30 → St D A s.heap (kbW q0 q cA d ab aw b w) H locs → W p l e rm_L_history s m args below meth c H locs cells slots (Qf z) (F0 m pc ls [.int z])) (r117 : Int32 → Int32 → Int32 → Int32 → Int32 → Int32 → Option (Int32)) (hr117 : ∀ (x3 : Int32) (x4 : Int32) (x5 : Int32) (x6 : Int32) (x7 : Int32) (x8 : Int32) (z : Int32), r117 x3 x4 x5 x6 x7 x8 = some z → ∀ (H : Heap) (locs : List Loc) (ls : Array Slot), St D A s.heap (kbW q0 q cA d ab aw b w) H locs → lv_has ls 20 [(0, .ref (q0 0)), (1, .ref (ab)), (2, .ref (aw)), (3, .int x3), (4, .int x4), (5, .int x5), (6, .int x6), (7, .int x7), (8, .int x8)] → W p l e rm_L_history s m args below meth c H locs 5 30 (Qf z) (F0 m 117 ls [])) (x3 : Int32) (x4 : Int32) (x5 : Int32) (x6 : Int32) (x8 : Int32) (x9 : Int32) (x10 : Int32) (x11 : Int32) (s0 : Int32) (z : Int32) (hf : f_L_history_216 d b w r117 x3 x4 x5 x6 x8 x9 x10 x11 s0 = some z) (H : Heap) (locs : List Loc) (ls : Array Slot) (h : St D A s.heap (kbW q0 q cA d ab aw b w) H locs) (hl : lv_has ls 20 [(0, .ref (q0 0)), (1, .ref (ab)), (2, .ref (aw)), (3, .int x3), (4, .int x4), (5, .int x5), (6, .int x6), (8, .int x8), (9, .int x9), (10, .int x10), (11, .int x11)]) : W p l e rm_L_history s m args below meth c H locs 5 30 (Qf z) (F0 m 216 ls [.int s0]) := by
  obtain ⟨C, hl0, hXA, hN⟩ := id X
  obtain ⟨hx, hb, hml, hown, hts, hK, hlk⟩ := id C
  rw [f_L_history_216] at hf
  refine lv_istore (pc := 216) (lv' := [(12, .int s0), (0, .ref (q0 0)), (1, .ref (ab)), (2, .ref (aw)), (3, .int x3), (4, .int x4), (5, .int x5), (6, .int x6), (8, .int x8), (9, .int x9), (10, .int x10), (11, .int x11)]) hx hb dL_history_216 hl (by decide) rfl (fun ls hl => ?_)
  refine lv_iload (pc := 218) hx hb dL_history_218 (lv_at hl 0 rfl) ?_
  refine lv_bipush (pc := 220) (v := 13) hx hb dL_history_220 (by decide) ?_
  refine lv_idiv (pc := 222) hx hb dL_history_222 (by decide) ?_
  refine lv_iconst (pc := 223) (v := 1) hx hb dL_history_223 (by decide) ?_
  refine lv_isub (pc := 224) hx hb dL_history_224 ?_
  refine lv_istore (pc := 225) (lv' := [(13, .int ((s0 / (13 : Int32)) - (1 : Int32))), (12, .int s0), (0, .ref (q0 0)), (1, .ref (ab)), (2, .ref (aw)), (3, .int x3), (4, .int x4), (5, .int x5), (6, .int x6), (8, .int x8), (9, .int x9), (10, .int x10), (11, .int x11)]) hx hb dL_history_225 hl (by decide) rfl (fun ls hl => ?_)
  refine lv_aload_n (pc := 227) hx hb dL_history_227 rfl (lv_at hl 2 rfl) ?_
  refine lv_iload_n (pc := 228) hx hb dL_history_228 rfl (lv_at hl 5 rfl) ?_
  refine lv_iload (pc := 229) hx hb dL_history_229 (lv_at hl 9 rfl) ?_
  obtain ⟨z1, hc1, hf⟩ := bdS hf
  refine call_H (pc := 231) (As := [.ref (q0 0), .int x3, .int x8]) (rest := []) (ws' := (kbW q0 q cA d ab aw b w)) X h (vn_openBehind d x3 x8 hc1) cx_L_170 (kbW_o q0 q cA d ab aw b w) (kbW_o q0 q cA d ab aw b w).symm rfl rfl rfl hl.1 (Nat.le_of_ble_eq_true rfl) dL_history_231 ⟨(Nat.le_of_ble_eq_true rfl), (Nat.le_of_ble_eq_true rfl)⟩ rfl rfl ⟨(Nat.le_of_ble_eq_true rfl), (Nat.le_of_ble_eq_true rfl)⟩ (fun H locs h => ?_)
  refine W.eq (g2 := F0 m 234 ls [.int z1]) rfl ?_
  refine lv_istore (pc := 234) (lv' := [(14, .int z1), (13, .int ((s0 / (13 : Int32)) - (1 : Int32))), (12, .int s0), (0, .ref (q0 0)), (1, .ref (ab)), (2, .ref (aw)), (3, .int x3), (4, .int x4), (5, .int x5), (6, .int x6), (8, .int x8), (9, .int x9), (10, .int x10), (11, .int x11)]) hx hb dL_history_234 hl (by decide) rfl (fun ls hl => ?_)
  refine lv_aload_n (pc := 236) hx hb dL_history_236 rfl (lv_at hl 3 rfl) ?_
  refine lv_iload_n (pc := 237) hx hb dL_history_237 rfl (lv_at hl 6 rfl) ?_
  refine lv_iload (pc := 238) hx hb dL_history_238 (lv_at hl 10 rfl) ?_
  refine lv_iconst (pc := 240) (v := 1) hx hb dL_history_240 (by decide) ?_
  refine lv_iadd (pc := 241) hx hb dL_history_241 ?_
  obtain ⟨z2, hc2, hf⟩ := bdS hf
  refine call_H (pc := 242) (As := [.ref (q0 0), .int x3, .int (x8 + (1 : Int32))]) (rest := []) (ws' := (kbW q0 q cA d ab aw b w)) X h (vn_openBehind d x3 (x8 + (1 : Int32)) hc2) cx_L_170 (kbW_o q0 q cA d ab aw b w) (kbW_o q0 q cA d ab aw b w).symm rfl rfl rfl hl.1 (Nat.le_of_ble_eq_true rfl) dL_history_242 ⟨(Nat.le_of_ble_eq_true rfl), (Nat.le_of_ble_eq_true rfl)⟩ rfl rfl ⟨(Nat.le_of_ble_eq_true rfl), (Nat.le_of_ble_eq_true rfl)⟩ (fun H locs h => ?_)
  refine W.eq (g2 := F0 m 245 ls [.int z2]) rfl ?_
  refine lv_istore (pc := 245) (lv' := [(15, .int z2), (14, .int z1), (13, .int ((s0 / (13 : Int32)) - (1 : Int32))), (12, .int s0), (0, .ref (q0 0)), (1, .ref (ab)), (2, .ref (aw)), (3, .int x3), (4, .int x4), (5, .int x5), (6, .int x6), (8, .int x8), (9, .int x9), (10, .int x10), (11, .int x11)]) hx hb dL_history_245 hl (by decide) rfl (fun ls hl => ?_)
  refine lv_iload (pc := 247) hx hb dL_history_247 (lv_at hl 12 rfl) ?_
  refine lv_if_eq (pc := 249) (tgt := 265) hx hb dL_history_249 (by decide) (fun c9 => ?_) (fun c9 => ?_)
  · have hf := ifT c9 hf
    refine lv_iconst (pc := 265) (v := 1) hx hb dL_history_265 (by decide) ?_
    refine lv_goto (pc := 266) (tgt := 270) hx hb dL_history_266 (by decide) ?_
    exact jl_history_270 X hE _ (hr117) _ _ _ _ _ _ _ _ _ _ _ _ _ _ hf _ _ _ h (lv_sub hl [4, 5, 6, 7, 8, 9, 10, 11, 12, 13, 14, 3, 2, 1, 0] rfl)
  · have hf := ifF c9 hf
    refine lv_iload (pc := 252) hx hb dL_history_252 (lv_at hl 12 rfl) ?_
    refine lv_iconst (pc := 254) (v := 3) hx hb dL_history_254 (by decide) ?_
    refine lv_icmp_le (pc := 255) (tgt := 269) hx hb dL_history_255 (by decide) (fun c9 => ?_) (fun c9 => ?_)
    · have hf := ifT c9 hf
      exact jl_history_269 X hE _ (hr117) _ _ _ _ _ _ _ _ _ _ _ _ _ hf _ _ _ h (lv_sub hl [4, 5, 6, 7, 8, 9, 10, 11, 12, 13, 14, 3, 2, 1, 0] rfl)
    · have hf := ifF c9 hf
      refine lv_iload (pc := 258) hx hb dL_history_258 (lv_at hl 12 rfl) ?_
      refine lv_bipush (pc := 260) (v := 6) hx hb dL_history_260 (by decide) ?_
      refine lv_icmp_ge (pc := 262) (tgt := 269) hx hb dL_history_262 (by decide) (fun c9 => ?_) (fun c9 => ?_)
      · have hf := ifT c9 hf
        exact jl_history_269 X hE _ (hr117) _ _ _ _ _ _ _ _ _ _ _ _ _ hf _ _ _ h (lv_sub hl [4, 5, 6, 7, 8, 9, 10, 11, 12, 13, 14, 3, 2, 1, 0] rfl)
      · have hf := ifF c9 hf
        refine lv_iconst (pc := 265) (v := 1) hx hb dL_history_265 (by decide) ?_
        refine lv_goto (pc := 266) (tgt := 270) hx hb dL_history_266 (by decide) ?_
        exact jl_history_270 X hE _ (hr117) _ _ _ _ _ _ _ _ _ _ _ _ _ _ hf _ _ _ h (lv_sub hl [4, 5, 6, 7, 8, 9, 10, 11, 12, 13, 14, 3, 2, 1, 0] rfl)
def f_L_history_117 (d : Dk) (b : (Nat → Int32)) (w : (Nat → Int32)) : Nat → Int32 → Int32 → Int32 → Int32 → Int32 → Int32 → Option (Int32)
  | 0, _, _, _, _, _, _ => none
  | n + 1, x3, x4, x5, x6, x7, x8 => (if x4 ≤ x8 then (if x7 = 0 ∨ x7 = 1 then (some x7) else none) else (if x7 = 0 then (if x7 = 0 ∨ x7 = 1 then (some x7) else none) else ((gn_kindOf d x3 x8).bind fun z1 => ((gn_personOf d x3 x8).bind fun z2 => ((gn_dayOf d x3 x8).bind fun z3 => ((gn_seal d x3 (x8 + (1 : Int32))).bind fun z4 => ((gn_seal d x3 x8).bind fun z5 => (if 0 ≤ (z4 - ((((((31 : Int32) * z5) + ((7 : Int32) * z1)) + ((11 : Int32) * (z2 + (1 : Int32)))) + ((17 : Int32) * z3)) - (((((31 : Int32) * z5) + ((7 : Int32) * z1)) + ((11 : Int32) * (z2 + (1 : Int32)))) + ((17 : Int32) * z3)) / (65521 : Int32) * (65521 : Int32))) then (f_L_history_216 d b w (f_L_history_117 d b w n) x3 x4 x5 x6 x8 z1 z2 z3 (z4 - ((((((31 : Int32) * z5) + ((7 : Int32) * z1)) + ((11 : Int32) * (z2 + (1 : Int32)))) + ((17 : Int32) * z3)) - (((((31 : Int32) * z5) + ((7 : Int32) * z1)) + ((11 : Int32) * (z2 + (1 : Int32)))) + ((17 : Int32) * z3)) / (65521 : Int32) * (65521 : Int32)))) else (f_L_history_216 d b w (f_L_history_117 d b w n) x3 x4 x5 x6 x8 z1 z2 z3 ((z4 - ((((((31 : Int32) * z5) + ((7 : Int32) * z1)) + ((11 : Int32) * (z2 + (1 : Int32)))) + ((17 : Int32) * z3)) - (((((31 : Int32) * z5) + ((7 : Int32) * z1)) + ((11 : Int32) * (z2 + (1 : Int32)))) + ((17 : Int32) * z3)) / (65521 : Int32) * (65521 : Int32))) + (65521 : Int32)))))))))))
set_option maxHeartbeats 1000000 in
set_option maxRecDepth 100000 in
theorem jl_history_117  {d : Dk} {b : (Nat → Int32)} {w : (Nat → Int32)} (X : LCx p l s m args meth c cL_history 20 D cA A) (hE : ∀ (z : Int32) (pc : Nat) (H : Heap) (locs : List Loc) (ls : Array Slot) (cells slots : Nat), (z = 0 ∨ z = 1) → decode cL_history pc = .ok (.ireturn, 1) → cells ≤ 5 → slots ≤ 30 → St D A s.heap (kbW q0 q cA d ab aw b w) H locs → W p l e rm_L_history s m args below meth c H locs cells slots (Qf z) (F0 m pc ls [.int z])) : ∀ (n : Nat) (x3 : Int32) (x4 : Int32) (x5 : Int32) (x6 : Int32) (x7 : Int32) (x8 : Int32) (z : Int32), f_L_history_117 d b w n x3 x4 x5 x6 x7 x8 = some z → ∀ (H : Heap) (locs : List Loc) (ls : Array Slot), St D A s.heap (kbW q0 q cA d ab aw b w) H locs → lv_has ls 20 [(0, .ref (q0 0)), (1, .ref (ab)), (2, .ref (aw)), (3, .int x3), (4, .int x4), (5, .int x5), (6, .int x6), (7, .int x7), (8, .int x8)] → W p l e rm_L_history s m args below meth c H locs 5 30 (Qf z) (F0 m 117 ls []) := by
  obtain ⟨C, hl0, hXA, hN⟩ := id X
  obtain ⟨hx, hb, hml, hown, hts, hK, hlk⟩ := id C
  intro n
  induction n with
  | zero => intro x3 x4 x5 x6 x7 x8 z hf; rw [f_L_history_117] at hf; cases hf
  | succ n ih =>
    intro x3 x4 x5 x6 x7 x8 z hf H locs ls h hl
    rw [f_L_history_117] at hf
    refine lv_iload (pc := 117) hx hb dL_history_117 (lv_at hl 8 rfl) ?_
    refine lv_iload (pc := 119) hx hb dL_history_119 (lv_at hl 4 rfl) ?_
    refine lv_icmp_ge (pc := 121) (tgt := 655) hx hb dL_history_121 (by decide) (fun c9 => ?_) (fun c9 => ?_)
    · have hf := ifT c9 hf
      refine lv_iload (pc := 655) hx hb dL_history_655 (lv_at hl 7 rfl) ?_
      obtain ⟨hbo, hf⟩ := ifS hf
      cases hf
      exact hE x7 657 _ _ _ _ _ hbo dL_history_657 (Nat.le_of_ble_eq_true rfl) (Nat.le_of_ble_eq_true rfl) h
    · have hf := ifF c9 hf
      refine lv_iload (pc := 124) hx hb dL_history_124 (lv_at hl 7 rfl) ?_
      refine lv_if_eq (pc := 126) (tgt := 655) hx hb dL_history_126 (by decide) (fun c9 => ?_) (fun c9 => ?_)
      · have hf := ifT c9 hf
        refine lv_iload (pc := 655) hx hb dL_history_655 (lv_at hl 7 rfl) ?_
        obtain ⟨hbo, hf⟩ := ifS hf
        cases hf
        exact hE x7 657 _ _ _ _ _ hbo dL_history_657 (Nat.le_of_ble_eq_true rfl) (Nat.le_of_ble_eq_true rfl) h
      · have hf := ifF c9 hf
        refine lv_aload_n (pc := 129) hx hb dL_history_129 rfl (lv_at hl 0 rfl) ?_
        refine lv_iload_n (pc := 130) hx hb dL_history_130 rfl (lv_at hl 3 rfl) ?_
        refine lv_iload (pc := 131) hx hb dL_history_131 (lv_at hl 8 rfl) ?_
        obtain ⟨z1, hc1, hf⟩ := bdS hf
        refine call_H (pc := 133) (As := [.ref (q0 0), .int x3, .int x8]) (rest := []) (ws' := (kbW q0 q cA d ab aw b w)) X h (vn_kindOf d x3 x8 hc1) cx_L_177 (kbW_o q0 q cA d ab aw b w) (kbW_o q0 q cA d ab aw b w).symm rfl rfl rfl hl.1 (Nat.le_of_ble_eq_true rfl) dL_history_133 ⟨(Nat.le_of_ble_eq_true rfl), (Nat.le_of_ble_eq_true rfl)⟩ rfl rfl ⟨(Nat.le_of_ble_eq_true rfl), (Nat.le_of_ble_eq_true rfl)⟩ (fun H locs h => ?_)
        refine W.eq (g2 := F0 m 136 ls [.int z1]) rfl ?_
        refine lv_istore (pc := 136) (lv' := [(9, .int z1), (0, .ref (q0 0)), (1, .ref (ab)), (2, .ref (aw)), (3, .int x3), (4, .int x4), (5, .int x5), (6, .int x6), (7, .int x7), (8, .int x8)]) hx hb dL_history_136 hl (by decide) rfl (fun ls hl => ?_)
        refine lv_aload_n (pc := 138) hx hb dL_history_138 rfl (lv_at hl 1 rfl) ?_
        refine lv_iload_n (pc := 139) hx hb dL_history_139 rfl (lv_at hl 4 rfl) ?_
        refine lv_iload (pc := 140) hx hb dL_history_140 (lv_at hl 9 rfl) ?_
        obtain ⟨z2, hc2, hf⟩ := bdS hf
        refine call_H (pc := 142) (As := [.ref (q0 0), .int x3, .int x8]) (rest := []) (ws' := (kbW q0 q cA d ab aw b w)) X h (vn_personOf d x3 x8 hc2) cx_L_179 (kbW_o q0 q cA d ab aw b w) (kbW_o q0 q cA d ab aw b w).symm rfl rfl rfl hl.1 (Nat.le_of_ble_eq_true rfl) dL_history_142 ⟨(Nat.le_of_ble_eq_true rfl), (Nat.le_of_ble_eq_true rfl)⟩ rfl rfl ⟨(Nat.le_of_ble_eq_true rfl), (Nat.le_of_ble_eq_true rfl)⟩ (fun H locs h => ?_)
        refine W.eq (g2 := F0 m 145 ls [.int z2]) rfl ?_
        refine lv_istore (pc := 145) (lv' := [(10, .int z2), (9, .int z1), (0, .ref (q0 0)), (1, .ref (ab)), (2, .ref (aw)), (3, .int x3), (4, .int x4), (5, .int x5), (6, .int x6), (7, .int x7), (8, .int x8)]) hx hb dL_history_145 hl (by decide) rfl (fun ls hl => ?_)
        refine lv_aload_n (pc := 147) hx hb dL_history_147 rfl (lv_at hl 2 rfl) ?_
        refine lv_iload_n (pc := 148) hx hb dL_history_148 rfl (lv_at hl 5 rfl) ?_
        refine lv_iload (pc := 149) hx hb dL_history_149 (lv_at hl 10 rfl) ?_
        obtain ⟨z3, hc3, hf⟩ := bdS hf
        refine call_H (pc := 151) (As := [.ref (q0 0), .int x3, .int x8]) (rest := []) (ws' := (kbW q0 q cA d ab aw b w)) X h (vn_dayOf d x3 x8 hc3) cx_L_181 (kbW_o q0 q cA d ab aw b w) (kbW_o q0 q cA d ab aw b w).symm rfl rfl rfl hl.1 (Nat.le_of_ble_eq_true rfl) dL_history_151 ⟨(Nat.le_of_ble_eq_true rfl), (Nat.le_of_ble_eq_true rfl)⟩ rfl rfl ⟨(Nat.le_of_ble_eq_true rfl), (Nat.le_of_ble_eq_true rfl)⟩ (fun H locs h => ?_)
        refine W.eq (g2 := F0 m 154 ls [.int z3]) rfl ?_
        refine lv_istore (pc := 154) (lv' := [(11, .int z3), (10, .int z2), (9, .int z1), (0, .ref (q0 0)), (1, .ref (ab)), (2, .ref (aw)), (3, .int x3), (4, .int x4), (5, .int x5), (6, .int x6), (7, .int x7), (8, .int x8)]) hx hb dL_history_154 hl (by decide) rfl (fun ls hl => ?_)
        refine lv_aload_n (pc := 156) hx hb dL_history_156 rfl (lv_at hl 3 rfl) ?_
        refine lv_iload_n (pc := 157) hx hb dL_history_157 rfl (lv_at hl 6 rfl) ?_
        refine lv_iload (pc := 158) hx hb dL_history_158 (lv_at hl 11 rfl) ?_
        refine lv_iconst (pc := 160) (v := 1) hx hb dL_history_160 (by decide) ?_
        refine lv_iadd (pc := 161) hx hb dL_history_161 ?_
        obtain ⟨z4, hc4, hf⟩ := bdS hf
        refine call_H (pc := 162) (As := [.ref (q0 0), .int x3, .int (x8 + (1 : Int32))]) (rest := []) (ws' := (kbW q0 q cA d ab aw b w)) X h (vn_seal d x3 (x8 + (1 : Int32)) hc4) cx_L_143 (kbW_o q0 q cA d ab aw b w) (kbW_o q0 q cA d ab aw b w).symm rfl rfl rfl hl.1 (Nat.le_of_ble_eq_true rfl) dL_history_162 ⟨(Nat.le_of_ble_eq_true rfl), (Nat.le_of_ble_eq_true rfl)⟩ rfl rfl ⟨(Nat.le_of_ble_eq_true rfl), (Nat.le_of_ble_eq_true rfl)⟩ (fun H locs h => ?_)
        refine W.eq (g2 := F0 m 165 ls [.int z4]) rfl ?_
        refine lv_bipush (pc := 165) (v := 31) hx hb dL_history_165 (by decide) ?_
        refine lv_aload_n (pc := 167) hx hb dL_history_167 rfl (lv_at hl 3 rfl) ?_
        refine lv_iload_n (pc := 168) hx hb dL_history_168 rfl (lv_at hl 6 rfl) ?_
        refine lv_iload (pc := 169) hx hb dL_history_169 (lv_at hl 11 rfl) ?_
        obtain ⟨z5, hc5, hf⟩ := bdS hf
        refine call_H (pc := 171) (As := [.ref (q0 0), .int x3, .int x8]) (rest := [.int (31 : Int32), .int z4]) (ws' := (kbW q0 q cA d ab aw b w)) X h (vn_seal d x3 x8 hc5) cx_L_143 (kbW_o q0 q cA d ab aw b w) (kbW_o q0 q cA d ab aw b w).symm rfl rfl rfl hl.1 (Nat.le_of_ble_eq_true rfl) dL_history_171 ⟨(Nat.le_of_ble_eq_true rfl), (Nat.le_of_ble_eq_true rfl)⟩ rfl rfl ⟨(Nat.le_of_ble_eq_true rfl), (Nat.le_of_ble_eq_true rfl)⟩ (fun H locs h => ?_)
        refine W.eq (g2 := F0 m 174 ls [.int z5, .int (31 : Int32), .int z4]) rfl ?_
        refine lv_imul (pc := 174) hx hb dL_history_174 ?_
        refine lv_bipush (pc := 175) (v := 7) hx hb dL_history_175 (by decide) ?_
        refine lv_iload (pc := 177) hx hb dL_history_177 (lv_at hl 2 rfl) ?_
        refine lv_imul (pc := 179) hx hb dL_history_179 ?_
        refine lv_iadd (pc := 180) hx hb dL_history_180 ?_
        refine lv_bipush (pc := 181) (v := 11) hx hb dL_history_181 (by decide) ?_
        refine lv_iload (pc := 183) hx hb dL_history_183 (lv_at hl 1 rfl) ?_
        refine lv_iconst (pc := 185) (v := 1) hx hb dL_history_185 (by decide) ?_
        refine lv_iadd (pc := 186) hx hb dL_history_186 ?_
        refine lv_imul (pc := 187) hx hb dL_history_187 ?_
        refine lv_iadd (pc := 188) hx hb dL_history_188 ?_
        refine lv_bipush (pc := 189) (v := 17) hx hb dL_history_189 (by decide) ?_
        refine lv_iload (pc := 191) hx hb dL_history_191 (lv_at hl 0 rfl) ?_
        refine lv_imul (pc := 193) hx hb dL_history_193 ?_
        refine lv_iadd (pc := 194) hx hb dL_history_194 ?_
        refine lv_ldc (pc := 195) (v := 65521) hx hb hown (hts _ kc_L_183) dL_history_195 ?_
        refine lv_irem (pc := 197) hx hb dL_history_197 (by decide) ?_
        refine lv_isub (pc := 198) hx hb dL_history_198 ?_
        refine lv_istore (pc := 199) (lv' := [(12, .int (z4 - ((((((31 : Int32) * z5) + ((7 : Int32) * z1)) + ((11 : Int32) * (z2 + (1 : Int32)))) + ((17 : Int32) * z3)) - (((((31 : Int32) * z5) + ((7 : Int32) * z1)) + ((11 : Int32) * (z2 + (1 : Int32)))) + ((17 : Int32) * z3)) / (65521 : Int32) * (65521 : Int32)))), (11, .int z3), (10, .int z2), (9, .int z1), (0, .ref (q0 0)), (1, .ref (ab)), (2, .ref (aw)), (3, .int x3), (4, .int x4), (5, .int x5), (6, .int x6), (7, .int x7), (8, .int x8)]) hx hb dL_history_199 hl (by decide) rfl (fun ls hl => ?_)
        refine lv_iload (pc := 201) hx hb dL_history_201 (lv_at hl 0 rfl) ?_
        refine lv_if_ge (pc := 203) (tgt := 214) hx hb dL_history_203 (by decide) (fun c9 => ?_) (fun c9 => ?_)
        · have hf := ifT c9 hf
          refine lv_iload (pc := 214) hx hb dL_history_214 (lv_at hl 0 rfl) ?_
          exact jl_history_216 X hE _ (ih) _ _ _ _ _ _ _ _ _ _ hf _ _ _ h (lv_sub hl [4, 5, 6, 7, 8, 9, 10, 12, 3, 2, 1] rfl)
        · have hf := ifF c9 hf
          refine lv_iload (pc := 206) hx hb dL_history_206 (lv_at hl 0 rfl) ?_
          refine lv_ldc (pc := 208) (v := 65521) hx hb hown (hts _ kc_L_183) dL_history_208 ?_
          refine lv_iadd (pc := 210) hx hb dL_history_210 ?_
          refine lv_goto (pc := 211) (tgt := 216) hx hb dL_history_211 (by decide) ?_
          exact jl_history_216 X hE _ (ih) _ _ _ _ _ _ _ _ _ _ hf _ _ _ h (lv_sub hl [4, 5, 6, 7, 8, 9, 10, 12, 3, 2, 1] rfl)
def f_L_history_112 (d : Dk) (b : (Nat → Int32)) (w : (Nat → Int32)) (x3 : Int32) (x4 : Int32) (x5 : Int32) (x6 : Int32) (s0 : Int32) : Option (Int32) := (f_L_history_117 d b w FU x3 x4 x5 x6 s0 (0 : Int32))
set_option maxHeartbeats 1000000 in
set_option maxRecDepth 100000 in
theorem jl_history_112  {d : Dk} {b : (Nat → Int32)} {w : (Nat → Int32)} (X : LCx p l s m args meth c cL_history 20 D cA A) (hE : ∀ (z : Int32) (pc : Nat) (H : Heap) (locs : List Loc) (ls : Array Slot) (cells slots : Nat), (z = 0 ∨ z = 1) → decode cL_history pc = .ok (.ireturn, 1) → cells ≤ 5 → slots ≤ 30 → St D A s.heap (kbW q0 q cA d ab aw b w) H locs → W p l e rm_L_history s m args below meth c H locs cells slots (Qf z) (F0 m pc ls [.int z])) (x3 : Int32) (x4 : Int32) (x5 : Int32) (x6 : Int32) (s0 : Int32) (z : Int32) (hf : f_L_history_112 d b w x3 x4 x5 x6 s0 = some z) (H : Heap) (locs : List Loc) (ls : Array Slot) (h : St D A s.heap (kbW q0 q cA d ab aw b w) H locs) (hl : lv_has ls 20 [(0, .ref (q0 0)), (1, .ref (ab)), (2, .ref (aw)), (3, .int x3), (4, .int x4), (5, .int x5), (6, .int x6)]) : W p l e rm_L_history s m args below meth c H locs 5 30 (Qf z) (F0 m 112 ls [.int s0]) := by
  obtain ⟨C, hl0, hXA, hN⟩ := id X
  obtain ⟨hx, hb, hml, hown, hts, hK, hlk⟩ := id C
  rw [f_L_history_112] at hf
  refine lv_istore (pc := 112) (lv' := [(7, .int s0), (0, .ref (q0 0)), (1, .ref (ab)), (2, .ref (aw)), (3, .int x3), (4, .int x4), (5, .int x5), (6, .int x6)]) hx hb dL_history_112 hl (by decide) rfl (fun ls hl => ?_)
  refine lv_iconst (pc := 114) (v := 0) hx hb dL_history_114 (by decide) ?_
  refine lv_istore (pc := 115) (lv' := [(8, .int (0 : Int32)), (7, .int s0), (0, .ref (q0 0)), (1, .ref (ab)), (2, .ref (aw)), (3, .int x3), (4, .int x4), (5, .int x5), (6, .int x6)]) hx hb dL_history_115 hl (by decide) rfl (fun ls hl => ?_)
  exact jl_history_117 X hE   FU _ _ _ _ _ _ _ hf _ _ _ h (lv_sub hl [2, 3, 4, 5, 6, 7, 8, 1, 0] rfl)
def f_L_history_111 (d : Dk) (b : (Nat → Int32)) (w : (Nat → Int32)) (x3 : Int32) (x4 : Int32) (x5 : Int32) (x6 : Int32) : Option (Int32) := (f_L_history_112 d b w x3 x4 x5 x6 (0 : Int32))
set_option maxHeartbeats 1000000 in
set_option maxRecDepth 100000 in
theorem jl_history_111  {d : Dk} {b : (Nat → Int32)} {w : (Nat → Int32)} (X : LCx p l s m args meth c cL_history 20 D cA A) (hE : ∀ (z : Int32) (pc : Nat) (H : Heap) (locs : List Loc) (ls : Array Slot) (cells slots : Nat), (z = 0 ∨ z = 1) → decode cL_history pc = .ok (.ireturn, 1) → cells ≤ 5 → slots ≤ 30 → St D A s.heap (kbW q0 q cA d ab aw b w) H locs → W p l e rm_L_history s m args below meth c H locs cells slots (Qf z) (F0 m pc ls [.int z])) (x3 : Int32) (x4 : Int32) (x5 : Int32) (x6 : Int32) (z : Int32) (hf : f_L_history_111 d b w x3 x4 x5 x6 = some z) (H : Heap) (locs : List Loc) (ls : Array Slot) (h : St D A s.heap (kbW q0 q cA d ab aw b w) H locs) (hl : lv_has ls 20 [(0, .ref (q0 0)), (1, .ref (ab)), (2, .ref (aw)), (3, .int x3), (4, .int x4), (5, .int x5), (6, .int x6)]) : W p l e rm_L_history s m args below meth c H locs 5 30 (Qf z) (F0 m 111 ls []) := by
  obtain ⟨C, hl0, hXA, hN⟩ := id X
  obtain ⟨hx, hb, hml, hown, hts, hK, hlk⟩ := id C
  rw [f_L_history_111] at hf
  refine lv_iconst (pc := 111) (v := 0) hx hb dL_history_111 (by decide) ?_
  exact jl_history_112 X hE   _ _ _ _ _ _ hf _ _ _ h (lv_sub hl [0, 1, 2, 3, 4, 5, 6] rfl)
def f_L_history (d : Dk) (b : (Nat → Int32)) (w : (Nat → Int32)) (x3 : Int32) : Option (Int32) := ((gn_events d x3).bind fun z1 => ((gn_slots d x3).bind fun z2 => ((gn_stateBehind d x3 (0 : Int32)).bind fun z3 => (if z3 = 0 then ((gn_openBehind d x3 (0 : Int32)).bind fun z4 => (if z4 = 0 then ((gn_seal d x3 (0 : Int32)).bind fun z5 => (if z5 = (1 : Int32) then ((gm_seal d x3 (z1 + (1 : Int32))).bind fun z6 => (if z6 = (-1000001 : Int32) then ((gm_seal d x3 (-1 : Int32)).bind fun z7 => (if z7 = (-1000001 : Int32) then ((gm_kindOf d x3 z1).bind fun z8 => (if z8 = (-1000001 : Int32) then ((gm_stateBehind d x3 (z1 + (1 : Int32))).bind fun z9 => (if z9 = (-1000001 : Int32) then ((gm_openBehind d x3 (-1 : Int32)).bind fun z10 => (if z10 = (-1000001 : Int32) then (f_L_history_112 d b w x3 z1 (0 : Int32) z2 (1 : Int32)) else (f_L_history_111 d b w x3 z1 (0 : Int32) z2))) else (f_L_history_111 d b w x3 z1 (0 : Int32) z2))) else (f_L_history_111 d b w x3 z1 (0 : Int32) z2))) else (f_L_history_111 d b w x3 z1 (0 : Int32) z2))) else (f_L_history_111 d b w x3 z1 (0 : Int32) z2))) else (f_L_history_111 d b w x3 z1 (0 : Int32) z2))) else (f_L_history_111 d b w x3 z1 (0 : Int32) z2))) else (f_L_history_111 d b w x3 z1 (0 : Int32) z2)))))
set_option maxHeartbeats 1000000 in
set_option maxRecDepth 100000 in
theorem jl_history_0  {d : Dk} {b : (Nat → Int32)} {w : (Nat → Int32)} (X : LCx p l s m args meth c cL_history 20 D cA A) (hE : ∀ (z : Int32) (pc : Nat) (H : Heap) (locs : List Loc) (ls : Array Slot) (cells slots : Nat), (z = 0 ∨ z = 1) → decode cL_history pc = .ok (.ireturn, 1) → cells ≤ 5 → slots ≤ 30 → St D A s.heap (kbW q0 q cA d ab aw b w) H locs → W p l e rm_L_history s m args below meth c H locs cells slots (Qf z) (F0 m pc ls [.int z])) (x3 : Int32) (z : Int32) (hf : f_L_history d b w x3 = some z) (H : Heap) (locs : List Loc) (ls : Array Slot) (h : St D A s.heap (kbW q0 q cA d ab aw b w) H locs) (hl : lv_has ls 20 [(0, .ref (q0 0)), (1, .ref (ab)), (2, .ref (aw)), (3, .int x3)]) : W p l e rm_L_history s m args below meth c H locs 0 0 (Qf z) (F0 m 0 ls []) := by
  obtain ⟨C, hl0, hXA, hN⟩ := id X
  obtain ⟨hx, hb, hml, hown, hts, hK, hlk⟩ := id C
  rw [f_L_history] at hf
  refine lv_aload_n (pc := 0) hx hb dL_history_0 rfl (lv_at hl 0 rfl) ?_
  refine lv_iload_n (pc := 1) hx hb dL_history_1 rfl (lv_at hl 3 rfl) ?_
  obtain ⟨z1, hc1, hf⟩ := bdS hf
  refine call_H (pc := 2) (As := [.ref (q0 0), .int x3]) (rest := []) (ws' := (kbW q0 q cA d ab aw b w)) X h (vn_events d x3 hc1) cx_L_141 (kbW_o q0 q cA d ab aw b w) (kbW_o q0 q cA d ab aw b w).symm rfl rfl rfl hl.1 (Nat.le_of_ble_eq_true rfl) dL_history_2 ⟨(Nat.le_of_ble_eq_true rfl), (Nat.le_of_ble_eq_true rfl)⟩ rfl rfl ⟨(Nat.le_of_ble_eq_true rfl), (Nat.le_of_ble_eq_true rfl)⟩ (fun H locs h => ?_)
  refine W.eq (g2 := F0 m 5 ls [.int z1]) rfl ?_
  refine lv_istore (pc := 5) (lv' := [(4, .int z1), (0, .ref (q0 0)), (1, .ref (ab)), (2, .ref (aw)), (3, .int x3)]) hx hb dL_history_5 hl (by decide) rfl (fun ls hl => ?_)
  refine lv_iconst (pc := 7) (v := 0) hx hb dL_history_7 (by decide) ?_
  refine lv_istore (pc := 8) (lv' := [(5, .int (0 : Int32)), (4, .int z1), (0, .ref (q0 0)), (1, .ref (ab)), (2, .ref (aw)), (3, .int x3)]) hx hb dL_history_8 hl (by decide) rfl (fun ls hl => ?_)
  refine lv_aload_n (pc := 10) hx hb dL_history_10 rfl (lv_at hl 2 rfl) ?_
  refine lv_iload_n (pc := 11) hx hb dL_history_11 rfl (lv_at hl 5 rfl) ?_
  obtain ⟨z2, hc2, hf⟩ := bdS hf
  refine call_H (pc := 12) (As := [.ref (q0 0), .int x3]) (rest := []) (ws' := (kbW q0 q cA d ab aw b w)) X h (vn_slots d x3 hc2) cx_L_148 (kbW_o q0 q cA d ab aw b w) (kbW_o q0 q cA d ab aw b w).symm rfl rfl rfl hl.1 (Nat.le_of_ble_eq_true rfl) dL_history_12 ⟨(Nat.le_of_ble_eq_true rfl), (Nat.le_of_ble_eq_true rfl)⟩ rfl rfl ⟨(Nat.le_of_ble_eq_true rfl), (Nat.le_of_ble_eq_true rfl)⟩ (fun H locs h => ?_)
  refine W.eq (g2 := F0 m 15 ls [.int z2]) rfl ?_
  refine lv_istore (pc := 15) (lv' := [(6, .int z2), (5, .int (0 : Int32)), (4, .int z1), (0, .ref (q0 0)), (1, .ref (ab)), (2, .ref (aw)), (3, .int x3)]) hx hb dL_history_15 hl (by decide) rfl (fun ls hl => ?_)
  refine lv_aload_n (pc := 17) hx hb dL_history_17 rfl (lv_at hl 3 rfl) ?_
  refine lv_iload_n (pc := 18) hx hb dL_history_18 rfl (lv_at hl 6 rfl) ?_
  refine lv_iconst (pc := 19) (v := 0) hx hb dL_history_19 (by decide) ?_
  obtain ⟨z3, hc3, hf⟩ := bdS hf
  refine call_H (pc := 20) (As := [.ref (q0 0), .int x3, .int (0 : Int32)]) (rest := []) (ws' := (kbW q0 q cA d ab aw b w)) X h (vn_stateBehind d x3 (0 : Int32) hc3) cx_L_172 (kbW_o q0 q cA d ab aw b w) (kbW_o q0 q cA d ab aw b w).symm rfl rfl rfl hl.1 (Nat.le_of_ble_eq_true rfl) dL_history_20 ⟨(Nat.le_of_ble_eq_true rfl), (Nat.le_of_ble_eq_true rfl)⟩ rfl rfl ⟨(Nat.le_of_ble_eq_true rfl), (Nat.le_of_ble_eq_true rfl)⟩ (fun H locs h => ?_)
  refine W.eq (g2 := F0 m 23 ls [.int z3]) rfl ?_
  refine lv_if_ne (pc := 23) (tgt := 111) hx hb dL_history_23 (by decide) (fun c9 => ?_) (fun c9 => ?_)
  · have hf := ifF c9 hf
    exact W.widen (Nat.le_of_ble_eq_true rfl : 0 ≤ 5) (Nat.le_of_ble_eq_true rfl : 0 ≤ 30) (jl_history_111 X hE   _ _ _ _ _ hf _ _ _ h (lv_sub hl [3, 4, 5, 6, 2, 1, 0] rfl))
  · have hf := ifT c9 hf
    refine lv_aload_n (pc := 26) hx hb dL_history_26 rfl (lv_at hl 3 rfl) ?_
    refine lv_iload_n (pc := 27) hx hb dL_history_27 rfl (lv_at hl 6 rfl) ?_
    refine lv_iconst (pc := 28) (v := 0) hx hb dL_history_28 (by decide) ?_
    obtain ⟨z4, hc4, hf⟩ := bdS hf
    refine call_H (pc := 29) (As := [.ref (q0 0), .int x3, .int (0 : Int32)]) (rest := []) (ws' := (kbW q0 q cA d ab aw b w)) X h (vn_openBehind d x3 (0 : Int32) hc4) cx_L_170 (kbW_o q0 q cA d ab aw b w) (kbW_o q0 q cA d ab aw b w).symm rfl rfl rfl hl.1 (Nat.le_of_ble_eq_true rfl) dL_history_29 ⟨(Nat.le_of_ble_eq_true rfl), (Nat.le_of_ble_eq_true rfl)⟩ rfl rfl ⟨(Nat.le_of_ble_eq_true rfl), (Nat.le_of_ble_eq_true rfl)⟩ (fun H locs h => ?_)
    refine W.eq (g2 := F0 m 32 ls [.int z4]) rfl ?_
    refine lv_if_ne (pc := 32) (tgt := 111) hx hb dL_history_32 (by decide) (fun c9 => ?_) (fun c9 => ?_)
    · have hf := ifF c9 hf
      exact W.widen (Nat.le_of_ble_eq_true rfl : 0 ≤ 5) (Nat.le_of_ble_eq_true rfl : 0 ≤ 30) (jl_history_111 X hE   _ _ _ _ _ hf _ _ _ h (lv_sub hl [3, 4, 5, 6, 2, 1, 0] rfl))
    · have hf := ifT c9 hf
      refine lv_aload_n (pc := 35) hx hb dL_history_35 rfl (lv_at hl 3 rfl) ?_
      refine lv_iload_n (pc := 36) hx hb dL_history_36 rfl (lv_at hl 6 rfl) ?_
      refine lv_iconst (pc := 37) (v := 0) hx hb dL_history_37 (by decide) ?_
      obtain ⟨z5, hc5, hf⟩ := bdS hf
      refine call_H (pc := 38) (As := [.ref (q0 0), .int x3, .int (0 : Int32)]) (rest := []) (ws' := (kbW q0 q cA d ab aw b w)) X h (vn_seal d x3 (0 : Int32) hc5) cx_L_143 (kbW_o q0 q cA d ab aw b w) (kbW_o q0 q cA d ab aw b w).symm rfl rfl rfl hl.1 (Nat.le_of_ble_eq_true rfl) dL_history_38 ⟨(Nat.le_of_ble_eq_true rfl), (Nat.le_of_ble_eq_true rfl)⟩ rfl rfl ⟨(Nat.le_of_ble_eq_true rfl), (Nat.le_of_ble_eq_true rfl)⟩ (fun H locs h => ?_)
      refine W.eq (g2 := F0 m 41 ls [.int z5]) rfl ?_
      refine lv_iconst (pc := 41) (v := 1) hx hb dL_history_41 (by decide) ?_
      refine lv_icmp_ne (pc := 42) (tgt := 111) hx hb dL_history_42 (by decide) (fun c9 => ?_) (fun c9 => ?_)
      · have hf := ifF c9 hf
        exact W.widen (Nat.le_of_ble_eq_true rfl : 0 ≤ 5) (Nat.le_of_ble_eq_true rfl : 0 ≤ 30) (jl_history_111 X hE   _ _ _ _ _ hf _ _ _ h (lv_sub hl [3, 4, 5, 6, 2, 1, 0] rfl))
      · have hf := ifT c9 hf
        refine lv_aload_n (pc := 45) hx hb dL_history_45 rfl (lv_at hl 3 rfl) ?_
        refine lv_iload_n (pc := 46) hx hb dL_history_46 rfl (lv_at hl 6 rfl) ?_
        refine lv_iload (pc := 47) hx hb dL_history_47 (lv_at hl 2 rfl) ?_
        refine lv_iconst (pc := 49) (v := 1) hx hb dL_history_49 (by decide) ?_
        refine lv_iadd (pc := 50) hx hb dL_history_50 ?_
        obtain ⟨z6, hc6, hf⟩ := bdS hf
        refine call_H (pc := 51) (As := [.ref (q0 0), .int x3, .int (z1 + (1 : Int32))]) (rest := []) (ws' := (kbW q0 q cA d ab aw b w)) X h (vm_seal d x3 (z1 + (1 : Int32)) hc6) cx_L_143 (kbW_o q0 q cA d ab aw b w) (kbW_o q0 q cA d ab aw b w).symm rfl rfl rfl hl.1 (Nat.le_of_ble_eq_true rfl) dL_history_51 ⟨(Nat.le_of_ble_eq_true rfl), (Nat.le_of_ble_eq_true rfl)⟩ rfl rfl ⟨(Nat.le_of_ble_eq_true rfl), (Nat.le_of_ble_eq_true rfl)⟩ (fun H locs h => ?_)
        refine W.eq (g2 := F0 m 54 ls [.int z6]) rfl ?_
        refine lv_ldc (pc := 54) (v := -1000001) hx hb hown (hts _ kc_L_25) dL_history_54 ?_
        refine lv_icmp_ne (pc := 56) (tgt := 111) hx hb dL_history_56 (by decide) (fun c9 => ?_) (fun c9 => ?_)
        · have hf := ifF c9 hf
          exact W.widen (Nat.le_of_ble_eq_true rfl : 1 ≤ 5) (Nat.le_of_ble_eq_true rfl : 6 ≤ 30) (jl_history_111 X hE   _ _ _ _ _ hf _ _ _ h (lv_sub hl [3, 4, 5, 6, 2, 1, 0] rfl))
        · have hf := ifT c9 hf
          refine lv_aload_n (pc := 59) hx hb dL_history_59 rfl (lv_at hl 3 rfl) ?_
          refine lv_iload_n (pc := 60) hx hb dL_history_60 rfl (lv_at hl 6 rfl) ?_
          refine lv_iconst (pc := 61) (v := -1) hx hb dL_history_61 (by decide) ?_
          obtain ⟨z7, hc7, hf⟩ := bdS hf
          refine call_H (pc := 62) (As := [.ref (q0 0), .int x3, .int (-1 : Int32)]) (rest := []) (ws' := (kbW q0 q cA d ab aw b w)) X h (vm_seal d x3 (-1 : Int32) hc7) cx_L_143 (kbW_o q0 q cA d ab aw b w) (kbW_o q0 q cA d ab aw b w).symm rfl rfl rfl hl.1 (Nat.le_of_ble_eq_true rfl) dL_history_62 ⟨(Nat.le_of_ble_eq_true rfl), (Nat.le_of_ble_eq_true rfl)⟩ rfl rfl ⟨(Nat.le_of_ble_eq_true rfl), (Nat.le_of_ble_eq_true rfl)⟩ (fun H locs h => ?_)
          refine W.eq (g2 := F0 m 65 ls [.int z7]) rfl ?_
          refine lv_ldc (pc := 65) (v := -1000001) hx hb hown (hts _ kc_L_25) dL_history_65 ?_
          refine lv_icmp_ne (pc := 67) (tgt := 111) hx hb dL_history_67 (by decide) (fun c9 => ?_) (fun c9 => ?_)
          · have hf := ifF c9 hf
            exact W.widen (Nat.le_of_ble_eq_true rfl : 2 ≤ 5) (Nat.le_of_ble_eq_true rfl : 12 ≤ 30) (jl_history_111 X hE   _ _ _ _ _ hf _ _ _ h (lv_sub hl [3, 4, 5, 6, 2, 1, 0] rfl))
          · have hf := ifT c9 hf
            refine lv_aload_n (pc := 70) hx hb dL_history_70 rfl (lv_at hl 3 rfl) ?_
            refine lv_iload_n (pc := 71) hx hb dL_history_71 rfl (lv_at hl 6 rfl) ?_
            refine lv_iload (pc := 72) hx hb dL_history_72 (lv_at hl 2 rfl) ?_
            obtain ⟨z8, hc8, hf⟩ := bdS hf
            refine call_H (pc := 74) (As := [.ref (q0 0), .int x3, .int z1]) (rest := []) (ws' := (kbW q0 q cA d ab aw b w)) X h (vm_kindOf d x3 z1 hc8) cx_L_177 (kbW_o q0 q cA d ab aw b w) (kbW_o q0 q cA d ab aw b w).symm rfl rfl rfl hl.1 (Nat.le_of_ble_eq_true rfl) dL_history_74 ⟨(Nat.le_of_ble_eq_true rfl), (Nat.le_of_ble_eq_true rfl)⟩ rfl rfl ⟨(Nat.le_of_ble_eq_true rfl), (Nat.le_of_ble_eq_true rfl)⟩ (fun H locs h => ?_)
            refine W.eq (g2 := F0 m 77 ls [.int z8]) rfl ?_
            refine lv_ldc (pc := 77) (v := -1000001) hx hb hown (hts _ kc_L_25) dL_history_77 ?_
            refine lv_icmp_ne (pc := 79) (tgt := 111) hx hb dL_history_79 (by decide) (fun c9 => ?_) (fun c9 => ?_)
            · have hf := ifF c9 hf
              exact W.widen (Nat.le_of_ble_eq_true rfl : 3 ≤ 5) (Nat.le_of_ble_eq_true rfl : 18 ≤ 30) (jl_history_111 X hE   _ _ _ _ _ hf _ _ _ h (lv_sub hl [3, 4, 5, 6, 2, 1, 0] rfl))
            · have hf := ifT c9 hf
              refine lv_aload_n (pc := 82) hx hb dL_history_82 rfl (lv_at hl 3 rfl) ?_
              refine lv_iload_n (pc := 83) hx hb dL_history_83 rfl (lv_at hl 6 rfl) ?_
              refine lv_iload (pc := 84) hx hb dL_history_84 (lv_at hl 2 rfl) ?_
              refine lv_iconst (pc := 86) (v := 1) hx hb dL_history_86 (by decide) ?_
              refine lv_iadd (pc := 87) hx hb dL_history_87 ?_
              obtain ⟨z9, hc9, hf⟩ := bdS hf
              refine call_H (pc := 88) (As := [.ref (q0 0), .int x3, .int (z1 + (1 : Int32))]) (rest := []) (ws' := (kbW q0 q cA d ab aw b w)) X h (vm_stateBehind d x3 (z1 + (1 : Int32)) hc9) cx_L_172 (kbW_o q0 q cA d ab aw b w) (kbW_o q0 q cA d ab aw b w).symm rfl rfl rfl hl.1 (Nat.le_of_ble_eq_true rfl) dL_history_88 ⟨(Nat.le_of_ble_eq_true rfl), (Nat.le_of_ble_eq_true rfl)⟩ rfl rfl ⟨(Nat.le_of_ble_eq_true rfl), (Nat.le_of_ble_eq_true rfl)⟩ (fun H locs h => ?_)
              refine W.eq (g2 := F0 m 91 ls [.int z9]) rfl ?_
              refine lv_ldc (pc := 91) (v := -1000001) hx hb hown (hts _ kc_L_25) dL_history_91 ?_
              refine lv_icmp_ne (pc := 93) (tgt := 111) hx hb dL_history_93 (by decide) (fun c9 => ?_) (fun c9 => ?_)
              · have hf := ifF c9 hf
                exact W.widen (Nat.le_of_ble_eq_true rfl : 4 ≤ 5) (Nat.le_of_ble_eq_true rfl : 24 ≤ 30) (jl_history_111 X hE   _ _ _ _ _ hf _ _ _ h (lv_sub hl [3, 4, 5, 6, 2, 1, 0] rfl))
              · have hf := ifT c9 hf
                refine lv_aload_n (pc := 96) hx hb dL_history_96 rfl (lv_at hl 3 rfl) ?_
                refine lv_iload_n (pc := 97) hx hb dL_history_97 rfl (lv_at hl 6 rfl) ?_
                refine lv_iconst (pc := 98) (v := -1) hx hb dL_history_98 (by decide) ?_
                obtain ⟨z10, hc10, hf⟩ := bdS hf
                refine call_H (pc := 99) (As := [.ref (q0 0), .int x3, .int (-1 : Int32)]) (rest := []) (ws' := (kbW q0 q cA d ab aw b w)) X h (vm_openBehind d x3 (-1 : Int32) hc10) cx_L_170 (kbW_o q0 q cA d ab aw b w) (kbW_o q0 q cA d ab aw b w).symm rfl rfl rfl hl.1 (Nat.le_of_ble_eq_true rfl) dL_history_99 ⟨(Nat.le_of_ble_eq_true rfl), (Nat.le_of_ble_eq_true rfl)⟩ rfl rfl ⟨(Nat.le_of_ble_eq_true rfl), (Nat.le_of_ble_eq_true rfl)⟩ (fun H locs h => ?_)
                refine W.eq (g2 := F0 m 102 ls [.int z10]) rfl ?_
                refine lv_ldc (pc := 102) (v := -1000001) hx hb hown (hts _ kc_L_25) dL_history_102 ?_
                refine lv_icmp_ne (pc := 104) (tgt := 111) hx hb dL_history_104 (by decide) (fun c9 => ?_) (fun c9 => ?_)
                · have hf := ifF c9 hf
                  exact jl_history_111 X hE   _ _ _ _ _ hf _ _ _ h (lv_sub hl [3, 4, 5, 6, 2, 1, 0] rfl)
                · have hf := ifT c9 hf
                  refine lv_iconst (pc := 107) (v := 1) hx hb dL_history_107 (by decide) ?_
                  refine lv_goto (pc := 108) (tgt := 112) hx hb dL_history_108 (by decide) ?_
                  exact jl_history_112 X hE   _ _ _ _ _ _ hf _ _ _ h (lv_sub hl [3, 4, 5, 6, 2, 1, 0] rfl)
set_option maxRecDepth 100000 in
theorem k_L_history {q0 : Nat → Nat} {q : Nat → Nat → Nat} {ab aw : Nat} {cA : Nat → ClassId} {D : va_G} (d : Dk) (b : (Nat → Int32)) (w : (Nat → Int32)) (x3 : Int32) {z : Int32} (hf : f_L_history d b w x3 = some z) : CtV yL_history (.code yL_history cL_history 20 (some .boolean)) rm_L_history [.ref (q0 0), .ref (ab), .ref (aw), .int x3] D cA (kbW q0 q cA d ab aw b w) (kbW q0 q cA d ab aw b w) (.int z) 5 30 := by
  refine vxL_of (Qc := fun sz => PostU D (kbW q0 q cA d ab aw b w) (kbW q0 q cA d ab aw b w) sz (some (.int z))) (by decide) (Nat.le_of_ble_eq_true rfl) rfl ?_
  intro p l e s m below meth c ls C hr h hl
  exact jl_history_0 (Qf := fun z => vx_MQ below (PostU D (kbW q0 q cA d ab aw b w) (kbW q0 q cA d ab aw b w) s.heap.size (some (.int z))) XN _ s 5 30 (va_A (kbW q0 q cA d ab aw b w) s.heap.size)) C (fun z pc H locs ls cells slots hbo hd hc hs h => end_z C.1 hr hbo hc hs h hd) _ _ hf _ _ _ h (lv_sub hl [0, 1, 2, 3] rfl)
end
