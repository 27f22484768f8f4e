theorem dL_envelope_0 : decode cL_envelope 0 = .ok (.aload_n 0, 1) := by decide +kernel
theorem dL_envelope_1 : decode cL_envelope 1 = .ok (.iload_n 3, 1) := by decide +kernel
theorem dL_envelope_2 : decode cL_envelope 2 = .ok (.invokestatic 136, 3) := by decide +kernel
theorem dL_envelope_5 : decode cL_envelope 5 = .ok (.istore 4, 2) := by decide +kernel
theorem dL_envelope_7 : decode cL_envelope 7 = .ok (.aload_n 0, 1) := by decide +kernel
theorem dL_envelope_8 : decode cL_envelope 8 = .ok (.iload_n 3, 1) := by decide +kernel
theorem dL_envelope_9 : decode cL_envelope 9 = .ok (.invokestatic 148, 3) := by decide +kernel
theorem dL_envelope_12 : decode cL_envelope 12 = .ok (.istore 5, 2) := by decide +kernel
theorem dL_envelope_14 : decode cL_envelope 14 = .ok (.iconst 0, 1) := by decide +kernel
theorem dL_envelope_15 : decode cL_envelope 15 = .ok (.istore 6, 2) := by decide +kernel
theorem dL_envelope_17 : decode cL_envelope 17 = .ok (.iconst 0, 1) := by decide +kernel
theorem dL_envelope_18 : decode cL_envelope 18 = .ok (.istore 7, 2) := by decide +kernel
theorem dL_envelope_20 : decode cL_envelope 20 = .ok (.iconst 0, 1) := by decide +kernel
theorem dL_envelope_21 : decode cL_envelope 21 = .ok (.istore 8, 2) := by decide +kernel
theorem dL_envelope_23 : decode cL_envelope 23 = .ok (.iload 8, 2) := by decide +kernel
theorem dL_envelope_25 : decode cL_envelope 25 = .ok (.iload 5, 2) := by decide +kernel
theorem dL_envelope_27 : decode cL_envelope 27 = .ok (.if_icmp .ge 56, 3) := by decide +kernel
theorem dL_envelope_30 : decode cL_envelope 30 = .ok (.aload_n 0, 1) := by decide +kernel
theorem dL_envelope_31 : decode cL_envelope 31 = .ok (.iload_n 3, 1) := by decide +kernel
theorem dL_envelope_32 : decode cL_envelope 32 = .ok (.iload 8, 2) := by decide +kernel
theorem dL_envelope_34 : decode cL_envelope 34 = .ok (.invokestatic 150, 3) := by decide +kernel
theorem dL_envelope_37 : decode cL_envelope 37 = .ok (.istore 9, 2) := by decide +kernel
theorem dL_envelope_39 : decode cL_envelope 39 = .ok (.iload 6, 2) := by decide +kernel
theorem dL_envelope_41 : decode cL_envelope 41 = .ok (.iload 9, 2) := by decide +kernel
theorem dL_envelope_43 : decode cL_envelope 43 = .ok (.iconst 2, 1) := by decide +kernel
theorem dL_envelope_44 : decode cL_envelope 44 = .ok (.if_icmp .ne 10, 3) := by decide +kernel
theorem dL_envelope_47 : decode cL_envelope 47 = .ok (.iconst 1, 1) := by decide +kernel
theorem dL_envelope_48 : decode cL_envelope 48 = .ok (.iload 8, 2) := by decide +kernel
theorem dL_envelope_50 : decode cL_envelope 50 = .ok (.ishl, 1) := by decide +kernel
theorem dL_envelope_51 : decode cL_envelope 51 = .ok (.goto 4, 3) := by decide +kernel
theorem dL_envelope_54 : decode cL_envelope 54 = .ok (.iconst 0, 1) := by decide +kernel
theorem dL_envelope_55 : decode cL_envelope 55 = .ok (.ior, 1) := by decide +kernel
theorem dL_envelope_56 : decode cL_envelope 56 = .ok (.istore 6, 2) := by decide +kernel
theorem dL_envelope_58 : decode cL_envelope 58 = .ok (.iload 7, 2) := by decide +kernel
theorem dL_envelope_60 : decode cL_envelope 60 = .ok (.iload 9, 2) := by decide +kernel
theorem dL_envelope_62 : decode cL_envelope 62 = .ok (.iconst 1, 1) := by decide +kernel
theorem dL_envelope_63 : decode cL_envelope 63 = .ok (.if_icmp .ne 10, 3) := by decide +kernel
theorem dL_envelope_66 : decode cL_envelope 66 = .ok (.iconst 1, 1) := by decide +kernel
theorem dL_envelope_67 : decode cL_envelope 67 = .ok (.iload 8, 2) := by decide +kernel
theorem dL_envelope_69 : decode cL_envelope 69 = .ok (.ishl, 1) := by decide +kernel
theorem dL_envelope_70 : decode cL_envelope 70 = .ok (.goto 4, 3) := by decide +kernel
theorem dL_envelope_73 : decode cL_envelope 73 = .ok (.iconst 0, 1) := by decide +kernel
theorem dL_envelope_74 : decode cL_envelope 74 = .ok (.ior, 1) := by decide +kernel
theorem dL_envelope_75 : decode cL_envelope 75 = .ok (.istore 7, 2) := by decide +kernel
theorem dL_envelope_77 : decode cL_envelope 77 = .ok (.iinc 8 1, 3) := by decide +kernel
theorem dL_envelope_80 : decode cL_envelope 80 = .ok (.goto (-57), 3) := by decide +kernel
theorem dL_envelope_83 : decode cL_envelope 83 = .ok (.iconst 0, 1) := by decide +kernel
theorem dL_envelope_84 : decode cL_envelope 84 = .ok (.istore 8, 2) := by decide +kernel
theorem dL_envelope_86 : decode cL_envelope 86 = .ok (.iload 8, 2) := by decide +kernel
theorem dL_envelope_88 : decode cL_envelope 88 = .ok (.iload 5, 2) := by decide +kernel
theorem dL_envelope_90 : decode cL_envelope 90 = .ok (.if_icmp .ge 427, 3) := by decide +kernel
theorem dL_envelope_93 : decode cL_envelope 93 = .ok (.aload_n 0, 1) := by decide +kernel
theorem dL_envelope_94 : decode cL_envelope 94 = .ok (.iload_n 3, 1) := by decide +kernel
theorem dL_envelope_95 : decode cL_envelope 95 = .ok (.iload 8, 2) := by decide +kernel
theorem dL_envelope_97 : decode cL_envelope 97 = .ok (.invokestatic 150, 3) := by decide +kernel
theorem dL_envelope_100 : decode cL_envelope 100 = .ok (.istore 9, 2) := by decide +kernel
theorem dL_envelope_102 : decode cL_envelope 102 = .ok (.aload_n 1, 1) := by decide +kernel
theorem dL_envelope_103 : decode cL_envelope 103 = .ok (.bipush 8, 2) := by decide +kernel
theorem dL_envelope_105 : decode cL_envelope 105 = .ok (.iload_n 3, 1) := by decide +kernel
theorem dL_envelope_106 : decode cL_envelope 106 = .ok (.imul, 1) := by decide +kernel
theorem dL_envelope_107 : decode cL_envelope 107 = .ok (.iload 8, 2) := by decide +kernel
theorem dL_envelope_109 : decode cL_envelope 109 = .ok (.iadd, 1) := by decide +kernel
theorem dL_envelope_110 : decode cL_envelope 110 = .ok (.iaload, 1) := by decide +kernel
theorem dL_envelope_111 : decode cL_envelope 111 = .ok (.iload 6, 2) := by decide +kernel
theorem dL_envelope_113 : decode cL_envelope 113 = .ok (.iconst (-1), 1) := by decide +kernel
theorem dL_envelope_114 : decode cL_envelope 114 = .ok (.ixor, 1) := by decide +kernel
theorem dL_envelope_115 : decode cL_envelope 115 = .ok (.iand, 1) := by decide +kernel
theorem dL_envelope_116 : decode cL_envelope 116 = .ok (.invokestatic 160, 3) := by decide +kernel
theorem dL_envelope_119 : decode cL_envelope 119 = .ok (.istore 10, 2) := by decide +kernel
theorem dL_envelope_121 : decode cL_envelope 121 = .ok (.iconst 0, 1) := by decide +kernel
theorem dL_envelope_122 : decode cL_envelope 122 = .ok (.istore 11, 2) := by decide +kernel
theorem dL_envelope_124 : decode cL_envelope 124 = .ok (.aload_n 1, 1) := by decide +kernel
theorem dL_envelope_125 : decode cL_envelope 125 = .ok (.bipush 8, 2) := by decide +kernel
theorem dL_envelope_127 : decode cL_envelope 127 = .ok (.iload_n 3, 1) := by decide +kernel
theorem dL_envelope_128 : decode cL_envelope 128 = .ok (.imul, 1) := by decide +kernel
theorem dL_envelope_129 : decode cL_envelope 129 = .ok (.iload 8, 2) := by decide +kernel
theorem dL_envelope_131 : decode cL_envelope 131 = .ok (.iadd, 1) := by decide +kernel
theorem dL_envelope_132 : decode cL_envelope 132 = .ok (.iaload, 1) := by decide +kernel
theorem dL_envelope_133 : decode cL_envelope 133 = .ok (.istore 12, 2) := by decide +kernel
theorem dL_envelope_135 : decode cL_envelope 135 = .ok (.iload 8, 2) := by decide +kernel
theorem dL_envelope_137 : decode cL_envelope 137 = .ok (.iconst 1, 1) := by decide +kernel
theorem dL_envelope_138 : decode cL_envelope 138 = .ok (.isub, 1) := by decide +kernel
theorem dL_envelope_139 : decode cL_envelope 139 = .ok (.istore 13, 2) := by decide +kernel
theorem dL_envelope_141 : decode cL_envelope 141 = .ok (.iload 13, 2) := by decide +kernel
theorem dL_envelope_143 : decode cL_envelope 143 = .ok (.ifCond .lt 84, 3) := by decide +kernel
theorem dL_envelope_146 : decode cL_envelope 146 = .ok (.aload_n 1, 1) := by decide +kernel
theorem dL_envelope_147 : decode cL_envelope 147 = .ok (.bipush 8, 2) := by decide +kernel
theorem dL_envelope_149 : decode cL_envelope 149 = .ok (.iload_n 3, 1) := by decide +kernel
theorem dL_envelope_150 : decode cL_envelope 150 = .ok (.imul, 1) := by decide +kernel
theorem dL_envelope_151 : decode cL_envelope 151 = .ok (.iload 8, 2) := by decide +kernel
theorem dL_envelope_153 : decode cL_envelope 153 = .ok (.iadd, 1) := by decide +kernel
theorem dL_envelope_154 : decode cL_envelope 154 = .ok (.iaload, 1) := by decide +kernel
theorem dL_envelope_155 : decode cL_envelope 155 = .ok (.iload 13, 2) := by decide +kernel
theorem dL_envelope_157 : decode cL_envelope 157 = .ok (.ishr, 1) := by decide +kernel
theorem dL_envelope_158 : decode cL_envelope 158 = .ok (.iconst 1, 1) := by decide +kernel
theorem dL_envelope_159 : decode cL_envelope 159 = .ok (.iand, 1) := by decide +kernel
theorem dL_envelope_160 : decode cL_envelope 160 = .ok (.iconst 1, 1) := by decide +kernel
theorem dL_envelope_161 : decode cL_envelope 161 = .ok (.if_icmp .ne 27, 3) := by decide +kernel
theorem dL_envelope_164 : decode cL_envelope 164 = .ok (.aload_n 0, 1) := by decide +kernel
theorem dL_envelope_165 : decode cL_envelope 165 = .ok (.iload_n 3, 1) := by decide +kernel
theorem dL_envelope_166 : decode cL_envelope 166 = .ok (.iload 13, 2) := by decide +kernel
theorem dL_envelope_168 : decode cL_envelope 168 = .ok (.invokestatic 163, 3) := by decide +kernel
theorem dL_envelope_171 : decode cL_envelope 171 = .ok (.iload 11, 2) := by decide +kernel
theorem dL_envelope_173 : decode cL_envelope 173 = .ok (.if_icmp .lt 15, 3) := by decide +kernel
theorem dL_envelope_176 : decode cL_envelope 176 = .ok (.aload_n 0, 1) := by decide +kernel
theorem dL_envelope_177 : decode cL_envelope 177 = .ok (.iload_n 3, 1) := by decide +kernel
theorem dL_envelope_178 : decode cL_envelope 178 = .ok (.iload 13, 2) := by decide +kernel
theorem dL_envelope_180 : decode cL_envelope 180 = .ok (.invokestatic 163, 3) := by decide +kernel
theorem dL_envelope_183 : decode cL_envelope 183 = .ok (.iconst 1, 1) := by decide +kernel
theorem dL_envelope_184 : decode cL_envelope 184 = .ok (.iadd, 1) := by decide +kernel
theorem dL_envelope_185 : decode cL_envelope 185 = .ok (.goto 5, 3) := by decide +kernel
theorem dL_envelope_188 : decode cL_envelope 188 = .ok (.iload 11, 2) := by decide +kernel
theorem dL_envelope_190 : decode cL_envelope 190 = .ok (.istore 11, 2) := by decide +kernel
theorem dL_envelope_192 : decode cL_envelope 192 = .ok (.iload 12, 2) := by decide +kernel
theorem dL_envelope_194 : decode cL_envelope 194 = .ok (.iload 12, 2) := by decide +kernel
theorem dL_envelope_196 : decode cL_envelope 196 = .ok (.iload 13, 2) := by decide +kernel
theorem dL_envelope_198 : decode cL_envelope 198 = .ok (.ishr, 1) := by decide +kernel
theorem dL_envelope_199 : decode cL_envelope 199 = .ok (.iconst 1, 1) := by decide +kernel
theorem dL_envelope_200 : decode cL_envelope 200 = .ok (.iand, 1) := by decide +kernel
theorem dL_envelope_201 : decode cL_envelope 201 = .ok (.iconst 1, 1) := by decide +kernel
theorem dL_envelope_202 : decode cL_envelope 202 = .ok (.if_icmp .ne 15, 3) := by decide +kernel
theorem dL_envelope_205 : decode cL_envelope 205 = .ok (.aload_n 1, 1) := by decide +kernel
theorem dL_envelope_206 : decode cL_envelope 206 = .ok (.bipush 8, 2) := by decide +kernel
theorem dL_envelope_208 : decode cL_envelope 208 = .ok (.iload_n 3, 1) := by decide +kernel
theorem dL_envelope_209 : decode cL_envelope 209 = .ok (.imul, 1) := by decide +kernel
theorem dL_envelope_210 : decode cL_envelope 210 = .ok (.iload 13, 2) := by decide +kernel
theorem dL_envelope_212 : decode cL_envelope 212 = .ok (.iadd, 1) := by decide +kernel
theorem dL_envelope_213 : decode cL_envelope 213 = .ok (.iaload, 1) := by decide +kernel
theorem dL_envelope_214 : decode cL_envelope 214 = .ok (.goto 4, 3) := by decide +kernel
theorem dL_envelope_217 : decode cL_envelope 217 = .ok (.iconst 0, 1) := by decide +kernel
theorem dL_envelope_218 : decode cL_envelope 218 = .ok (.ior, 1) := by decide +kernel
theorem dL_envelope_219 : decode cL_envelope 219 = .ok (.istore 12, 2) := by decide +kernel
theorem dL_envelope_221 : decode cL_envelope 221 = .ok (.iinc 13 (-1), 3) := by decide +kernel
theorem dL_envelope_224 : decode cL_envelope 224 = .ok (.goto (-83), 3) := by decide +kernel
theorem dL_envelope_227 : decode cL_envelope 227 = .ok (.iload 4, 2) := by decide +kernel
theorem dL_envelope_229 : decode cL_envelope 229 = .ok (.ifCond .ne 16, 3) := by decide +kernel
theorem dL_envelope_232 : decode cL_envelope 232 = .ok (.iload 9, 2) := by decide +kernel
theorem dL_envelope_234 : decode cL_envelope 234 = .ok (.ifCond .ne 7, 3) := by decide +kernel
theorem dL_envelope_237 : decode cL_envelope 237 = .ok (.iconst 1, 1) := by decide +kernel
theorem dL_envelope_238 : decode cL_envelope 238 = .ok (.goto 105, 3) := by decide +kernel
theorem dL_envelope_241 : decode cL_envelope 241 = .ok (.iconst 0, 1) := by decide +kernel
theorem dL_envelope_242 : decode cL_envelope 242 = .ok (.goto 101, 3) := by decide +kernel
theorem dL_envelope_245 : decode cL_envelope 245 = .ok (.iload 4, 2) := by decide +kernel
theorem dL_envelope_247 : decode cL_envelope 247 = .ok (.iconst 1, 1) := by decide +kernel
theorem dL_envelope_248 : decode cL_envelope 248 = .ok (.if_icmp .ne 45, 3) := by decide +kernel
theorem dL_envelope_251 : decode cL_envelope 251 = .ok (.iload 9, 2) := by decide +kernel
theorem dL_envelope_253 : decode cL_envelope 253 = .ok (.iconst 2, 1) := by decide +kernel
theorem dL_envelope_254 : decode cL_envelope 254 = .ok (.if_icmp .ne 16, 3) := by decide +kernel
theorem dL_envelope_257 : decode cL_envelope 257 = .ok (.iload 10, 2) := by decide +kernel
theorem dL_envelope_259 : decode cL_envelope 259 = .ok (.ifCond .ne 7, 3) := by decide +kernel
theorem dL_envelope_262 : decode cL_envelope 262 = .ok (.iconst 1, 1) := by decide +kernel
theorem dL_envelope_263 : decode cL_envelope 263 = .ok (.goto 80, 3) := by decide +kernel
theorem dL_envelope_266 : decode cL_envelope 266 = .ok (.iconst 0, 1) := by decide +kernel
theorem dL_envelope_267 : decode cL_envelope 267 = .ok (.goto 76, 3) := by decide +kernel
theorem dL_envelope_270 : decode cL_envelope 270 = .ok (.iload 9, 2) := by decide +kernel
theorem dL_envelope_272 : decode cL_envelope 272 = .ok (.iload 10, 2) := by decide +kernel
theorem dL_envelope_274 : decode cL_envelope 274 = .ok (.ifCond .ne 7, 3) := by decide +kernel
theorem dL_envelope_277 : decode cL_envelope 277 = .ok (.iconst 1, 1) := by decide +kernel
theorem dL_envelope_278 : decode cL_envelope 278 = .ok (.goto 4, 3) := by decide +kernel
theorem dL_envelope_281 : decode cL_envelope 281 = .ok (.iconst 0, 1) := by decide +kernel
theorem dL_envelope_282 : decode cL_envelope 282 = .ok (.if_icmp .ne 7, 3) := by decide +kernel
theorem dL_envelope_285 : decode cL_envelope 285 = .ok (.iconst 1, 1) := by decide +kernel
theorem dL_envelope_286 : decode cL_envelope 286 = .ok (.goto 57, 3) := by decide +kernel
theorem dL_envelope_289 : decode cL_envelope 289 = .ok (.iconst 0, 1) := by decide +kernel
theorem dL_envelope_290 : decode cL_envelope 290 = .ok (.goto 53, 3) := by decide +kernel
theorem dL_envelope_293 : decode cL_envelope 293 = .ok (.iload 4, 2) := by decide +kernel
theorem dL_envelope_295 : decode cL_envelope 295 = .ok (.iconst 2, 1) := by decide +kernel
theorem dL_envelope_296 : decode cL_envelope 296 = .ok (.if_icmp .ne 17, 3) := by decide +kernel
theorem dL_envelope_299 : decode cL_envelope 299 = .ok (.iload 9, 2) := by decide +kernel
theorem dL_envelope_301 : decode cL_envelope 301 = .ok (.iconst 2, 1) := by decide +kernel
theorem dL_envelope_302 : decode cL_envelope 302 = .ok (.if_icmp .ne 7, 3) := by decide +kernel
theorem dL_envelope_305 : decode cL_envelope 305 = .ok (.iconst 1, 1) := by decide +kernel
theorem dL_envelope_306 : decode cL_envelope 306 = .ok (.goto 37, 3) := by decide +kernel
theorem dL_envelope_309 : decode cL_envelope 309 = .ok (.iconst 0, 1) := by decide +kernel
theorem dL_envelope_310 : decode cL_envelope 310 = .ok (.goto 33, 3) := by decide +kernel
theorem dL_envelope_313 : decode cL_envelope 313 = .ok (.iload 9, 2) := by decide +kernel
theorem dL_envelope_315 : decode cL_envelope 315 = .ok (.iconst 2, 1) := by decide +kernel
theorem dL_envelope_316 : decode cL_envelope 316 = .ok (.if_icmp .ne 16, 3) := by decide +kernel
theorem dL_envelope_319 : decode cL_envelope 319 = .ok (.iload 10, 2) := by decide +kernel
theorem dL_envelope_321 : decode cL_envelope 321 = .ok (.ifCond .ne 7, 3) := by decide +kernel
theorem dL_envelope_324 : decode cL_envelope 324 = .ok (.iconst 1, 1) := by decide +kernel
theorem dL_envelope_325 : decode cL_envelope 325 = .ok (.goto 18, 3) := by decide +kernel
theorem dL_envelope_328 : decode cL_envelope 328 = .ok (.iconst 0, 1) := by decide +kernel
theorem dL_envelope_329 : decode cL_envelope 329 = .ok (.goto 14, 3) := by decide +kernel
theorem dL_envelope_332 : decode cL_envelope 332 = .ok (.iload 9, 2) := by decide +kernel
theorem dL_envelope_334 : decode cL_envelope 334 = .ok (.iconst 3, 1) := by decide +kernel
theorem dL_envelope_335 : decode cL_envelope 335 = .ok (.if_icmp .ne 7, 3) := by decide +kernel
theorem dL_envelope_338 : decode cL_envelope 338 = .ok (.iconst 1, 1) := by decide +kernel
theorem dL_envelope_339 : decode cL_envelope 339 = .ok (.goto 4, 3) := by decide +kernel
theorem dL_envelope_342 : decode cL_envelope 342 = .ok (.iconst 0, 1) := by decide +kernel
theorem dL_envelope_343 : decode cL_envelope 343 = .ok (.istore 13, 2) := by decide +kernel
theorem dL_envelope_345 : decode cL_envelope 345 = .ok (.iload 13, 2) := by decide +kernel
theorem dL_envelope_347 : decode cL_envelope 347 = .ok (.ifCond .eq 42, 3) := by decide +kernel
theorem dL_envelope_350 : decode cL_envelope 350 = .ok (.aload_n 0, 1) := by decide +kernel
theorem dL_envelope_351 : decode cL_envelope 351 = .ok (.iload_n 3, 1) := by decide +kernel
theorem dL_envelope_352 : decode cL_envelope 352 = .ok (.iload 8, 2) := by decide +kernel
theorem dL_envelope_354 : decode cL_envelope 354 = .ok (.invokestatic 152, 3) := by decide +kernel
theorem dL_envelope_357 : decode cL_envelope 357 = .ok (.iload 10, 2) := by decide +kernel
theorem dL_envelope_359 : decode cL_envelope 359 = .ok (.if_icmp .ne 30, 3) := by decide +kernel
theorem dL_envelope_362 : decode cL_envelope 362 = .ok (.aload_n 0, 1) := by decide +kernel
theorem dL_envelope_363 : decode cL_envelope 363 = .ok (.iload_n 3, 1) := by decide +kernel
theorem dL_envelope_364 : decode cL_envelope 364 = .ok (.iload 8, 2) := by decide +kernel
theorem dL_envelope_366 : decode cL_envelope 366 = .ok (.invokestatic 163, 3) := by decide +kernel
theorem dL_envelope_369 : decode cL_envelope 369 = .ok (.iload 11, 2) := by decide +kernel
theorem dL_envelope_371 : decode cL_envelope 371 = .ok (.if_icmp .ne 18, 3) := by decide +kernel
theorem dL_envelope_374 : decode cL_envelope 374 = .ok (.aload_n 0, 1) := by decide +kernel
theorem dL_envelope_375 : decode cL_envelope 375 = .ok (.iload_n 3, 1) := by decide +kernel
theorem dL_envelope_376 : decode cL_envelope 376 = .ok (.iload 8, 2) := by decide +kernel
theorem dL_envelope_378 : decode cL_envelope 378 = .ok (.invokestatic 165, 3) := by decide +kernel
theorem dL_envelope_381 : decode cL_envelope 381 = .ok (.iload 12, 2) := by decide +kernel
theorem dL_envelope_383 : decode cL_envelope 383 = .ok (.invokestatic 160, 3) := by decide +kernel
theorem dL_envelope_386 : decode cL_envelope 386 = .ok (.if_icmp .eq 5, 3) := by decide +kernel
theorem dL_envelope_389 : decode cL_envelope 389 = .ok (.iconst 0, 1) := by decide +kernel
theorem dL_envelope_390 : decode cL_envelope 390 = .ok (.ireturn, 1) := by decide +kernel
theorem dL_envelope_391 : decode cL_envelope 391 = .ok (.iconst 0, 1) := by decide +kernel
theorem dL_envelope_392 : decode cL_envelope 392 = .ok (.istore 14, 2) := by decide +kernel
theorem dL_envelope_394 : decode cL_envelope 394 = .ok (.iload 14, 2) := by decide +kernel
theorem dL_envelope_396 : decode cL_envelope 396 = .ok (.bipush 8, 2) := by decide +kernel
theorem dL_envelope_398 : decode cL_envelope 398 = .ok (.if_icmp .ge 113, 3) := by decide +kernel
theorem dL_envelope_401 : decode cL_envelope 401 = .ok (.aload_n 0, 1) := by decide +kernel
theorem dL_envelope_402 : decode cL_envelope 402 = .ok (.iload 14, 2) := by decide +kernel
theorem dL_envelope_404 : decode cL_envelope 404 = .ok (.iload_n 3, 1) := by decide +kernel
theorem dL_envelope_405 : decode cL_envelope 405 = .ok (.iload 8, 2) := by decide +kernel
theorem dL_envelope_407 : decode cL_envelope 407 = .ok (.invokestatic 167, 3) := by decide +kernel
theorem dL_envelope_410 : decode cL_envelope 410 = .ok (.istore 15, 2) := by decide +kernel
theorem dL_envelope_412 : decode cL_envelope 412 = .ok (.iload 4, 2) := by decide +kernel
theorem dL_envelope_414 : decode cL_envelope 414 = .ok (.iconst 1, 1) := by decide +kernel
theorem dL_envelope_415 : decode cL_envelope 415 = .ok (.if_icmp .eq 12, 3) := by decide +kernel
theorem dL_envelope_418 : decode cL_envelope 418 = .ok (.iload 15, 2) := by decide +kernel
theorem dL_envelope_420 : decode cL_envelope 420 = .ok (.iconst 2, 1) := by decide +kernel
theorem dL_envelope_421 : decode cL_envelope 421 = .ok (.if_icmp .eq 84, 3) := by decide +kernel
theorem dL_envelope_424 : decode cL_envelope 424 = .ok (.goto 79, 3) := by decide +kernel
theorem dL_envelope_427 : decode cL_envelope 427 = .ok (.iload 9, 2) := by decide +kernel
theorem dL_envelope_429 : decode cL_envelope 429 = .ok (.iconst 1, 1) := by decide +kernel
theorem dL_envelope_430 : decode cL_envelope 430 = .ok (.if_icmp .eq 12, 3) := by decide +kernel
theorem dL_envelope_433 : decode cL_envelope 433 = .ok (.iload 15, 2) := by decide +kernel
theorem dL_envelope_435 : decode cL_envelope 435 = .ok (.iconst 3, 1) := by decide +kernel
theorem dL_envelope_436 : decode cL_envelope 436 = .ok (.if_icmp .eq 69, 3) := by decide +kernel
theorem dL_envelope_439 : decode cL_envelope 439 = .ok (.goto 64, 3) := by decide +kernel
theorem dL_envelope_442 : decode cL_envelope 442 = .ok (.iload 14, 2) := by decide +kernel
theorem dL_envelope_444 : decode cL_envelope 444 = .ok (.aload_n 2, 1) := by decide +kernel
theorem dL_envelope_445 : decode cL_envelope 445 = .ok (.bipush 8, 2) := by decide +kernel
theorem dL_envelope_447 : decode cL_envelope 447 = .ok (.iload_n 3, 1) := by decide +kernel
theorem dL_envelope_448 : decode cL_envelope 448 = .ok (.imul, 1) := by decide +kernel
theorem dL_envelope_449 : decode cL_envelope 449 = .ok (.iload 8, 2) := by decide +kernel
theorem dL_envelope_451 : decode cL_envelope 451 = .ok (.iadd, 1) := by decide +kernel
theorem dL_envelope_452 : decode cL_envelope 452 = .ok (.iaload, 1) := by decide +kernel
theorem dL_envelope_453 : decode cL_envelope 453 = .ok (.if_icmp .ne 11, 3) := by decide +kernel
theorem dL_envelope_456 : decode cL_envelope 456 = .ok (.iload 15, 2) := by decide +kernel
theorem dL_envelope_458 : decode cL_envelope 458 = .ok (.ifCond .eq 47, 3) := by decide +kernel
theorem dL_envelope_461 : decode cL_envelope 461 = .ok (.goto 42, 3) := by decide +kernel
theorem dL_envelope_464 : decode cL_envelope 464 = .ok (.aload_n 0, 1) := by decide +kernel
theorem dL_envelope_465 : decode cL_envelope 465 = .ok (.aload_n 2, 1) := by decide +kernel
theorem dL_envelope_466 : decode cL_envelope 466 = .ok (.bipush 8, 2) := by decide +kernel
theorem dL_envelope_468 : decode cL_envelope 468 = .ok (.iload_n 3, 1) := by decide +kernel
theorem dL_envelope_469 : decode cL_envelope 469 = .ok (.imul, 1) := by decide +kernel
theorem dL_envelope_470 : decode cL_envelope 470 = .ok (.iload 8, 2) := by decide +kernel
theorem dL_envelope_472 : decode cL_envelope 472 = .ok (.iadd, 1) := by decide +kernel
theorem dL_envelope_473 : decode cL_envelope 473 = .ok (.iaload, 1) := by decide +kernel
theorem dL_envelope_474 : decode cL_envelope 474 = .ok (.invokestatic 154, 3) := by decide +kernel
theorem dL_envelope_477 : decode cL_envelope 477 = .ok (.iload 14, 2) := by decide +kernel
theorem dL_envelope_479 : decode cL_envelope 479 = .ok (.if_icmp .eq 12, 3) := by decide +kernel
theorem dL_envelope_482 : decode cL_envelope 482 = .ok (.iload 15, 2) := by decide +kernel
theorem dL_envelope_484 : decode cL_envelope 484 = .ok (.iconst 4, 1) := by decide +kernel
theorem dL_envelope_485 : decode cL_envelope 485 = .ok (.if_icmp .eq 20, 3) := by decide +kernel
theorem dL_envelope_488 : decode cL_envelope 488 = .ok (.goto 15, 3) := by decide +kernel
theorem dL_envelope_491 : decode cL_envelope 491 = .ok (.iload 15, 2) := by decide +kernel
theorem dL_envelope_493 : decode cL_envelope 493 = .ok (.iconst 1, 1) := by decide +kernel
theorem dL_envelope_494 : decode cL_envelope 494 = .ok (.if_icmp .eq 11, 3) := by decide +kernel
theorem dL_envelope_497 : decode cL_envelope 497 = .ok (.iload 15, 2) := by decide +kernel
theorem dL_envelope_499 : decode cL_envelope 499 = .ok (.iconst 5, 1) := by decide +kernel
theorem dL_envelope_500 : decode cL_envelope 500 = .ok (.if_icmp .eq 5, 3) := by decide +kernel
theorem dL_envelope_503 : decode cL_envelope 503 = .ok (.iconst 0, 1) := by decide +kernel
theorem dL_envelope_504 : decode cL_envelope 504 = .ok (.ireturn, 1) := by decide +kernel
theorem dL_envelope_505 : decode cL_envelope 505 = .ok (.iinc 14 1, 3) := by decide +kernel
theorem dL_envelope_508 : decode cL_envelope 508 = .ok (.goto (-114), 3) := by decide +kernel
theorem dL_envelope_511 : decode cL_envelope 511 = .ok (.iinc 8 1, 3) := by decide +kernel
theorem dL_envelope_514 : decode cL_envelope 514 = .ok (.goto (-428), 3) := by decide +kernel
theorem dL_envelope_517 : decode cL_envelope 517 = .ok (.iload 5, 2) := by decide +kernel
theorem dL_envelope_519 : decode cL_envelope 519 = .ok (.ifCond .lt 108, 3) := by decide +kernel
theorem dL_envelope_522 : decode cL_envelope 522 = .ok (.iload 5, 2) := by decide +kernel
theorem dL_envelope_524 : decode cL_envelope 524 = .ok (.bipush 9, 2) := by decide +kernel
theorem dL_envelope_526 : decode cL_envelope 526 = .ok (.if_icmp .ge 101, 3) := by decide +kernel
theorem dL_envelope_529 : decode cL_envelope 529 = .ok (.aload_n 0, 1) := by decide +kernel
theorem dL_envelope_530 : decode cL_envelope 530 = .ok (.iload_n 3, 1) := by decide +kernel
theorem dL_envelope_531 : decode cL_envelope 531 = .ok (.aload_n 0, 1) := by decide +kernel
theorem dL_envelope_532 : decode cL_envelope 532 = .ok (.iload_n 3, 1) := by decide +kernel
theorem dL_envelope_533 : decode cL_envelope 533 = .ok (.invokestatic 141, 3) := by decide +kernel
theorem dL_envelope_536 : decode cL_envelope 536 = .ok (.invokestatic 170, 3) := by decide +kernel
theorem dL_envelope_539 : decode cL_envelope 539 = .ok (.iload 7, 2) := by decide +kernel
theorem dL_envelope_541 : decode cL_envelope 541 = .ok (.if_icmp .ne 86, 3) := by decide +kernel
theorem dL_envelope_544 : decode cL_envelope 544 = .ok (.aload_n 0, 1) := by decide +kernel
theorem dL_envelope_545 : decode cL_envelope 545 = .ok (.iload_n 3, 1) := by decide +kernel
theorem dL_envelope_546 : decode cL_envelope 546 = .ok (.aload_n 0, 1) := by decide +kernel
theorem dL_envelope_547 : decode cL_envelope 547 = .ok (.iload_n 3, 1) := by decide +kernel
theorem dL_envelope_548 : decode cL_envelope 548 = .ok (.invokestatic 141, 3) := by decide +kernel
theorem dL_envelope_551 : decode cL_envelope 551 = .ok (.invokestatic 172, 3) := by decide +kernel
theorem dL_envelope_554 : decode cL_envelope 554 = .ok (.iload 4, 2) := by decide +kernel
theorem dL_envelope_556 : decode cL_envelope 556 = .ok (.if_icmp .ne 71, 3) := by decide +kernel
theorem dL_envelope_559 : decode cL_envelope 559 = .ok (.aload_n 0, 1) := by decide +kernel
theorem dL_envelope_560 : decode cL_envelope 560 = .ok (.iload_n 3, 1) := by decide +kernel
theorem dL_envelope_561 : decode cL_envelope 561 = .ok (.invokestatic 174, 3) := by decide +kernel
theorem dL_envelope_564 : decode cL_envelope 564 = .ok (.iload 5, 2) := by decide +kernel
theorem dL_envelope_566 : decode cL_envelope 566 = .ok (.ifCond .ne 7, 3) := by decide +kernel
theorem dL_envelope_569 : decode cL_envelope 569 = .ok (.fconst 0, 1) := by decide +kernel
theorem dL_envelope_570 : decode cL_envelope 570 = .ok (.goto 13, 3) := by decide +kernel
theorem dL_envelope_573 : decode cL_envelope 573 = .ok (.iload 6, 2) := by decide +kernel
theorem dL_envelope_575 : decode cL_envelope 575 = .ok (.invokestatic 160, 3) := by decide +kernel
theorem dL_envelope_578 : decode cL_envelope 578 = .ok (.i2f, 1) := by decide +kernel
theorem dL_envelope_579 : decode cL_envelope 579 = .ok (.iload 5, 2) := by decide +kernel
theorem dL_envelope_581 : decode cL_envelope 581 = .ok (.i2f, 1) := by decide +kernel
theorem dL_envelope_582 : decode cL_envelope 582 = .ok (.fdiv, 1) := by decide +kernel
theorem dL_envelope_583 : decode cL_envelope 583 = .ok (.fcmp .l, 1) := by decide +kernel
theorem dL_envelope_584 : decode cL_envelope 584 = .ok (.ifCond .ne 43, 3) := by decide +kernel
theorem dL_envelope_587 : decode cL_envelope 587 = .ok (.iload 4, 2) := by decide +kernel
theorem dL_envelope_589 : decode cL_envelope 589 = .ok (.iconst 1, 1) := by decide +kernel
theorem dL_envelope_590 : decode cL_envelope 590 = .ok (.if_icmp .ne 8, 3) := by decide +kernel
theorem dL_envelope_593 : decode cL_envelope 593 = .ok (.iload 7, 2) := by decide +kernel
theorem dL_envelope_595 : decode cL_envelope 595 = .ok (.ifCond .eq 32, 3) := by decide +kernel
theorem dL_envelope_598 : decode cL_envelope 598 = .ok (.aload_n 0, 1) := by decide +kernel
theorem dL_envelope_599 : decode cL_envelope 599 = .ok (.iload_n 3, 1) := by decide +kernel
theorem dL_envelope_600 : decode cL_envelope 600 = .ok (.iload 5, 2) := by decide +kernel
theorem dL_envelope_602 : decode cL_envelope 602 = .ok (.invokestatic 150, 3) := by decide +kernel
theorem dL_envelope_605 : decode cL_envelope 605 = .ok (.ldc 25, 2) := by decide +kernel
theorem dL_envelope_607 : decode cL_envelope 607 = .ok (.if_icmp .ne 20, 3) := by decide +kernel
theorem dL_envelope_610 : decode cL_envelope 610 = .ok (.aload_n 0, 1) := by decide +kernel
theorem dL_envelope_611 : decode cL_envelope 611 = .ok (.iconst 0, 1) := by decide +kernel
theorem dL_envelope_612 : decode cL_envelope 612 = .ok (.iload_n 3, 1) := by decide +kernel
theorem dL_envelope_613 : decode cL_envelope 613 = .ok (.iload 5, 2) := by decide +kernel
theorem dL_envelope_615 : decode cL_envelope 615 = .ok (.invokestatic 167, 3) := by decide +kernel
theorem dL_envelope_618 : decode cL_envelope 618 = .ok (.ldc 25, 2) := by decide +kernel
theorem dL_envelope_620 : decode cL_envelope 620 = .ok (.if_icmp .ne 7, 3) := by decide +kernel
theorem dL_envelope_623 : decode cL_envelope 623 = .ok (.iconst 1, 1) := by decide +kernel
theorem dL_envelope_624 : decode cL_envelope 624 = .ok (.goto 4, 3) := by decide +kernel
theorem dL_envelope_627 : decode cL_envelope 627 = .ok (.iconst 0, 1) := by decide +kernel
theorem dL_envelope_628 : decode cL_envelope 628 = .ok (.ireturn, 1) := by decide +kernel
section
variable {p : Program} {l : Launch} {e : Env} {s : State} {m : MethodId} {args : Array Value} {below : List Frame} {meth : Method} {c : Code} {D : va_G} {cA : Nat → ClassId} {A : Nat → Prop} {q0 t0 : Nat → Nat} {q tq : Nat → Nat → Nat} {ab aw : Nat}
variable {Qf : Int32 → State → Prop}
abbrev rm_L_envelope : Room := { frames := 9, cells := 2, slots := 12, locals := 152 }
def f_L_envelope_598 (d : Dk) (b : (Nat → Int32)) (w : (Nat → Int32)) (x3 : Int32) (x5 : Int32) : Option (Int32) := ((gm_slotState d x3 x5).bind fun z1 => (if z1 = (-1000001 : Int32) then ((gm_whyNot d (0 : Int32) x3 x5).bind fun z2 => (if z2 = (-1000001 : Int32) then (some (1 : Int32)) else (some (0 : Int32)))) else (some (0 : Int32))))
set_option maxHeartbeats 1000000 in
set_option maxRecDepth 100000 in
theorem jl_envelope_598  {d : Dk} {b : (Nat → Int32)} {w : (Nat → Int32)} (X : LCx p l s m args meth c cL_envelope 16 D cA A) (hE : ∀ (z : Int32) (pc : Nat) (H : Heap) (locs : List Loc) (ls : Array Slot) (cells slots : Nat), (z = 0 ∨ z = 1) → decode cL_envelope pc = .ok (.ireturn, 1) → cells ≤ 2 → slots ≤ 12 → St D A s.heap (kbW q0 q cA d ab aw b w) H locs → W p l e rm_L_envelope s m args below meth c H locs cells slots (Qf z) (F0 m pc ls [.int z])) (x3 : Int32) (x5 : Int32) (z : Int32) (hf : f_L_envelope_598 d b w x3 x5 = some z) (H : Heap) (locs : List Loc) (ls : Array Slot) (h : St D A s.heap (kbW q0 q cA d ab aw b w) H locs) (hl : lv_has ls 16 [(0, .ref (q0 0)), (3, .int x3), (5, .int x5)]) : W p l e rm_L_envelope s m args below meth c H locs 0 0 (Qf z) (F0 m 598 ls []) := by
  obtain ⟨C, hl0, hXA, hN⟩ := id X
  obtain ⟨hx, hb, hml, hown, hts, hK, hlk⟩ := id C
  rw [f_L_envelope_598] at hf
  refine lv_aload_n (pc := 598) hx hb dL_envelope_598 rfl (lv_at hl 0 rfl) ?_
  refine lv_iload_n (pc := 599) hx hb dL_envelope_599 rfl (lv_at hl 1 rfl) ?_
  refine lv_iload (pc := 600) hx hb dL_envelope_600 (lv_at hl 2 rfl) ?_
  obtain ⟨z1, hc1, hf⟩ := bdS hf
  refine call_H (pc := 602) (As := [.ref (q0 0), .int x3, .int x5]) (rest := []) (ws' := (kbW q0 q cA d ab aw b w)) X h (vm_slotState d x3 x5 hc1) cx_L_150 (kbW_o q0 q cA d ab aw b w) (kbW_o q0 q cA d ab aw b w).symm rfl rfl rfl hl.1 (Nat.le_of_ble_eq_true rfl) dL_envelope_602 ⟨(Nat.le_of_ble_eq_true rfl), (Nat.le_of_ble_eq_true rfl)⟩ rfl rfl ⟨(Nat.le_of_ble_eq_true rfl), (Nat.le_of_ble_eq_true rfl)⟩ (fun H locs h => ?_)
  refine W.eq (g2 := F0 m 605 ls [.int z1]) rfl ?_
  refine lv_ldc (pc := 605) (v := -1000001) hx hb hown (hts _ kc_L_25) dL_envelope_605 ?_
  refine lv_icmp_ne (pc := 607) (tgt := 627) hx hb dL_envelope_607 (by decide) (fun c9 => ?_) (fun c9 => ?_)
  · have hf := ifF c9 hf
    refine lv_iconst (pc := 627) (v := 0) hx hb dL_envelope_627 (by decide) ?_
    cases hf
    exact hE (0 : Int32) 628 _ _ _ _ _ (Or.inl rfl) dL_envelope_628 (Nat.le_of_ble_eq_true rfl) (Nat.le_of_ble_eq_true rfl) h
  · have hf := ifT c9 hf
    refine lv_aload_n (pc := 610) hx hb dL_envelope_610 rfl (lv_at hl 0 rfl) ?_
    refine lv_iconst (pc := 611) (v := 0) hx hb dL_envelope_611 (by decide) ?_
    refine lv_iload_n (pc := 612) hx hb dL_envelope_612 rfl (lv_at hl 1 rfl) ?_
    refine lv_iload (pc := 613) hx hb dL_envelope_613 (lv_at hl 2 rfl) ?_
    obtain ⟨z2, hc2, hf⟩ := bdS hf
    refine call_H (pc := 615) (As := [.ref (q0 0), .int (0 : Int32), .int x3, .int x5]) (rest := []) (ws' := (kbW q0 q cA d ab aw b w)) X h (vm_whyNot d (0 : Int32) x3 x5 hc2) cx_L_167 (kbW_o q0 q cA d ab aw b w) (kbW_o q0 q cA d ab aw b w).symm rfl rfl rfl hl.1 (Nat.le_of_ble_eq_true rfl) dL_envelope_615 ⟨(Nat.le_of_ble_eq_true rfl), (Nat.le_of_ble_eq_true rfl)⟩ rfl rfl ⟨(Nat.le_of_ble_eq_true rfl), (Nat.le_of_ble_eq_true rfl)⟩ (fun H locs h => ?_)
    refine W.eq (g2 := F0 m 618 ls [.int z2]) rfl ?_
    refine lv_ldc (pc := 618) (v := -1000001) hx hb hown (hts _ kc_L_25) dL_envelope_618 ?_
    refine lv_icmp_ne (pc := 620) (tgt := 627) hx hb dL_envelope_620 (by decide) (fun c9 => ?_) (fun c9 => ?_)
    · have hf := ifF c9 hf
      refine lv_iconst (pc := 627) (v := 0) hx hb dL_envelope_627 (by decide) ?_
      cases hf
      exact hE (0 : Int32) 628 _ _ _ _ _ (Or.inl rfl) dL_envelope_628 (Nat.le_of_ble_eq_true rfl) (Nat.le_of_ble_eq_true rfl) h
    · have hf := ifT c9 hf
      refine lv_iconst (pc := 623) (v := 1) hx hb dL_envelope_623 (by decide) ?_
      refine lv_goto (pc := 624) (tgt := 628) hx hb dL_envelope_624 (by decide) ?_
      cases hf
      exact hE (1 : Int32) 628 _ _ _ _ _ (Or.inr rfl) dL_envelope_628 (Nat.le_of_ble_eq_true rfl) (Nat.le_of_ble_eq_true rfl) h
def f_L_envelope_583 (d : Dk) (b : (Nat → Int32)) (w : (Nat → Int32)) (x3 : Int32) (x4 : Int32) (x5 : Int32) (x7 : Int32) (s0 : UInt32) (s1 : UInt32) : Option (Int32) := (if (Op.cmpValue (FP.fcmp s1 s0) .l) = 0 then (if x4 = (1 : Int32) then (if x7 = 0 then (some (0 : Int32)) else (f_L_envelope_598 d b w x3 x5)) else (f_L_envelope_598 d b w x3 x5)) else (some (0 : Int32)))
set_option maxHeartbeats 1000000 in
set_option maxRecDepth 100000 in
theorem jl_envelope_583  {d : Dk} {b : (Nat → Int32)} {w : (Nat → Int32)} (X : LCx p l s m args meth c cL_envelope 16 D cA A) (hE : ∀ (z : Int32) (pc : Nat) (H : Heap) (locs : List Loc) (ls : Array Slot) (cells slots : Nat), (z = 0 ∨ z = 1) → decode cL_envelope pc = .ok (.ireturn, 1) → cells ≤ 2 → slots ≤ 12 → St D A s.heap (kbW q0 q cA d ab aw b w) H locs → W p l e rm_L_envelope s m args below meth c H locs cells slots (Qf z) (F0 m pc ls [.int z])) (x3 : Int32) (x4 : Int32) (x5 : Int32) (x7 : Int32) (s0 : UInt32) (s1 : UInt32) (z : Int32) (hf : f_L_envelope_583 d b w x3 x4 x5 x7 s0 s1 = some z) (H : Heap) (locs : List Loc) (ls : Array Slot) (h : St D A s.heap (kbW q0 q cA d ab aw b w) H locs) (hl : lv_has ls 16 [(0, .ref (q0 0)), (3, .int x3), (4, .int x4), (5, .int x5), (7, .int x7)]) : W p l e rm_L_envelope s m args below meth c H locs 0 0 (Qf z) (F0 m 583 ls [.float s0, .float s1]) := by
  obtain ⟨C, hl0, hXA, hN⟩ := id X
  obtain ⟨hx, hb, hml, hown, hts, hK, hlk⟩ := id C
  rw [f_L_envelope_583] at hf
  refine lv_fcmp (pc := 583) hx hb dL_envelope_583 ?_
  refine lv_if_ne (pc := 584) (tgt := 627) hx hb dL_envelope_584 (by decide) (fun c9 => ?_) (fun c9 => ?_)
  · have hf := ifF c9 hf
    refine lv_iconst (pc := 627) (v := 0) hx hb dL_envelope_627 (by decide) ?_
    cases hf
    exact hE (0 : Int32) 628 _ _ _ _ _ (Or.inl rfl) dL_envelope_628 (Nat.le_of_ble_eq_true rfl) (Nat.le_of_ble_eq_true rfl) h
  · have hf := ifT c9 hf
    refine lv_iload (pc := 587) hx hb dL_envelope_587 (lv_at hl 2 rfl) ?_
    refine lv_iconst (pc := 589) (v := 1) hx hb dL_envelope_589 (by decide) ?_
    refine lv_icmp_ne (pc := 590) (tgt := 598) hx hb dL_envelope_590 (by decide) (fun c9 => ?_) (fun c9 => ?_)
    · have hf := ifF c9 hf
      exact jl_envelope_598 X hE   _ _ _ hf _ _ _ h (lv_sub hl [0, 1, 3] rfl)
    · have hf := ifT c9 hf
      refine lv_iload (pc := 593) hx hb dL_envelope_593 (lv_at hl 4 rfl) ?_
      refine lv_if_eq (pc := 595) (tgt := 627) hx hb dL_envelope_595 (by decide) (fun c9 => ?_) (fun c9 => ?_)
      · have hf := ifT c9 hf
        refine lv_iconst (pc := 627) (v := 0) hx hb dL_envelope_627 (by decide) ?_
        cases hf
        exact hE (0 : Int32) 628 _ _ _ _ _ (Or.inl rfl) dL_envelope_628 (Nat.le_of_ble_eq_true rfl) (Nat.le_of_ble_eq_true rfl) h
      · have hf := ifF c9 hf
        exact jl_envelope_598 X hE   _ _ _ hf _ _ _ h (lv_sub hl [0, 1, 3] rfl)
def f_L_envelope_517 (d : Dk) (b : (Nat → Int32)) (w : (Nat → Int32)) (x3 : Int32) (x4 : Int32) (x5 : Int32) (x6 : Int32) (x7 : Int32) : Option (Int32) := (if x5 < 0 then (some (0 : Int32)) else (if (9 : Int32) ≤ x5 then (some (0 : Int32)) else ((gn_events d x3).bind fun z1 => ((gn_openBehind d x3 z1).bind fun z2 => (if z2 = x7 then ((gn_events d x3).bind fun z3 => ((gn_stateBehind d x3 z3).bind fun z4 => (if z4 = x4 then ((gn_share d x3).bind fun z5 => (if x5 = 0 then (f_L_envelope_583 d b w x3 x4 x5 x7 FP.fconst0 z5) else ((f_L_many x6).bind fun z6 => (if nN (FP.i2f z6) (FP.i2f x5) then (f_L_envelope_583 d b w x3 x4 x5 x7 (FP.fdiv (FP.i2f z6) (FP.i2f x5)) z5) else none)))) else (some (0 : Int32))))) else (some (0 : Int32)))))))
set_option maxHeartbeats 1000000 in
set_option maxRecDepth 100000 in
theorem jl_envelope_517  {d : Dk} {b : (Nat → Int32)} {w : (Nat → Int32)} (X : LCx p l s m args meth c cL_envelope 16 D cA A) (hE : ∀ (z : Int32) (pc : Nat) (H : Heap) (locs : List Loc) (ls : Array Slot) (cells slots : Nat), (z = 0 ∨ z = 1) → decode cL_envelope pc = .ok (.ireturn, 1) → cells ≤ 2 → slots ≤ 12 → St D A s.heap (kbW q0 q cA d ab aw b w) H locs → W p l e rm_L_envelope s m args below meth c H locs cells slots (Qf z) (F0 m pc ls [.int z])) (x3 : Int32) (x4 : Int32) (x5 : Int32) (x6 : Int32) (x7 : Int32) (z : Int32) (hf : f_L_envelope_517 d b w x3 x4 x5 x6 x7 = some z) (H : Heap) (locs : List Loc) (ls : Array Slot) (h : St D A s.heap (kbW q0 q cA d ab aw b w) H locs) (hl : lv_has ls 16 [(0, .ref (q0 0)), (3, .int x3), (4, .int x4), (5, .int x5), (6, .int x6), (7, .int x7)]) : W p l e rm_L_envelope s m args below meth c H locs 0 0 (Qf z) (F0 m 517 ls []) := by
  obtain ⟨C, hl0, hXA, hN⟩ := id X
  obtain ⟨hx, hb, hml, hown, hts, hK, hlk⟩ := id C
  rw [f_L_envelope_517] at hf
  refine lv_iload (pc := 517) hx hb dL_envelope_517 (lv_at hl 3 rfl) ?_
  refine lv_if_lt (pc := 519) (tgt := 627) hx hb dL_envelope_519 (by decide) (fun c9 => ?_) (fun c9 => ?_)
  · have hf := ifT c9 hf
    refine lv_iconst (pc := 627) (v := 0) hx hb dL_envelope_627 (by decide) ?_
    cases hf
    exact hE (0 : Int32) 628 _ _ _ _ _ (Or.inl rfl) dL_envelope_628 (Nat.le_of_ble_eq_true rfl) (Nat.le_of_ble_eq_true rfl) h
  · have hf := ifF c9 hf
    refine lv_iload (pc := 522) hx hb dL_envelope_522 (lv_at hl 3 rfl) ?_
    refine lv_bipush (pc := 524) (v := 9) hx hb dL_envelope_524 (by decide) ?_
    refine lv_icmp_ge (pc := 526) (tgt := 627) hx hb dL_envelope_526 (by decide) (fun c9 => ?_) (fun c9 => ?_)
    · have hf := ifT c9 hf
      refine lv_iconst (pc := 627) (v := 0) hx hb dL_envelope_627 (by decide) ?_
      cases hf
      exact hE (0 : Int32) 628 _ _ _ _ _ (Or.inl rfl) dL_envelope_628 (Nat.le_of_ble_eq_true rfl) (Nat.le_of_ble_eq_true rfl) h
    · have hf := ifF c9 hf
      refine lv_aload_n (pc := 529) hx hb dL_envelope_529 rfl (lv_at hl 0 rfl) ?_
      refine lv_iload_n (pc := 530) hx hb dL_envelope_530 rfl (lv_at hl 1 rfl) ?_
      refine lv_aload_n (pc := 531) hx hb dL_envelope_531 rfl (lv_at hl 0 rfl) ?_
      refine lv_iload_n (pc := 532) hx hb dL_envelope_532 rfl (lv_at hl 1 rfl) ?_
      obtain ⟨z1, hc1, hf⟩ := bdS hf
      refine call_H (pc := 533) (As := [.ref (q0 0), .int x3]) (rest := [.int x3, .ref (q0 0)]) (ws' := (kbW q0 q cA d ab aw b w)) X h (vn_events d x3 hc1) cx_L_141 (kbW_o q0 q cA d ab aw b w) (kbW_o q0 q cA d ab aw b w).symm rfl rfl rfl hl.1 (Nat.le_of_ble_eq_true rfl) dL_envelope_533 ⟨(Nat.le_of_ble_eq_true rfl), (Nat.le_of_ble_eq_true rfl)⟩ rfl rfl ⟨(Nat.le_of_ble_eq_true rfl), (Nat.le_of_ble_eq_true rfl)⟩ (fun H locs h => ?_)
      refine W.eq (g2 := F0 m 536 ls [.int z1, .int x3, .ref (q0 0)]) rfl ?_
      obtain ⟨z2, hc2, hf⟩ := bdS hf
      refine call_H (pc := 536) (As := [.ref (q0 0), .int x3, .int z1]) (rest := []) (ws' := (kbW q0 q cA d ab aw b w)) X h (vn_openBehind d x3 z1 hc2) cx_L_170 (kbW_o q0 q cA d ab aw b w) (kbW_o q0 q cA d ab aw b w).symm rfl rfl rfl hl.1 (Nat.le_of_ble_eq_true rfl) dL_envelope_536 ⟨(Nat.le_of_ble_eq_true rfl), (Nat.le_of_ble_eq_true rfl)⟩ rfl rfl ⟨(Nat.le_of_ble_eq_true rfl), (Nat.le_of_ble_eq_true rfl)⟩ (fun H locs h => ?_)
      refine W.eq (g2 := F0 m 539 ls [.int z2]) rfl ?_
      refine lv_iload (pc := 539) hx hb dL_envelope_539 (lv_at hl 5 rfl) ?_
      refine lv_icmp_ne (pc := 541) (tgt := 627) hx hb dL_envelope_541 (by decide) (fun c9 => ?_) (fun c9 => ?_)
      · have hf := ifF c9 hf
        refine lv_iconst (pc := 627) (v := 0) hx hb dL_envelope_627 (by decide) ?_
        cases hf
        exact hE (0 : Int32) 628 _ _ _ _ _ (Or.inl rfl) dL_envelope_628 (Nat.le_of_ble_eq_true rfl) (Nat.le_of_ble_eq_true rfl) h
      · have hf := ifT c9 hf
        refine lv_aload_n (pc := 544) hx hb dL_envelope_544 rfl (lv_at hl 0 rfl) ?_
        refine lv_iload_n (pc := 545) hx hb dL_envelope_545 rfl (lv_at hl 1 rfl) ?_
        refine lv_aload_n (pc := 546) hx hb dL_envelope_546 rfl (lv_at hl 0 rfl) ?_
        refine lv_iload_n (pc := 547) hx hb dL_envelope_547 rfl (lv_at hl 1 rfl) ?_
        obtain ⟨z3, hc3, hf⟩ := bdS hf
        refine call_H (pc := 548) (As := [.ref (q0 0), .int x3]) (rest := [.int x3, .ref (q0 0)]) (ws' := (kbW q0 q cA d ab aw b w)) X h (vn_events d x3 hc3) cx_L_141 (kbW_o q0 q cA d ab aw b w) (kbW_o q0 q cA d ab aw b w).symm rfl rfl rfl hl.1 (Nat.le_of_ble_eq_true rfl) dL_envelope_548 ⟨(Nat.le_of_ble_eq_true rfl), (Nat.le_of_ble_eq_true rfl)⟩ rfl rfl ⟨(Nat.le_of_ble_eq_true rfl), (Nat.le_of_ble_eq_true rfl)⟩ (fun H locs h => ?_)
        refine W.eq (g2 := F0 m 551 ls [.int z3, .int x3, .ref (q0 0)]) rfl ?_
        obtain ⟨z4, hc4, hf⟩ := bdS hf
        refine call_H (pc := 551) (As := [.ref (q0 0), .int x3, .int z3]) (rest := []) (ws' := (kbW q0 q cA d ab aw b w)) X h (vn_stateBehind d x3 z3 hc4) cx_L_172 (kbW_o q0 q cA d ab aw b w) (kbW_o q0 q cA d ab aw b w).symm rfl rfl rfl hl.1 (Nat.le_of_ble_eq_true rfl) dL_envelope_551 ⟨(Nat.le_of_ble_eq_true rfl), (Nat.le_of_ble_eq_true rfl)⟩ rfl rfl ⟨(Nat.le_of_ble_eq_true rfl), (Nat.le_of_ble_eq_true rfl)⟩ (fun H locs h => ?_)
        refine W.eq (g2 := F0 m 554 ls [.int z4]) rfl ?_
        refine lv_iload (pc := 554) hx hb dL_envelope_554 (lv_at hl 2 rfl) ?_
        refine lv_icmp_ne (pc := 556) (tgt := 627) hx hb dL_envelope_556 (by decide) (fun c9 => ?_) (fun c9 => ?_)
        · have hf := ifF c9 hf
          refine lv_iconst (pc := 627) (v := 0) hx hb dL_envelope_627 (by decide) ?_
          cases hf
          exact hE (0 : Int32) 628 _ _ _ _ _ (Or.inl rfl) dL_envelope_628 (Nat.le_of_ble_eq_true rfl) (Nat.le_of_ble_eq_true rfl) h
        · have hf := ifT c9 hf
          refine lv_aload_n (pc := 559) hx hb dL_envelope_559 rfl (lv_at hl 0 rfl) ?_
          refine lv_iload_n (pc := 560) hx hb dL_envelope_560 rfl (lv_at hl 1 rfl) ?_
          obtain ⟨z5, hc5, hf⟩ := bdS hf
          refine call_H (pc := 561) (As := [.ref (q0 0), .int x3]) (rest := []) (ws' := (kbW q0 q cA d ab aw b w)) X h (vn_share d x3 hc5) cx_L_174 (kbW_o q0 q cA d ab aw b w) (kbW_o q0 q cA d ab aw b w).symm rfl rfl rfl hl.1 (Nat.le_of_ble_eq_true rfl) dL_envelope_561 ⟨(Nat.le_of_ble_eq_true rfl), (Nat.le_of_ble_eq_true rfl)⟩ rfl rfl ⟨(Nat.le_of_ble_eq_true rfl), (Nat.le_of_ble_eq_true rfl)⟩ (fun H locs h => ?_)
          refine W.eq (g2 := F0 m 564 ls [.float z5]) rfl ?_
          refine lv_iload (pc := 564) hx hb dL_envelope_564 (lv_at hl 3 rfl) ?_
          refine lv_if_ne (pc := 566) (tgt := 573) hx hb dL_envelope_566 (by decide) (fun c9 => ?_) (fun c9 => ?_)
          · have hf := ifF c9 hf
            refine lv_iload (pc := 573) hx hb dL_envelope_573 (lv_at hl 4 rfl) ?_
            obtain ⟨z6, hc6, hf⟩ := bdS hf
            refine call_SR (pc := 575) (As := [.int x6]) (rest := [.float z5]) (wc := []) C h (k_L_many x6 hc6) cw_L_160 [] rfl rfl rfl rfl hl.1 (Nat.le_of_ble_eq_true rfl) dL_envelope_575 ⟨(Nat.le_of_ble_eq_true rfl), (Nat.le_of_ble_eq_true rfl)⟩ rfl rfl ⟨(Nat.le_of_ble_eq_true rfl), (Nat.le_of_ble_eq_true rfl)⟩ (fun H locs h => ?_)
            refine W.eq (g2 := F0 m 578 ls [.int z6, .float z5]) rfl ?_
            refine lv_i2f (pc := 578) hx hb dL_envelope_578 ?_
            refine lv_iload (pc := 579) hx hb dL_envelope_579 (lv_at hl 3 rfl) ?_
            refine lv_i2f (pc := 581) hx hb dL_envelope_581 ?_
            obtain ⟨hne, hf⟩ := ifS hf
            refine lv_fdiv (pc := 582) hx hb dL_envelope_582 hne ?_
            exact jl_envelope_583 X hE   _ _ _ _ _ _ _ hf _ _ _ h (lv_sub hl [0, 1, 2, 3, 5] rfl)
          · have hf := ifT c9 hf
            refine lv_fconst0 (pc := 569) hx hb dL_envelope_569 ?_
            refine lv_goto (pc := 570) (tgt := 583) hx hb dL_envelope_570 (by decide) ?_
            exact jl_envelope_583 X hE   _ _ _ _ _ _ _ hf _ _ _ h (lv_sub hl [0, 1, 2, 3, 5] rfl)
def f_L_envelope_394 (d : Dk) (b : (Nat → Int32)) (w : (Nat → Int32)) (r86 : Int32 → Int32 → Int32 → Int32 → Int32 → Int32 → Option (Int32)) : Nat → Int32 → Int32 → Int32 → Int32 → Int32 → Int32 → Int32 → Int32 → Option (Int32)
  | 0, _, _, _, _, _, _, _, _ => none
  | n + 1, x3, x4, x5, x6, x7, x8, x9, x14 => (if (8 : Int32) ≤ x14 then (r86 x3 x4 x5 x6 x7 (x8 + (1 : Int32))) else ((gn_whyNot d x14 x3 x8).bind fun z1 => (if x4 = (1 : Int32) then (if x9 = (1 : Int32) then (if inb (((8 : Int32) * x3) + x8) 48 then (if x14 = (w (((8 : Int32) * x3) + x8).toNatClampNeg) then (if z1 = 0 then ((f_L_envelope_394 d b w r86 n) x3 x4 x5 x6 x7 x8 x9 (x14 + (1 : Int32))) else (some (0 : Int32))) else (if inb (((8 : Int32) * x3) + x8) 48 then ((gn_delegateToday d (w (((8 : Int32) * x3) + x8).toNatClampNeg)).bind fun z2 => (if z2 = x14 then (if z1 = (1 : Int32) then ((f_L_envelope_394 d b w r86 n) x3 x4 x5 x6 x7 x8 x9 (x14 + (1 : Int32))) else (if z1 = (5 : Int32) then ((f_L_envelope_394 d b w r86 n) x3 x4 x5 x6 x7 x8 x9 (x14 + (1 : Int32))) else (some (0 : Int32)))) else (if z1 = (4 : Int32) then ((f_L_envelope_394 d b w r86 n) x3 x4 x5 x6 x7 x8 x9 (x14 + (1 : Int32))) else (some (0 : Int32))))) else none)) else none) else (if z1 = (3 : Int32) then ((f_L_envelope_394 d b w r86 n) x3 x4 x5 x6 x7 x8 x9 (x14 + (1 : Int32))) else (some (0 : Int32)))) else (if z1 = (2 : Int32) then ((f_L_envelope_394 d b w r86 n) x3 x4 x5 x6 x7 x8 x9 (x14 + (1 : Int32))) else (some (0 : Int32))))))
set_option maxHeartbeats 1000000 in
set_option maxRecDepth 100000 in
theorem jl_envelope_394  {d : Dk} {b : (Nat → Int32)} {w : (Nat → Int32)} (X : LCx p l s m args meth c cL_envelope 16 D cA A) (hE : ∀ (z : Int32) (pc : Nat) (H : Heap) (locs : List Loc) (ls : Array Slot) (cells slots : Nat), (z = 0 ∨ z = 1) → decode cL_envelope pc = .ok (.ireturn, 1) → cells ≤ 2 → slots ≤ 12 → St D A s.heap (kbW q0 q cA d ab aw b w) H locs → W p l e rm_L_envelope s m args below meth c H locs cells slots (Qf z) (F0 m pc ls [.int z])) (r86 : Int32 → Int32 → Int32 → Int32 → Int32 → Int32 → Option (Int32)) (hr86 : ∀ (x3 : Int32) (x4 : Int32) (x5 : Int32) (x6 : Int32) (x7 : Int32) (x8 : Int32) (z : Int32), r86 x3 x4 x5 x6 x7 x8 = some z → ∀ (H : Heap) (locs : List Loc) (ls : Array Slot), St D A s.heap (kbW q0 q cA d ab aw b w) H locs → lv_has ls 16 [(0, .ref (q0 0)), (1, .ref (ab)), (2, .ref (aw)), (3, .int x3), (4, .int x4), (5, .int x5), (6, .int x6), (7, .int x7), (8, .int x8)] → W p l e rm_L_envelope s m args below meth c H locs 0 0 (Qf z) (F0 m 86 ls [])) : ∀ (n : Nat) (x3 : Int32) (x4 : Int32) (x5 : Int32) (x6 : Int32) (x7 : Int32) (x8 : Int32) (x9 : Int32) (x14 : Int32) (z : Int32), f_L_envelope_394 d b w r86 n x3 x4 x5 x6 x7 x8 x9 x14 = some z → ∀ (H : Heap) (locs : List Loc) (ls : Array Slot), St D A s.heap (kbW q0 q cA d ab aw b w) H locs → lv_has ls 16 [(0, .ref (q0 0)), (1, .ref (ab)), (2, .ref (aw)), (3, .int x3), (4, .int x4), (5, .int x5), (6, .int x6), (7, .int x7), (8, .int x8), (9, .int x9), (14, .int x14)] → W p l e rm_L_envelope s m args below meth c H locs 0 0 (Qf z) (F0 m 394 ls []) := by
  obtain ⟨C, hl0, hXA, hN⟩ := id X
  obtain ⟨hx, hb, hml, hown, hts, hK, hlk⟩ := id C
  intro n
  induction n with
  | zero => intro x3 x4 x5 x6 x7 x8 x9 x14 z hf; rw [f_L_envelope_394] at hf; cases hf
  | succ n ih =>
    intro x3 x4 x5 x6 x7 x8 x9 x14 z hf H locs ls h hl
    rw [f_L_envelope_394] at hf
    refine lv_iload (pc := 394) hx hb dL_envelope_394 (lv_at hl 10 rfl) ?_
    refine lv_bipush (pc := 396) (v := 8) hx hb dL_envelope_396 (by decide) ?_
    refine lv_icmp_ge (pc := 398) (tgt := 511) hx hb dL_envelope_398 (by decide) (fun c9 => ?_) (fun c9 => ?_)
    · have hf := ifT c9 hf
      refine lv_iinc (pc := 511) (v := (x8 + (1 : Int32))) (lv' := [(8, .int (x8 + (1 : Int32))), (0, .ref (q0 0)), (1, .ref (ab)), (2, .ref (aw)), (3, .int x3), (4, .int x4), (5, .int x5), (6, .int x6), (7, .int x7), (9, .int x9), (14, .int x14)]) hx hb dL_envelope_511 hl (k := 8) rfl rfl (by decide) rfl (fun ls hl => ?_)
      refine lv_goto (pc := 514) (tgt := 86) hx hb dL_envelope_514 (by decide) ?_
      exact hr86 _ _ _ _ _ _ _ hf _ _ _ h (lv_sub hl [1, 2, 3, 4, 5, 6, 7, 8, 0] rfl)
    · have hf := ifF c9 hf
      refine lv_aload_n (pc := 401) hx hb dL_envelope_401 rfl (lv_at hl 0 rfl) ?_
      refine lv_iload (pc := 402) hx hb dL_envelope_402 (lv_at hl 10 rfl) ?_
      refine lv_iload_n (pc := 404) hx hb dL_envelope_404 rfl (lv_at hl 3 rfl) ?_
      refine lv_iload (pc := 405) hx hb dL_envelope_405 (lv_at hl 8 rfl) ?_
      obtain ⟨z1, hc1, hf⟩ := bdS hf
      refine call_H (pc := 407) (As := [.ref (q0 0), .int x14, .int x3, .int x8]) (rest := []) (ws' := (kbW q0 q cA d ab aw b w)) X h (vn_whyNot d x14 x3 x8 hc1) cx_L_167 (kbW_o q0 q cA d ab aw b w) (kbW_o q0 q cA d ab aw b w).symm rfl rfl rfl hl.1 (Nat.le_of_ble_eq_true rfl) dL_envelope_407 ⟨(Nat.le_of_ble_eq_true rfl), (Nat.le_of_ble_eq_true rfl)⟩ rfl rfl ⟨(Nat.le_of_ble_eq_true rfl), (Nat.le_of_ble_eq_true rfl)⟩ (fun H locs h => ?_)
      refine W.eq (g2 := F0 m 410 ls [.int z1]) rfl ?_
      refine lv_istore (pc := 410) (lv' := [(15, .int z1), (0, .ref (q0 0)), (1, .ref (ab)), (2, .ref (aw)), (3, .int x3), (4, .int x4), (5, .int x5), (6, .int x6), (7, .int x7), (8, .int x8), (9, .int x9), (14, .int x14)]) hx hb dL_envelope_410 hl (by decide) rfl (fun ls hl => ?_)
      refine lv_iload (pc := 412) hx hb dL_envelope_412 (lv_at hl 5 rfl) ?_
      refine lv_iconst (pc := 414) (v := 1) hx hb dL_envelope_414 (by decide) ?_
      refine lv_icmp_eq (pc := 415) (tgt := 427) hx hb dL_envelope_415 (by decide) (fun c9 => ?_) (fun c9 => ?_)
      · have hf := ifT c9 hf
        refine lv_iload (pc := 427) hx hb dL_envelope_427 (lv_at hl 10 rfl) ?_
        refine lv_iconst (pc := 429) (v := 1) hx hb dL_envelope_429 (by decide) ?_
        refine lv_icmp_eq (pc := 430) (tgt := 442) hx hb dL_envelope_430 (by decide) (fun c9 => ?_) (fun c9 => ?_)
        · have hf := ifT c9 hf
          refine lv_iload (pc := 442) hx hb dL_envelope_442 (lv_at hl 11 rfl) ?_
          refine lv_aload_n (pc := 444) hx hb dL_envelope_444 rfl (lv_at hl 3 rfl) ?_
          refine lv_bipush (pc := 445) (v := 8) hx hb dL_envelope_445 (by decide) ?_
          refine lv_iload_n (pc := 447) hx hb dL_envelope_447 rfl (lv_at hl 4 rfl) ?_
          refine lv_imul (pc := 448) hx hb dL_envelope_448 ?_
          refine lv_iload (pc := 449) hx hb dL_envelope_449 (lv_at hl 9 rfl) ?_
          refine lv_iadd (pc := 451) hx hb dL_envelope_451 ?_
          obtain ⟨hin, hf⟩ := ifS hf
          refine g_ild (pc := 452) (n := 48) (f := w) C h.1 1 (kbW_1 ..) hin dL_envelope_452 ?_
          refine lv_icmp_ne (pc := 453) (tgt := 464) hx hb dL_envelope_453 (by decide) (fun c9 => ?_) (fun c9 => ?_)
          · have hf := ifF c9 hf
            refine lv_aload_n (pc := 464) hx hb dL_envelope_464 rfl (lv_at hl 1 rfl) ?_
            refine lv_aload_n (pc := 465) hx hb dL_envelope_465 rfl (lv_at hl 3 rfl) ?_
            refine lv_bipush (pc := 466) (v := 8) hx hb dL_envelope_466 (by decide) ?_
            refine lv_iload_n (pc := 468) hx hb dL_envelope_468 rfl (lv_at hl 4 rfl) ?_
            refine lv_imul (pc := 469) hx hb dL_envelope_469 ?_
            refine lv_iload (pc := 470) hx hb dL_envelope_470 (lv_at hl 9 rfl) ?_
            refine lv_iadd (pc := 472) hx hb dL_envelope_472 ?_
            obtain ⟨hin, hf⟩ := ifS hf
            refine g_ild (pc := 473) (n := 48) (f := w) C h.1 1 (kbW_1 ..) hin dL_envelope_473 ?_
            obtain ⟨z2, hc2, hf⟩ := bdS hf
            refine call_H (pc := 474) (As := [.ref (q0 0), .int (w (((8 : Int32) * x3) + x8).toNatClampNeg)]) (rest := []) (ws' := (kbW q0 q cA d ab aw b w)) X h (vn_delegateToday d (w (((8 : Int32) * x3) + x8).toNatClampNeg) hc2) cx_L_154 (kbW_o q0 q cA d ab aw b w) (kbW_o q0 q cA d ab aw b w).symm rfl rfl rfl hl.1 (Nat.le_of_ble_eq_true rfl) dL_envelope_474 ⟨(Nat.le_of_ble_eq_true rfl), (Nat.le_of_ble_eq_true rfl)⟩ rfl rfl ⟨(Nat.le_of_ble_eq_true rfl), (Nat.le_of_ble_eq_true rfl)⟩ (fun H locs h => ?_)
            refine W.eq (g2 := F0 m 477 ls [.int z2]) rfl ?_
            refine lv_iload (pc := 477) hx hb dL_envelope_477 (lv_at hl 11 rfl) ?_
            refine lv_icmp_eq (pc := 479) (tgt := 491) hx hb dL_envelope_479 (by decide) (fun c9 => ?_) (fun c9 => ?_)
            · have hf := ifT c9 hf
              refine lv_iload (pc := 491) hx hb dL_envelope_491 (lv_at hl 0 rfl) ?_
              refine lv_iconst (pc := 493) (v := 1) hx hb dL_envelope_493 (by decide) ?_
              refine lv_icmp_eq (pc := 494) (tgt := 505) hx hb dL_envelope_494 (by decide) (fun c9 => ?_) (fun c9 => ?_)
              · have hf := ifT c9 hf
                refine lv_iinc (pc := 505) (v := (x14 + (1 : Int32))) (lv' := [(14, .int (x14 + (1 : Int32))), (15, .int z1), (0, .ref (q0 0)), (1, .ref (ab)), (2, .ref (aw)), (3, .int x3), (4, .int x4), (5, .int x5), (6, .int x6), (7, .int x7), (8, .int x8), (9, .int x9)]) hx hb dL_envelope_505 hl (k := 11) rfl rfl (by decide) rfl (fun ls hl => ?_)
                refine lv_goto (pc := 508) (tgt := 394) hx hb dL_envelope_508 (by decide) ?_
                exact ih _ _ _ _ _ _ _ _ _ hf _ _ _ h (lv_sub hl [2, 3, 4, 5, 6, 7, 8, 9, 10, 11, 0] rfl)
              · have hf := ifF c9 hf
                refine lv_iload (pc := 497) hx hb dL_envelope_497 (lv_at hl 0 rfl) ?_
                refine lv_iconst (pc := 499) (v := 5) hx hb dL_envelope_499 (by decide) ?_
                refine lv_icmp_eq (pc := 500) (tgt := 505) hx hb dL_envelope_500 (by decide) (fun c9 => ?_) (fun c9 => ?_)
                · have hf := ifT c9 hf
                  refine lv_iinc (pc := 505) (v := (x14 + (1 : Int32))) (lv' := [(14, .int (x14 + (1 : Int32))), (15, .int z1), (0, .ref (q0 0)), (1, .ref (ab)), (2, .ref (aw)), (3, .int x3), (4, .int x4), (5, .int x5), (6, .int x6), (7, .int x7), (8, .int x8), (9, .int x9)]) hx hb dL_envelope_505 hl (k := 11) rfl rfl (by decide) rfl (fun ls hl => ?_)
                  refine lv_goto (pc := 508) (tgt := 394) hx hb dL_envelope_508 (by decide) ?_
                  exact ih _ _ _ _ _ _ _ _ _ hf _ _ _ h (lv_sub hl [2, 3, 4, 5, 6, 7, 8, 9, 10, 11, 0] rfl)
                · have hf := ifF c9 hf
                  refine lv_iconst (pc := 503) (v := 0) hx hb dL_envelope_503 (by decide) ?_
                  cases hf
                  exact hE (0 : Int32) 504 _ _ _ _ _ (Or.inl rfl) dL_envelope_504 (Nat.le_of_ble_eq_true rfl) (Nat.le_of_ble_eq_true rfl) h
            · have hf := ifF c9 hf
              refine lv_iload (pc := 482) hx hb dL_envelope_482 (lv_at hl 0 rfl) ?_
              refine lv_iconst (pc := 484) (v := 4) hx hb dL_envelope_484 (by decide) ?_
              refine lv_icmp_eq (pc := 485) (tgt := 505) hx hb dL_envelope_485 (by decide) (fun c9 => ?_) (fun c9 => ?_)
              · have hf := ifT c9 hf
                refine lv_iinc (pc := 505) (v := (x14 + (1 : Int32))) (lv' := [(14, .int (x14 + (1 : Int32))), (15, .int z1), (0, .ref (q0 0)), (1, .ref (ab)), (2, .ref (aw)), (3, .int x3), (4, .int x4), (5, .int x5), (6, .int x6), (7, .int x7), (8, .int x8), (9, .int x9)]) hx hb dL_envelope_505 hl (k := 11) rfl rfl (by decide) rfl (fun ls hl => ?_)
                refine lv_goto (pc := 508) (tgt := 394) hx hb dL_envelope_508 (by decide) ?_
                exact ih _ _ _ _ _ _ _ _ _ hf _ _ _ h (lv_sub hl [2, 3, 4, 5, 6, 7, 8, 9, 10, 11, 0] rfl)
              · have hf := ifF c9 hf
                refine lv_goto (pc := 488) (tgt := 503) hx hb dL_envelope_488 (by decide) ?_
                refine lv_iconst (pc := 503) (v := 0) hx hb dL_envelope_503 (by decide) ?_
                cases hf
                exact hE (0 : Int32) 504 _ _ _ _ _ (Or.inl rfl) dL_envelope_504 (Nat.le_of_ble_eq_true rfl) (Nat.le_of_ble_eq_true rfl) h
          · have hf := ifT c9 hf
            refine lv_iload (pc := 456) hx hb dL_envelope_456 (lv_at hl 0 rfl) ?_
            refine lv_if_eq (pc := 458) (tgt := 505) hx hb dL_envelope_458 (by decide) (fun c9 => ?_) (fun c9 => ?_)
            · have hf := ifT c9 hf
              refine lv_iinc (pc := 505) (v := (x14 + (1 : Int32))) (lv' := [(14, .int (x14 + (1 : Int32))), (15, .int z1), (0, .ref (q0 0)), (1, .ref (ab)), (2, .ref (aw)), (3, .int x3), (4, .int x4), (5, .int x5), (6, .int x6), (7, .int x7), (8, .int x8), (9, .int x9)]) hx hb dL_envelope_505 hl (k := 11) rfl rfl (by decide) rfl (fun ls hl => ?_)
              refine lv_goto (pc := 508) (tgt := 394) hx hb dL_envelope_508 (by decide) ?_
              exact ih _ _ _ _ _ _ _ _ _ hf _ _ _ h (lv_sub hl [2, 3, 4, 5, 6, 7, 8, 9, 10, 11, 0] rfl)
            · have hf := ifF c9 hf
              refine lv_goto (pc := 461) (tgt := 503) hx hb dL_envelope_461 (by decide) ?_
              refine lv_iconst (pc := 503) (v := 0) hx hb dL_envelope_503 (by decide) ?_
              cases hf
              exact hE (0 : Int32) 504 _ _ _ _ _ (Or.inl rfl) dL_envelope_504 (Nat.le_of_ble_eq_true rfl) (Nat.le_of_ble_eq_true rfl) h
        · have hf := ifF c9 hf
          refine lv_iload (pc := 433) hx hb dL_envelope_433 (lv_at hl 0 rfl) ?_
          refine lv_iconst (pc := 435) (v := 3) hx hb dL_envelope_435 (by decide) ?_
          refine lv_icmp_eq (pc := 436) (tgt := 505) hx hb dL_envelope_436 (by decide) (fun c9 => ?_) (fun c9 => ?_)
          · have hf := ifT c9 hf
            refine lv_iinc (pc := 505) (v := (x14 + (1 : Int32))) (lv' := [(14, .int (x14 + (1 : Int32))), (15, .int z1), (0, .ref (q0 0)), (1, .ref (ab)), (2, .ref (aw)), (3, .int x3), (4, .int x4), (5, .int x5), (6, .int x6), (7, .int x7), (8, .int x8), (9, .int x9)]) hx hb dL_envelope_505 hl (k := 11) rfl rfl (by decide) rfl (fun ls hl => ?_)
            refine lv_goto (pc := 508) (tgt := 394) hx hb dL_envelope_508 (by decide) ?_
            exact ih _ _ _ _ _ _ _ _ _ hf _ _ _ h (lv_sub hl [2, 3, 4, 5, 6, 7, 8, 9, 10, 11, 0] rfl)
          · have hf := ifF c9 hf
            refine lv_goto (pc := 439) (tgt := 503) hx hb dL_envelope_439 (by decide) ?_
            refine lv_iconst (pc := 503) (v := 0) hx hb dL_envelope_503 (by decide) ?_
            cases hf
            exact hE (0 : Int32) 504 _ _ _ _ _ (Or.inl rfl) dL_envelope_504 (Nat.le_of_ble_eq_true rfl) (Nat.le_of_ble_eq_true rfl) h
      · have hf := ifF c9 hf
        refine lv_iload (pc := 418) hx hb dL_envelope_418 (lv_at hl 0 rfl) ?_
        refine lv_iconst (pc := 420) (v := 2) hx hb dL_envelope_420 (by decide) ?_
        refine lv_icmp_eq (pc := 421) (tgt := 505) hx hb dL_envelope_421 (by decide) (fun c9 => ?_) (fun c9 => ?_)
        · have hf := ifT c9 hf
          refine lv_iinc (pc := 505) (v := (x14 + (1 : Int32))) (lv' := [(14, .int (x14 + (1 : Int32))), (15, .int z1), (0, .ref (q0 0)), (1, .ref (ab)), (2, .ref (aw)), (3, .int x3), (4, .int x4), (5, .int x5), (6, .int x6), (7, .int x7), (8, .int x8), (9, .int x9)]) hx hb dL_envelope_505 hl (k := 11) rfl rfl (by decide) rfl (fun ls hl => ?_)
          refine lv_goto (pc := 508) (tgt := 394) hx hb dL_envelope_508 (by decide) ?_
          exact ih _ _ _ _ _ _ _ _ _ hf _ _ _ h (lv_sub hl [2, 3, 4, 5, 6, 7, 8, 9, 10, 11, 0] rfl)
        · have hf := ifF c9 hf
          refine lv_goto (pc := 424) (tgt := 503) hx hb dL_envelope_424 (by decide) ?_
          refine lv_iconst (pc := 503) (v := 0) hx hb dL_envelope_503 (by decide) ?_
          cases hf
          exact hE (0 : Int32) 504 _ _ _ _ _ (Or.inl rfl) dL_envelope_504 (Nat.le_of_ble_eq_true rfl) (Nat.le_of_ble_eq_true rfl) h
def f_L_envelope_343 (d : Dk) (b : (Nat → Int32)) (w : (Nat → Int32)) (r86 : Int32 → Int32 → Int32 → Int32 → Int32 → Int32 → Option (Int32)) (x3 : Int32) (x4 : Int32) (x5 : Int32) (x6 : Int32) (x7 : Int32) (x8 : Int32) (x9 : Int32) (x10 : Int32) (x11 : Int32) (x12 : Int32) (s0 : Int32) : Option (Int32) := (if s0 = 0 then (some (0 : Int32)) else ((gn_missing d x3 x8).bind fun z1 => (if z1 = x10 then ((gn_roundOf d x3 x8).bind fun z2 => (if z2 = x11 then ((gn_ahead d x3 x8).bind fun z3 => ((f_L_many x12).bind fun z4 => (if z3 = z4 then (f_L_envelope_394 d b w r86 FU x3 x4 x5 x6 x7 x8 x9 (0 : Int32)) else (some (0 : Int32))))) else (some (0 : Int32)))) else (some (0 : Int32)))))
set_option maxHeartbeats 1000000 in
set_option maxRecDepth 100000 in
theorem jl_envelope_343  {d : Dk} {b : (Nat → Int32)} {w : (Nat → Int32)} (X : LCx p l s m args meth c cL_envelope 16 D cA A) (hE : ∀ (z : Int32) (pc : Nat) (H : Heap) (locs : List Loc) (ls : Array Slot) (cells slots : Nat), (z = 0 ∨ z = 1) → decode cL_envelope pc = .ok (.ireturn, 1) → cells ≤ 2 → slots ≤ 12 → St D A s.heap (kbW q0 q cA d ab aw b w) H locs → W p l e rm_L_envelope s m args below meth c H locs cells slots (Qf z) (F0 m pc ls [.int z])) (r86 : Int32 → Int32 → Int32 → Int32 → Int32 → Int32 → Option (Int32)) (hr86 : ∀ (x3 : Int32) (x4 : Int32) (x5 : Int32) (x6 : Int32) (x7 : Int32) (x8 : Int32) (z : Int32), r86 x3 x4 x5 x6 x7 x8 = some z → ∀ (H : Heap) (locs : List Loc) (ls : Array Slot), St D A s.heap (kbW q0 q cA d ab aw b w) H locs → lv_has ls 16 [(0, .ref (q0 0)), (1, .ref (ab)), (2, .ref (aw)), (3, .int x3), (4, .int x4), (5, .int x5), (6, .int x6), (7, .int x7), (8, .int x8)] → W p l e rm_L_envelope s m args below meth c H locs 0 0 (Qf z) (F0 m 86 ls [])) (x3 : Int32) (x4 : Int32) (x5 : Int32) (x6 : Int32) (x7 : Int32) (x8 : Int32) (x9 : Int32) (x10 : Int32) (x11 : Int32) (x12 : Int32) (s0 : Int32) (z : Int32) (hf : f_L_envelope_343 d b w r86 x3 x4 x5 x6 x7 x8 x9 x10 x11 x12 s0 = some z) (H : Heap) (locs : List Loc) (ls : Array Slot) (h : St D A s.heap (kbW q0 q cA d ab aw b w) H locs) (hl : lv_has ls 16 [(0, .ref (q0 0)), (1, .ref (ab)), (2, .ref (aw)), (3, .int x3), (4, .int x4), (5, .int x5), (6, .int x6), (7, .int x7), (8, .int x8), (9, .int x9), (10, .int x10), (11, .int x11), (12, .int x12)]) : W p l e rm_L_envelope s m args below meth c H locs 0 0 (Qf z) (F0 m 343 ls [.int s0]) := by
  obtain ⟨C, hl0, hXA, hN⟩ := id X
  obtain ⟨hx, hb, hml, hown, hts, hK, hlk⟩ := id C
  rw [f_L_envelope_343] at hf
  refine lv_istore (pc := 343) (lv' := [(13, .int s0), (0, .ref (q0 0)), (1, .ref (ab)), (2, .ref (aw)), (3, .int x3), (4, .int x4), (5, .int x5), (6, .int x6), (7, .int x7), (8, .int x8), (9, .int x9), (10, .int x10), (11, .int x11), (12, .int x12)]) hx hb dL_envelope_343 hl (by decide) rfl (fun ls hl => ?_)
  refine lv_iload (pc := 345) hx hb dL_envelope_345 (lv_at hl 0 rfl) ?_
  refine lv_if_eq (pc := 347) (tgt := 389) hx hb dL_envelope_347 (by decide) (fun c9 => ?_) (fun c9 => ?_)
  · have hf := ifT c9 hf
    refine lv_iconst (pc := 389) (v := 0) hx hb dL_envelope_389 (by decide) ?_
    cases hf
    exact hE (0 : Int32) 390 _ _ _ _ _ (Or.inl rfl) dL_envelope_390 (Nat.le_of_ble_eq_true rfl) (Nat.le_of_ble_eq_true rfl) h
  · have hf := ifF c9 hf
    refine lv_aload_n (pc := 350) hx hb dL_envelope_350 rfl (lv_at hl 1 rfl) ?_
    refine lv_iload_n (pc := 351) hx hb dL_envelope_351 rfl (lv_at hl 4 rfl) ?_
    refine lv_iload (pc := 352) hx hb dL_envelope_352 (lv_at hl 9 rfl) ?_
    obtain ⟨z1, hc1, hf⟩ := bdS hf
    refine call_H (pc := 354) (As := [.ref (q0 0), .int x3, .int x8]) (rest := []) (ws' := (kbW q0 q cA d ab aw b w)) X h (vn_missing d x3 x8 hc1) cx_L_152 (kbW_o q0 q cA d ab aw b w) (kbW_o q0 q cA d ab aw b w).symm rfl rfl rfl hl.1 (Nat.le_of_ble_eq_true rfl) dL_envelope_354 ⟨(Nat.le_of_ble_eq_true rfl), (Nat.le_of_ble_eq_true rfl)⟩ rfl rfl ⟨(Nat.le_of_ble_eq_true rfl), (Nat.le_of_ble_eq_true rfl)⟩ (fun H locs h => ?_)
    refine W.eq (g2 := F0 m 357 ls [.int z1]) rfl ?_
    refine lv_iload (pc := 357) hx hb dL_envelope_357 (lv_at hl 11 rfl) ?_
    refine lv_icmp_ne (pc := 359) (tgt := 389) hx hb dL_envelope_359 (by decide) (fun c9 => ?_) (fun c9 => ?_)
    · have hf := ifF c9 hf
      refine lv_iconst (pc := 389) (v := 0) hx hb dL_envelope_389 (by decide) ?_
      cases hf
      exact hE (0 : Int32) 390 _ _ _ _ _ (Or.inl rfl) dL_envelope_390 (Nat.le_of_ble_eq_true rfl) (Nat.le_of_ble_eq_true rfl) h
    · have hf := ifT c9 hf
      refine lv_aload_n (pc := 362) hx hb dL_envelope_362 rfl (lv_at hl 1 rfl) ?_
      refine lv_iload_n (pc := 363) hx hb dL_envelope_363 rfl (lv_at hl 4 rfl) ?_
      refine lv_iload (pc := 364) hx hb dL_envelope_364 (lv_at hl 9 rfl) ?_
      obtain ⟨z2, hc2, hf⟩ := bdS hf
      refine call_H (pc := 366) (As := [.ref (q0 0), .int x3, .int x8]) (rest := []) (ws' := (kbW q0 q cA d ab aw b w)) X h (vn_roundOf d x3 x8 hc2) cx_L_163 (kbW_o q0 q cA d ab aw b w) (kbW_o q0 q cA d ab aw b w).symm rfl rfl rfl hl.1 (Nat.le_of_ble_eq_true rfl) dL_envelope_366 ⟨(Nat.le_of_ble_eq_true rfl), (Nat.le_of_ble_eq_true rfl)⟩ rfl rfl ⟨(Nat.le_of_ble_eq_true rfl), (Nat.le_of_ble_eq_true rfl)⟩ (fun H locs h => ?_)
      refine W.eq (g2 := F0 m 369 ls [.int z2]) rfl ?_
      refine lv_iload (pc := 369) hx hb dL_envelope_369 (lv_at hl 12 rfl) ?_
      refine lv_icmp_ne (pc := 371) (tgt := 389) hx hb dL_envelope_371 (by decide) (fun c9 => ?_) (fun c9 => ?_)
      · have hf := ifF c9 hf
        refine lv_iconst (pc := 389) (v := 0) hx hb dL_envelope_389 (by decide) ?_
        cases hf
        exact hE (0 : Int32) 390 _ _ _ _ _ (Or.inl rfl) dL_envelope_390 (Nat.le_of_ble_eq_true rfl) (Nat.le_of_ble_eq_true rfl) h
      · have hf := ifT c9 hf
        refine lv_aload_n (pc := 374) hx hb dL_envelope_374 rfl (lv_at hl 1 rfl) ?_
        refine lv_iload_n (pc := 375) hx hb dL_envelope_375 rfl (lv_at hl 4 rfl) ?_
        refine lv_iload (pc := 376) hx hb dL_envelope_376 (lv_at hl 9 rfl) ?_
        obtain ⟨z3, hc3, hf⟩ := bdS hf
        refine call_H (pc := 378) (As := [.ref (q0 0), .int x3, .int x8]) (rest := []) (ws' := (kbW q0 q cA d ab aw b w)) X h (vn_ahead d x3 x8 hc3) cx_L_165 (kbW_o q0 q cA d ab aw b w) (kbW_o q0 q cA d ab aw b w).symm rfl rfl rfl hl.1 (Nat.le_of_ble_eq_true rfl) dL_envelope_378 ⟨(Nat.le_of_ble_eq_true rfl), (Nat.le_of_ble_eq_true rfl)⟩ rfl rfl ⟨(Nat.le_of_ble_eq_true rfl), (Nat.le_of_ble_eq_true rfl)⟩ (fun H locs h => ?_)
        refine W.eq (g2 := F0 m 381 ls [.int z3]) rfl ?_
        refine lv_iload (pc := 381) hx hb dL_envelope_381 (lv_at hl 13 rfl) ?_
        obtain ⟨z4, hc4, hf⟩ := bdS hf
        refine call_SR (pc := 383) (As := [.int x12]) (rest := [.int z3]) (wc := []) C h (k_L_many x12 hc4) cw_L_160 [] rfl rfl rfl rfl hl.1 (Nat.le_of_ble_eq_true rfl) dL_envelope_383 ⟨(Nat.le_of_ble_eq_true rfl), (Nat.le_of_ble_eq_true rfl)⟩ rfl rfl ⟨(Nat.le_of_ble_eq_true rfl), (Nat.le_of_ble_eq_true rfl)⟩ (fun H locs h => ?_)
        refine W.eq (g2 := F0 m 386 ls [.int z4, .int z3]) rfl ?_
        refine lv_icmp_eq (pc := 386) (tgt := 391) hx hb dL_envelope_386 (by decide) (fun c9 => ?_) (fun c9 => ?_)
        · have hf := ifT c9 hf
          refine lv_iconst (pc := 391) (v := 0) hx hb dL_envelope_391 (by decide) ?_
          refine lv_istore (pc := 392) (lv' := [(14, .int (0 : Int32)), (13, .int s0), (0, .ref (q0 0)), (1, .ref (ab)), (2, .ref (aw)), (3, .int x3), (4, .int x4), (5, .int x5), (6, .int x6), (7, .int x7), (8, .int x8), (9, .int x9), (10, .int x10), (11, .int x11), (12, .int x12)]) hx hb dL_envelope_392 hl (by decide) rfl (fun ls hl => ?_)
          exact jl_envelope_394 X hE _ (hr86) FU _ _ _ _ _ _ _ _ _ hf _ _ _ h (lv_sub hl [2, 3, 4, 5, 6, 7, 8, 9, 10, 11, 0] rfl)
        · have hf := ifF c9 hf
          refine lv_iconst (pc := 389) (v := 0) hx hb dL_envelope_389 (by decide) ?_
          cases hf
          exact hE (0 : Int32) 390 _ _ _ _ _ (Or.inl rfl) dL_envelope_390 (Nat.le_of_ble_eq_true rfl) (Nat.le_of_ble_eq_true rfl) h
def f_L_envelope_282 (d : Dk) (b : (Nat → Int32)) (w : (Nat → Int32)) (r86 : Int32 → Int32 → Int32 → Int32 → Int32 → Int32 → Option (Int32)) (x3 : Int32) (x4 : Int32) (x5 : Int32) (x6 : Int32) (x7 : Int32) (x8 : Int32) (x9 : Int32) (x10 : Int32) (x11 : Int32) (x12 : Int32) (s0 : Int32) (s1 : Int32) : Option (Int32) := (if s1 = s0 then (f_L_envelope_343 d b w r86 x3 x4 x5 x6 x7 x8 x9 x10 x11 x12 (1 : Int32)) else (f_L_envelope_343 d b w r86 x3 x4 x5 x6 x7 x8 x9 x10 x11 x12 (0 : Int32)))
set_option maxHeartbeats 1000000 in
set_option maxRecDepth 100000 in
theorem jl_envelope_282  {d : Dk} {b : (Nat → Int32)} {w : (Nat → Int32)} (X : LCx p l s m args meth c cL_envelope 16 D cA A) (hE : ∀ (z : Int32) (pc : Nat) (H : Heap) (locs : List Loc) (ls : Array Slot) (cells slots : Nat), (z = 0 ∨ z = 1) → decode cL_envelope pc = .ok (.ireturn, 1) → cells ≤ 2 → slots ≤ 12 → St D A s.heap (kbW q0 q cA d ab aw b w) H locs → W p l e rm_L_envelope s m args below meth c H locs cells slots (Qf z) (F0 m pc ls [.int z])) (r86 : Int32 → Int32 → Int32 → Int32 → Int32 → Int32 → Option (Int32)) (hr86 : ∀ (x3 : Int32) (x4 : Int32) (x5 : Int32) (x6 : Int32) (x7 : Int32) (x8 : Int32) (z : Int32), r86 x3 x4 x5 x6 x7 x8 = some z → ∀ (H : Heap) (locs : List Loc) (ls : Array Slot), St D A s.heap (kbW q0 q cA d ab aw b w) H locs → lv_has ls 16 [(0, .ref (q0 0)), (1, .ref (ab)), (2, .ref (aw)), (3, .int x3), (4, .int x4), (5, .int x5), (6, .int x6), (7, .int x7), (8, .int x8)] → W p l e rm_L_envelope s m args below meth c H locs 0 0 (Qf z) (F0 m 86 ls [])) (x3 : Int32) (x4 : Int32) (x5 : Int32) (x6 : Int32) (x7 : Int32) (x8 : Int32) (x9 : Int32) (x10 : Int32) (x11 : Int32) (x12 : Int32) (s0 : Int32) (s1 : Int32) (z : Int32) (hf : f_L_envelope_282 d b w r86 x3 x4 x5 x6 x7 x8 x9 x10 x11 x12 s0 s1 = some z) (H : Heap) (locs : List Loc) (ls : Array Slot) (h : St D A s.heap (kbW q0 q cA d ab aw b w) H locs) (hl : lv_has ls 16 [(0, .ref (q0 0)), (1, .ref (ab)), (2, .ref (aw)), (3, .int x3), (4, .int x4), (5, .int x5), (6, .int x6), (7, .int x7), (8, .int x8), (9, .int x9), (10, .int x10), (11, .int x11), (12, .int x12)]) : W p l e rm_L_envelope s m args below meth c H locs 0 0 (Qf z) (F0 m 282 ls [.int s0, .int s1]) := by
  obtain ⟨C, hl0, hXA, hN⟩ := id X
  obtain ⟨hx, hb, hml, hown, hts, hK, hlk⟩ := id C
  rw [f_L_envelope_282] at hf
  refine lv_icmp_ne (pc := 282) (tgt := 289) hx hb dL_envelope_282 (by decide) (fun c9 => ?_) (fun c9 => ?_)
  · have hf := ifF c9 hf
    refine lv_iconst (pc := 289) (v := 0) hx hb dL_envelope_289 (by decide) ?_
    refine lv_goto (pc := 290) (tgt := 343) hx hb dL_envelope_290 (by decide) ?_
    exact jl_envelope_343 X hE _ (hr86) _ _ _ _ _ _ _ _ _ _ _ _ hf _ _ _ h (lv_sub hl [0, 1, 2, 3, 4, 5, 6, 7, 8, 9, 10, 11, 12] rfl)
  · have hf := ifT c9 hf
    refine lv_iconst (pc := 285) (v := 1) hx hb dL_envelope_285 (by decide) ?_
    refine lv_goto (pc := 286) (tgt := 343) hx hb dL_envelope_286 (by decide) ?_
    exact jl_envelope_343 X hE _ (hr86) _ _ _ _ _ _ _ _ _ _ _ _ hf _ _ _ h (lv_sub hl [0, 1, 2, 3, 4, 5, 6, 7, 8, 9, 10, 11, 12] rfl)
def f_L_envelope_227 (d : Dk) (b : (Nat → Int32)) (w : (Nat → Int32)) (r86 : Int32 → Int32 → Int32 → Int32 → Int32 → Int32 → Option (Int32)) (x3 : Int32) (x4 : Int32) (x5 : Int32) (x6 : Int32) (x7 : Int32) (x8 : Int32) (x9 : Int32) (x10 : Int32) (x11 : Int32) (x12 : Int32) : Option (Int32) := (if x4 = 0 then (if x9 = 0 then (f_L_envelope_343 d b w r86 x3 x4 x5 x6 x7 x8 x9 x10 x11 x12 (1 : Int32)) else (f_L_envelope_343 d b w r86 x3 x4 x5 x6 x7 x8 x9 x10 x11 x12 (0 : Int32))) else (if x4 = (1 : Int32) then (if x9 = (2 : Int32) then (if x10 = 0 then (f_L_envelope_343 d b w r86 x3 x4 x5 x6 x7 x8 x9 x10 x11 x12 (1 : Int32)) else (f_L_envelope_343 d b w r86 x3 x4 x5 x6 x7 x8 x9 x10 x11 x12 (0 : Int32))) else (if x10 = 0 then (f_L_envelope_282 d b w r86 x3 x4 x5 x6 x7 x8 x9 x10 x11 x12 (1 : Int32) x9) else (f_L_envelope_282 d b w r86 x3 x4 x5 x6 x7 x8 x9 x10 x11 x12 (0 : Int32) x9))) else (if x4 = (2 : Int32) then (if x9 = (2 : Int32) then (f_L_envelope_343 d b w r86 x3 x4 x5 x6 x7 x8 x9 x10 x11 x12 (1 : Int32)) else (f_L_envelope_343 d b w r86 x3 x4 x5 x6 x7 x8 x9 x10 x11 x12 (0 : Int32))) else (if x9 = (2 : Int32) then (if x10 = 0 then (f_L_envelope_343 d b w r86 x3 x4 x5 x6 x7 x8 x9 x10 x11 x12 (1 : Int32)) else (f_L_envelope_343 d b w r86 x3 x4 x5 x6 x7 x8 x9 x10 x11 x12 (0 : Int32))) else (if x9 = (3 : Int32) then (f_L_envelope_343 d b w r86 x3 x4 x5 x6 x7 x8 x9 x10 x11 x12 (1 : Int32)) else (f_L_envelope_343 d b w r86 x3 x4 x5 x6 x7 x8 x9 x10 x11 x12 (0 : Int32)))))))
set_option maxHeartbeats 1000000 in
set_option maxRecDepth 100000 in
theorem jl_envelope_227  {d : Dk} {b : (Nat → Int32)} {w : (Nat → Int32)} (X : LCx p l s m args meth c cL_envelope 16 D cA A) (hE : ∀ (z : Int32) (pc : Nat) (H : Heap) (locs : List Loc) (ls : Array Slot) (cells slots : Nat), (z = 0 ∨ z = 1) → decode cL_envelope pc = .ok (.ireturn, 1) → cells ≤ 2 → slots ≤ 12 → St D A s.heap (kbW q0 q cA d ab aw b w) H locs → W p l e rm_L_envelope s m args below meth c H locs cells slots (Qf z) (F0 m pc ls [.int z])) (r86 : Int32 → Int32 → Int32 → Int32 → Int32 → Int32 → Option (Int32)) (hr86 : ∀ (x3 : Int32) (x4 : Int32) (x5 : Int32) (x6 : Int32) (x7 : Int32) (x8 : Int32) (z : Int32), r86 x3 x4 x5 x6 x7 x8 = some z → ∀ (H : Heap) (locs : List Loc) (ls : Array Slot), St D A s.heap (kbW q0 q cA d ab aw b w) H locs → lv_has ls 16 [(0, .ref (q0 0)), (1, .ref (ab)), (2, .ref (aw)), (3, .int x3), (4, .int x4), (5, .int x5), (6, .int x6), (7, .int x7), (8, .int x8)] → W p l e rm_L_envelope s m args below meth c H locs 0 0 (Qf z) (F0 m 86 ls [])) (x3 : Int32) (x4 : Int32) (x5 : Int32) (x6 : Int32) (x7 : Int32) (x8 : Int32) (x9 : Int32) (x10 : Int32) (x11 : Int32) (x12 : Int32) (z : Int32) (hf : f_L_envelope_227 d b w r86 x3 x4 x5 x6 x7 x8 x9 x10 x11 x12 = some z) (H : Heap) (locs : List Loc) (ls : Array Slot) (h : St D A s.heap (kbW q0 q cA d ab aw b w) H locs) (hl : lv_has ls 16 [(0, .ref (q0 0)), (1, .ref (ab)), (2, .ref (aw)), (3, .int x3), (4, .int x4), (5, .int x5), (6, .int x6), (7, .int x7), (8, .int x8), (9, .int x9), (10, .int x10), (11, .int x11), (12, .int x12)]) : W p l e rm_L_envelope s m args below meth c H locs 0 0 (Qf z) (F0 m 227 ls []) := by
  obtain ⟨C, hl0, hXA, hN⟩ := id X
  obtain ⟨hx, hb, hml, hown, hts, hK, hlk⟩ := id C
  rw [f_L_envelope_227] at hf
  refine lv_iload (pc := 227) hx hb dL_envelope_227 (lv_at hl 4 rfl) ?_
  refine lv_if_ne (pc := 229) (tgt := 245) hx hb dL_envelope_229 (by decide) (fun c9 => ?_) (fun c9 => ?_)
  · have hf := ifF c9 hf
    refine lv_iload (pc := 245) hx hb dL_envelope_245 (lv_at hl 4 rfl) ?_
    refine lv_iconst (pc := 247) (v := 1) hx hb dL_envelope_247 (by decide) ?_
    refine lv_icmp_ne (pc := 248) (tgt := 293) hx hb dL_envelope_248 (by decide) (fun c9 => ?_) (fun c9 => ?_)
    · have hf := ifF c9 hf
      refine lv_iload (pc := 293) hx hb dL_envelope_293 (lv_at hl 4 rfl) ?_
      refine lv_iconst (pc := 295) (v := 2) hx hb dL_envelope_295 (by decide) ?_
      refine lv_icmp_ne (pc := 296) (tgt := 313) hx hb dL_envelope_296 (by decide) (fun c9 => ?_) (fun c9 => ?_)
      · have hf := ifF c9 hf
        refine lv_iload (pc := 313) hx hb dL_envelope_313 (lv_at hl 9 rfl) ?_
        refine lv_iconst (pc := 315) (v := 2) hx hb dL_envelope_315 (by decide) ?_
        refine lv_icmp_ne (pc := 316) (tgt := 332) hx hb dL_envelope_316 (by decide) (fun c9 => ?_) (fun c9 => ?_)
        · have hf := ifF c9 hf
          refine lv_iload (pc := 332) hx hb dL_envelope_332 (lv_at hl 9 rfl) ?_
          refine lv_iconst (pc := 334) (v := 3) hx hb dL_envelope_334 (by decide) ?_
          refine lv_icmp_ne (pc := 335) (tgt := 342) hx hb dL_envelope_335 (by decide) (fun c9 => ?_) (fun c9 => ?_)
          · have hf := ifF c9 hf
            refine lv_iconst (pc := 342) (v := 0) hx hb dL_envelope_342 (by decide) ?_
            exact jl_envelope_343 X hE _ (hr86) _ _ _ _ _ _ _ _ _ _ _ _ hf _ _ _ h (lv_sub hl [0, 1, 2, 3, 4, 5, 6, 7, 8, 9, 10, 11, 12] rfl)
          · have hf := ifT c9 hf
            refine lv_iconst (pc := 338) (v := 1) hx hb dL_envelope_338 (by decide) ?_
            refine lv_goto (pc := 339) (tgt := 343) hx hb dL_envelope_339 (by decide) ?_
            exact jl_envelope_343 X hE _ (hr86) _ _ _ _ _ _ _ _ _ _ _ _ hf _ _ _ h (lv_sub hl [0, 1, 2, 3, 4, 5, 6, 7, 8, 9, 10, 11, 12] rfl)
        · have hf := ifT c9 hf
          refine lv_iload (pc := 319) hx hb dL_envelope_319 (lv_at hl 10 rfl) ?_
          refine lv_if_ne (pc := 321) (tgt := 328) hx hb dL_envelope_321 (by decide) (fun c9 => ?_) (fun c9 => ?_)
          · have hf := ifF c9 hf
            refine lv_iconst (pc := 328) (v := 0) hx hb dL_envelope_328 (by decide) ?_
            refine lv_goto (pc := 329) (tgt := 343) hx hb dL_envelope_329 (by decide) ?_
            exact jl_envelope_343 X hE _ (hr86) _ _ _ _ _ _ _ _ _ _ _ _ hf _ _ _ h (lv_sub hl [0, 1, 2, 3, 4, 5, 6, 7, 8, 9, 10, 11, 12] rfl)
          · have hf := ifT c9 hf
            refine lv_iconst (pc := 324) (v := 1) hx hb dL_envelope_324 (by decide) ?_
            refine lv_goto (pc := 325) (tgt := 343) hx hb dL_envelope_325 (by decide) ?_
            exact jl_envelope_343 X hE _ (hr86) _ _ _ _ _ _ _ _ _ _ _ _ hf _ _ _ h (lv_sub hl [0, 1, 2, 3, 4, 5, 6, 7, 8, 9, 10, 11, 12] rfl)
      · have hf := ifT c9 hf
        refine lv_iload (pc := 299) hx hb dL_envelope_299 (lv_at hl 9 rfl) ?_
        refine lv_iconst (pc := 301) (v := 2) hx hb dL_envelope_301 (by decide) ?_
        refine lv_icmp_ne (pc := 302) (tgt := 309) hx hb dL_envelope_302 (by decide) (fun c9 => ?_) (fun c9 => ?_)
        · have hf := ifF c9 hf
          refine lv_iconst (pc := 309) (v := 0) hx hb dL_envelope_309 (by decide) ?_
          refine lv_goto (pc := 310) (tgt := 343) hx hb dL_envelope_310 (by decide) ?_
          exact jl_envelope_343 X hE _ (hr86) _ _ _ _ _ _ _ _ _ _ _ _ hf _ _ _ h (lv_sub hl [0, 1, 2, 3, 4, 5, 6, 7, 8, 9, 10, 11, 12] rfl)
        · have hf := ifT c9 hf
          refine lv_iconst (pc := 305) (v := 1) hx hb dL_envelope_305 (by decide) ?_
          refine lv_goto (pc := 306) (tgt := 343) hx hb dL_envelope_306 (by decide) ?_
          exact jl_envelope_343 X hE _ (hr86) _ _ _ _ _ _ _ _ _ _ _ _ hf _ _ _ h (lv_sub hl [0, 1, 2, 3, 4, 5, 6, 7, 8, 9, 10, 11, 12] rfl)
    · have hf := ifT c9 hf
      refine lv_iload (pc := 251) hx hb dL_envelope_251 (lv_at hl 9 rfl) ?_
      refine lv_iconst (pc := 253) (v := 2) hx hb dL_envelope_253 (by decide) ?_
      refine lv_icmp_ne (pc := 254) (tgt := 270) hx hb dL_envelope_254 (by decide) (fun c9 => ?_) (fun c9 => ?_)
      · have hf := ifF c9 hf
        refine lv_iload (pc := 270) hx hb dL_envelope_270 (lv_at hl 9 rfl) ?_
        refine lv_iload (pc := 272) hx hb dL_envelope_272 (lv_at hl 10 rfl) ?_
        refine lv_if_ne (pc := 274) (tgt := 281) hx hb dL_envelope_274 (by decide) (fun c9 => ?_) (fun c9 => ?_)
        · have hf := ifF c9 hf
          refine lv_iconst (pc := 281) (v := 0) hx hb dL_envelope_281 (by decide) ?_
          exact jl_envelope_282 X hE _ (hr86) _ _ _ _ _ _ _ _ _ _ _ _ _ hf _ _ _ h (lv_sub hl [0, 1, 2, 3, 4, 5, 6, 7, 8, 9, 10, 11, 12] rfl)
        · have hf := ifT c9 hf
          refine lv_iconst (pc := 277) (v := 1) hx hb dL_envelope_277 (by decide) ?_
          refine lv_goto (pc := 278) (tgt := 282) hx hb dL_envelope_278 (by decide) ?_
          exact jl_envelope_282 X hE _ (hr86) _ _ _ _ _ _ _ _ _ _ _ _ _ hf _ _ _ h (lv_sub hl [0, 1, 2, 3, 4, 5, 6, 7, 8, 9, 10, 11, 12] rfl)
      · have hf := ifT c9 hf
        refine lv_iload (pc := 257) hx hb dL_envelope_257 (lv_at hl 10 rfl) ?_
        refine lv_if_ne (pc := 259) (tgt := 266) hx hb dL_envelope_259 (by decide) (fun c9 => ?_) (fun c9 => ?_)
        · have hf := ifF c9 hf
          refine lv_iconst (pc := 266) (v := 0) hx hb dL_envelope_266 (by decide) ?_
          refine lv_goto (pc := 267) (tgt := 343) hx hb dL_envelope_267 (by decide) ?_
          exact jl_envelope_343 X hE _ (hr86) _ _ _ _ _ _ _ _ _ _ _ _ hf _ _ _ h (lv_sub hl [0, 1, 2, 3, 4, 5, 6, 7, 8, 9, 10, 11, 12] rfl)
        · have hf := ifT c9 hf
          refine lv_iconst (pc := 262) (v := 1) hx hb dL_envelope_262 (by decide) ?_
          refine lv_goto (pc := 263) (tgt := 343) hx hb dL_envelope_263 (by decide) ?_
          exact jl_envelope_343 X hE _ (hr86) _ _ _ _ _ _ _ _ _ _ _ _ hf _ _ _ h (lv_sub hl [0, 1, 2, 3, 4, 5, 6, 7, 8, 9, 10, 11, 12] rfl)
  · have hf := ifT c9 hf
    refine lv_iload (pc := 232) hx hb dL_envelope_232 (lv_at hl 9 rfl) ?_
    refine lv_if_ne (pc := 234) (tgt := 241) hx hb dL_envelope_234 (by decide) (fun c9 => ?_) (fun c9 => ?_)
    · have hf := ifF c9 hf
      refine lv_iconst (pc := 241) (v := 0) hx hb dL_envelope_241 (by decide) ?_
      refine lv_goto (pc := 242) (tgt := 343) hx hb dL_envelope_242 (by decide) ?_
      exact jl_envelope_343 X hE _ (hr86) _ _ _ _ _ _ _ _ _ _ _ _ hf _ _ _ h (lv_sub hl [0, 1, 2, 3, 4, 5, 6, 7, 8, 9, 10, 11, 12] rfl)
    · have hf := ifT c9 hf
      refine lv_iconst (pc := 237) (v := 1) hx hb dL_envelope_237 (by decide) ?_
      refine lv_goto (pc := 238) (tgt := 343) hx hb dL_envelope_238 (by decide) ?_
      exact jl_envelope_343 X hE _ (hr86) _ _ _ _ _ _ _ _ _ _ _ _ hf _ _ _ h (lv_sub hl [0, 1, 2, 3, 4, 5, 6, 7, 8, 9, 10, 11, 12] rfl)
def f_L_envelope_190 (d : Dk) (b : (Nat → Int32)) (w : (Nat → Int32)) (r86 : Int32 → Int32 → Int32 → Int32 → Int32 → Int32 → Option (Int32)) (r141 : Int32 → Int32 → Int32 → Int32 → Int32 → Int32 → Int32 → Int32 → Int32 → Int32 → Int32 → Option (Int32)) (x3 : Int32) (x4 : Int32) (x5 : Int32) (x6 : Int32) (x7 : Int32) (x8 : Int32) (x9 : Int32) (x10 : Int32) (x12 : Int32) (x13 : Int32) (s0 : Int32) : Option (Int32) := (if ((x12 >>> (x13 &&& 31)) &&& (1 : Int32)) = (1 : Int32) then (if inb (((8 : Int32) * x3) + x13) 48 then (r141 x3 x4 x5 x6 x7 x8 x9 x10 s0 (x12 ||| (b (((8 : Int32) * x3) + x13).toNatClampNeg)) (x13 + (-1 : Int32))) else none) else (r141 x3 x4 x5 x6 x7 x8 x9 x10 s0 (x12 ||| (0 : Int32)) (x13 + (-1 : Int32))))
set_option maxHeartbeats 1000000 in
set_option maxRecDepth 100000 in
theorem jl_envelope_190  {d : Dk} {b : (Nat → Int32)} {w : (Nat → Int32)} (X : LCx p l s m args meth c cL_envelope 16 D cA A) (hE : ∀ (z : Int32) (pc : Nat) (H : Heap) (locs : List Loc) (ls : Array Slot) (cells slots : Nat), (z = 0 ∨ z = 1) → decode cL_envelope pc = .ok (.ireturn, 1) → cells ≤ 2 → slots ≤ 12 → St D A s.heap (kbW q0 q cA d ab aw b w) H locs → W p l e rm_L_envelope s m args below meth c H locs cells slots (Qf z) (F0 m pc ls [.int z])) (r86 : Int32 → Int32 → Int32 → Int32 → Int32 → Int32 → Option (Int32)) (r141 : Int32 → Int32 → Int32 → Int32 → Int32 → Int32 → Int32 → Int32 → Int32 → Int32 → Int32 → Option (Int32)) (hr86 : ∀ (x3 : Int32) (x4 : Int32) (x5 : Int32) (x6 : Int32) (x7 : Int32) (x8 : Int32) (z : Int32), r86 x3 x4 x5 x6 x7 x8 = some z → ∀ (H : Heap) (locs : List Loc) (ls : Array Slot), St D A s.heap (kbW q0 q cA d ab aw b w) H locs → lv_has ls 16 [(0, .ref (q0 0)), (1, .ref (ab)), (2, .ref (aw)), (3, .int x3), (4, .int x4), (5, .int x5), (6, .int x6), (7, .int x7), (8, .int x8)] → W p l e rm_L_envelope s m args below meth c H locs 0 0 (Qf z) (F0 m 86 ls [])) (hr141 : ∀ (x3 : Int32) (x4 : Int32) (x5 : Int32) (x6 : Int32) (x7 : Int32) (x8 : Int32) (x9 : Int32) (x10 : Int32) (x11 : Int32) (x12 : Int32) (x13 : Int32) (z : Int32), r141 x3 x4 x5 x6 x7 x8 x9 x10 x11 x12 x13 = some z → ∀ (H : Heap) (locs : List Loc) (ls : Array Slot), St D A s.heap (kbW q0 q cA d ab aw b w) H locs → lv_has ls 16 [(0, .ref (q0 0)), (1, .ref (ab)), (2, .ref (aw)), (3, .int x3), (4, .int x4), (5, .int x5), (6, .int x6), (7, .int x7), (8, .int x8), (9, .int x9), (10, .int x10), (11, .int x11), (12, .int x12), (13, .int x13)] → W p l e rm_L_envelope s m args below meth c H locs 0 0 (Qf z) (F0 m 141 ls [])) (x3 : Int32) (x4 : Int32) (x5 : Int32) (x6 : Int32) (x7 : Int32) (x8 : Int32) (x9 : Int32) (x10 : Int32) (x12 : Int32) (x13 : Int32) (s0 : Int32) (z : Int32) (hf : f_L_envelope_190 d b w r86 r141 x3 x4 x5 x6 x7 x8 x9 x10 x12 x13 s0 = some z) (H : Heap) (locs : List Loc) (ls : Array Slot) (h : St D A s.heap (kbW q0 q cA d ab aw b w) H locs) (hl : lv_has ls 16 [(0, .ref (q0 0)), (1, .ref (ab)), (2, .ref (aw)), (3, .int x3), (4, .int x4), (5, .int x5), (6, .int x6), (7, .int x7), (8, .int x8), (9, .int x9), (10, .int x10), (12, .int x12), (13, .int x13)]) : W p l e rm_L_envelope s m args below meth c H locs 0 0 (Qf z) (F0 m 190 ls [.int s0]) := by
  obtain ⟨C, hl0, hXA, hN⟩ := id X
  obtain ⟨hx, hb, hml, hown, hts, hK, hlk⟩ := id C
  rw [f_L_envelope_190] at hf
  refine lv_istore (pc := 190) (lv' := [(11, .int s0), (0, .ref (q0 0)), (1, .ref (ab)), (2, .ref (aw)), (3, .int x3), (4, .int x4), (5, .int x5), (6, .int x6), (7, .int x7), (8, .int x8), (9, .int x9), (10, .int x10), (12, .int x12), (13, .int x13)]) hx hb dL_envelope_190 hl (by decide) rfl (fun ls hl => ?_)
  refine lv_iload (pc := 192) hx hb dL_envelope_192 (lv_at hl 12 rfl) ?_
  refine lv_iload (pc := 194) hx hb dL_envelope_194 (lv_at hl 12 rfl) ?_
  refine lv_iload (pc := 196) hx hb dL_envelope_196 (lv_at hl 13 rfl) ?_
  refine lv_ishr (pc := 198) hx hb dL_envelope_198 ?_
  refine lv_iconst (pc := 199) (v := 1) hx hb dL_envelope_199 (by decide) ?_
  refine lv_iand (pc := 200) hx hb dL_envelope_200 ?_
  refine lv_iconst (pc := 201) (v := 1) hx hb dL_envelope_201 (by decide) ?_
  refine lv_icmp_ne (pc := 202) (tgt := 217) hx hb dL_envelope_202 (by decide) (fun c9 => ?_) (fun c9 => ?_)
  · have hf := ifF c9 hf
    refine lv_iconst (pc := 217) (v := 0) hx hb dL_envelope_217 (by decide) ?_
    refine lv_ior (pc := 218) hx hb dL_envelope_218 ?_
    refine lv_istore (pc := 219) (lv' := [(12, .int (x12 ||| (0 : Int32))), (11, .int s0), (0, .ref (q0 0)), (1, .ref (ab)), (2, .ref (aw)), (3, .int x3), (4, .int x4), (5, .int x5), (6, .int x6), (7, .int x7), (8, .int x8), (9, .int x9), (10, .int x10), (13, .int x13)]) hx hb dL_envelope_219 hl (by decide) rfl (fun ls hl => ?_)
    refine lv_iinc (pc := 221) (v := (x13 + (-1 : Int32))) (lv' := [(13, .int (x13 + (-1 : Int32))), (12, .int (x12 ||| (0 : Int32))), (11, .int s0), (0, .ref (q0 0)), (1, .ref (ab)), (2, .ref (aw)), (3, .int x3), (4, .int x4), (5, .int x5), (6, .int x6), (7, .int x7), (8, .int x8), (9, .int x9), (10, .int x10)]) hx hb dL_envelope_221 hl (k := 13) rfl rfl (by decide) rfl (fun ls hl => ?_)
    refine lv_goto (pc := 224) (tgt := 141) hx hb dL_envelope_224 (by decide) ?_
    exact hr141 _ _ _ _ _ _ _ _ _ _ _ _ hf _ _ _ h (lv_sub hl [3, 4, 5, 6, 7, 8, 9, 10, 11, 12, 13, 2, 1, 0] rfl)
  · have hf := ifT c9 hf
    refine lv_aload_n (pc := 205) hx hb dL_envelope_205 rfl (lv_at hl 2 rfl) ?_
    refine lv_bipush (pc := 206) (v := 8) hx hb dL_envelope_206 (by decide) ?_
    refine lv_iload_n (pc := 208) hx hb dL_envelope_208 rfl (lv_at hl 4 rfl) ?_
    refine lv_imul (pc := 209) hx hb dL_envelope_209 ?_
    refine lv_iload (pc := 210) hx hb dL_envelope_210 (lv_at hl 13 rfl) ?_
    refine lv_iadd (pc := 212) hx hb dL_envelope_212 ?_
    obtain ⟨hin, hf⟩ := ifS hf
    refine g_ild (pc := 213) (n := 48) (f := b) C h.1 0 (kbW_0 ..) hin dL_envelope_213 ?_
    refine lv_goto (pc := 214) (tgt := 218) hx hb dL_envelope_214 (by decide) ?_
    refine lv_ior (pc := 218) hx hb dL_envelope_218 ?_
    refine lv_istore (pc := 219) (lv' := [(12, .int (x12 ||| (b (((8 : Int32) * x3) + x13).toNatClampNeg))), (11, .int s0), (0, .ref (q0 0)), (1, .ref (ab)), (2, .ref (aw)), (3, .int x3), (4, .int x4), (5, .int x5), (6, .int x6), (7, .int x7), (8, .int x8), (9, .int x9), (10, .int x10), (13, .int x13)]) hx hb dL_envelope_219 hl (by decide) rfl (fun ls hl => ?_)
    refine lv_iinc (pc := 221) (v := (x13 + (-1 : Int32))) (lv' := [(13, .int (x13 + (-1 : Int32))), (12, .int (x12 ||| (b (((8 : Int32) * x3) + x13).toNatClampNeg))), (11, .int s0), (0, .ref (q0 0)), (1, .ref (ab)), (2, .ref (aw)), (3, .int x3), (4, .int x4), (5, .int x5), (6, .int x6), (7, .int x7), (8, .int x8), (9, .int x9), (10, .int x10)]) hx hb dL_envelope_221 hl (k := 13) rfl rfl (by decide) rfl (fun ls hl => ?_)
    refine lv_goto (pc := 224) (tgt := 141) hx hb dL_envelope_224 (by decide) ?_
    exact hr141 _ _ _ _ _ _ _ _ _ _ _ _ hf _ _ _ h (lv_sub hl [3, 4, 5, 6, 7, 8, 9, 10, 11, 12, 13, 2, 1, 0] rfl)
def f_L_envelope_188 (d : Dk) (b : (Nat → Int32)) (w : (Nat → Int32)) (r86 : Int32 → Int32 → Int32 → Int32 → Int32 → Int32 → Option (Int32)) (r141 : Int32 → Int32 → Int32 → Int32 → Int32 → Int32 → Int32 → Int32 → Int32 → Int32 → Int32 → Option (Int32)) (x3 : Int32) (x4 : Int32) (x5 : Int32) (x6 : Int32) (x7 : Int32) (x8 : Int32) (x9 : Int32) (x10 : Int32) (x11 : Int32) (x12 : Int32) (x13 : Int32) : Option (Int32) := (f_L_envelope_190 d b w r86 r141 x3 x4 x5 x6 x7 x8 x9 x10 x12 x13 x11)
set_option maxHeartbeats 1000000 in
set_option maxRecDepth 100000 in
theorem jl_envelope_188  {d : Dk} {b : (Nat → Int32)} {w : (Nat → Int32)} (X : LCx p l s m args meth c cL_envelope 16 D cA A) (hE : ∀ (z : Int32) (pc : Nat) (H : Heap) (locs : List Loc) (ls : Array Slot) (cells slots : Nat), (z = 0 ∨ z = 1) → decode cL_envelope pc = .ok (.ireturn, 1) → cells ≤ 2 → slots ≤ 12 → St D A s.heap (kbW q0 q cA d ab aw b w) H locs → W p l e rm_L_envelope s m args below meth c H locs cells slots (Qf z) (F0 m pc ls [.int z])) (r86 : Int32 → Int32 → Int32 → Int32 → Int32 → Int32 → Option (Int32)) (r141 : Int32 → Int32 → Int32 → Int32 → Int32 → Int32 → Int32 → Int32 → Int32 → Int32 → Int32 → Option (Int32)) (hr86 : ∀ (x3 : Int32) (x4 : Int32) (x5 : Int32) (x6 : Int32) (x7 : Int32) (x8 : Int32) (z : Int32), r86 x3 x4 x5 x6 x7 x8 = some z → ∀ (H : Heap) (locs : List Loc) (ls : Array Slot), St D A s.heap (kbW q0 q cA d ab aw b w) H locs → lv_has ls 16 [(0, .ref (q0 0)), (1, .ref (ab)), (2, .ref (aw)), (3, .int x3), (4, .int x4), (5, .int x5), (6, .int x6), (7, .int x7), (8, .int x8)] → W p l e rm_L_envelope s m args below meth c H locs 0 0 (Qf z) (F0 m 86 ls [])) (hr141 : ∀ (x3 : Int32) (x4 : Int32) (x5 : Int32) (x6 : Int32) (x7 : Int32) (x8 : Int32) (x9 : Int32) (x10 : Int32) (x11 : Int32) (x12 : Int32) (x13 : Int32) (z : Int32), r141 x3 x4 x5 x6 x7 x8 x9 x10 x11 x12 x13 = some z → ∀ (H : Heap) (locs : List Loc) (ls : Array Slot), St D A s.heap (kbW q0 q cA d ab aw b w) H locs → lv_has ls 16 [(0, .ref (q0 0)), (1, .ref (ab)), (2, .ref (aw)), (3, .int x3), (4, .int x4), (5, .int x5), (6, .int x6), (7, .int x7), (8, .int x8), (9, .int x9), (10, .int x10), (11, .int x11), (12, .int x12), (13, .int x13)] → W p l e rm_L_envelope s m args below meth c H locs 0 0 (Qf z) (F0 m 141 ls [])) (x3 : Int32) (x4 : Int32) (x5 : Int32) (x6 : Int32) (x7 : Int32) (x8 : Int32) (x9 : Int32) (x10 : Int32) (x11 : Int32) (x12 : Int32) (x13 : Int32) (z : Int32) (hf : f_L_envelope_188 d b w r86 r141 x3 x4 x5 x6 x7 x8 x9 x10 x11 x12 x13 = some z) (H : Heap) (locs : List Loc) (ls : Array Slot) (h : St D A s.heap (kbW q0 q cA d ab aw b w) H locs) (hl : lv_has ls 16 [(0, .ref (q0 0)), (1, .ref (ab)), (2, .ref (aw)), (3, .int x3), (4, .int x4), (5, .int x5), (6, .int x6), (7, .int x7), (8, .int x8), (9, .int x9), (10, .int x10), (11, .int x11), (12, .int x12), (13, .int x13)]) : W p l e rm_L_envelope s m args below meth c H locs 0 0 (Qf z) (F0 m 188 ls []) := by
  obtain ⟨C, hl0, hXA, hN⟩ := id X
  obtain ⟨hx, hb, hml, hown, hts, hK, hlk⟩ := id C
  rw [f_L_envelope_188] at hf
  refine lv_iload (pc := 188) hx hb dL_envelope_188 (lv_at hl 11 rfl) ?_
  exact jl_envelope_190 X hE _ _ (hr86) (hr141) _ _ _ _ _ _ _ _ _ _ _ _ hf _ _ _ h (lv_sub hl [0, 1, 2, 3, 4, 5, 6, 7, 8, 9, 10, 12, 13] rfl)
def f_L_envelope_141 (d : Dk) (b : (Nat → Int32)) (w : (Nat → Int32)) (r86 : Int32 → Int32 → Int32 → Int32 → Int32 → Int32 → Option (Int32)) : Nat → Int32 → Int32 → Int32 → Int32 → Int32 → Int32 → Int32 → Int32 → Int32 → Int32 → Int32 → Option (Int32)
  | 0, _, _, _, _, _, _, _, _, _, _, _ => none
  | n + 1, x3, x4, x5, x6, x7, x8, x9, x10, x11, x12, x13 => (if x13 < 0 then (f_L_envelope_227 d b w r86 x3 x4 x5 x6 x7 x8 x9 x10 x11 x12) else (if inb (((8 : Int32) * x3) + x8) 48 then (if (((b (((8 : Int32) * x3) + x8).toNatClampNeg) >>> (x13 &&& 31)) &&& (1 : Int32)) = (1 : Int32) then ((gn_roundOf d x3 x13).bind fun z1 => (if z1 < x11 then (f_L_envelope_188 d b w r86 (f_L_envelope_141 d b w r86 n) x3 x4 x5 x6 x7 x8 x9 x10 x11 x12 x13) else ((gn_roundOf d x3 x13).bind fun z2 => (f_L_envelope_190 d b w r86 (f_L_envelope_141 d b w r86 n) x3 x4 x5 x6 x7 x8 x9 x10 x12 x13 (z2 + (1 : Int32)))))) else (f_L_envelope_188 d b w r86 (f_L_envelope_141 d b w r86 n) x3 x4 x5 x6 x7 x8 x9 x10 x11 x12 x13)) else none))
set_option maxHeartbeats 1000000 in
set_option maxRecDepth 100000 in
theorem jl_envelope_141  {d : Dk} {b : (Nat → Int32)} {w : (Nat → Int32)} (X : LCx p l s m args meth c cL_envelope 16 D cA A) (hE : ∀ (z : Int32) (pc : Nat) (H : Heap) (locs : List Loc) (ls : Array Slot) (cells slots : Nat), (z = 0 ∨ z = 1) → decode cL_envelope pc = .ok (.ireturn, 1) → cells ≤ 2 → slots ≤ 12 → St D A s.heap (kbW q0 q cA d ab aw b w) H locs → W p l e rm_L_envelope s m args below meth c H locs cells slots (Qf z) (F0 m pc ls [.int z])) (r86 : Int32 → Int32 → Int32 → Int32 → Int32 → Int32 → Option (Int32)) (hr86 : ∀ (x3 : Int32) (x4 : Int32) (x5 : Int32) (x6 : Int32) (x7 : Int32) (x8 : Int32) (z : Int32), r86 x3 x4 x5 x6 x7 x8 = some z → ∀ (H : Heap) (locs : List Loc) (ls : Array Slot), St D A s.heap (kbW q0 q cA d ab aw b w) H locs → lv_has ls 16 [(0, .ref (q0 0)), (1, .ref (ab)), (2, .ref (aw)), (3, .int x3), (4, .int x4), (5, .int x5), (6, .int x6), (7, .int x7), (8, .int x8)] → W p l e rm_L_envelope s m args below meth c H locs 0 0 (Qf z) (F0 m 86 ls [])) : ∀ (n : Nat) (x3 : Int32) (x4 : Int32) (x5 : Int32) (x6 : Int32) (x7 : Int32) (x8 : Int32) (x9 : Int32) (x10 : Int32) (x11 : Int32) (x12 : Int32) (x13 : Int32) (z : Int32), f_L_envelope_141 d b w r86 n x3 x4 x5 x6 x7 x8 x9 x10 x11 x12 x13 = some z → ∀ (H : Heap) (locs : List Loc) (ls : Array Slot), St D A s.heap (kbW q0 q cA d ab aw b w) H locs → lv_has ls 16 [(0, .ref (q0 0)), (1, .ref (ab)), (2, .ref (aw)), (3, .int x3), (4, .int x4), (5, .int x5), (6, .int x6), (7, .int x7), (8, .int x8), (9, .int x9), (10, .int x10), (11, .int x11), (12, .int x12), (13, .int x13)] → W p l e rm_L_envelope s m args below meth c H locs 0 0 (Qf z) (F0 m 141 ls []) := by
  obtain ⟨C, hl0, hXA, hN⟩ := id X
  obtain ⟨hx, hb, hml, hown, hts, hK, hlk⟩ := id C
  intro n
  induction n with
  | zero => intro x3 x4 x5 x6 x7 x8 x9 x10 x11 x12 x13 z hf; rw [f_L_envelope_141] at hf; cases hf
  | succ n ih =>
    intro x3 x4 x5 x6 x7 x8 x9 x10 x11 x12 x13 z hf H locs ls h hl
    rw [f_L_envelope_141] at hf
    refine lv_iload (pc := 141) hx hb dL_envelope_141 (lv_at hl 13 rfl) ?_
    refine lv_if_lt (pc := 143) (tgt := 227) hx hb dL_envelope_143 (by decide) (fun c9 => ?_) (fun c9 => ?_)
    · have hf := ifT c9 hf
      exact jl_envelope_227 X hE _ (hr86) _ _ _ _ _ _ _ _ _ _ _ hf _ _ _ h (lv_sub hl [0, 1, 2, 3, 4, 5, 6, 7, 8, 9, 10, 11, 12] rfl)
    · have hf := ifF c9 hf
      refine lv_aload_n (pc := 146) hx hb dL_envelope_146 rfl (lv_at hl 1 rfl) ?_
      refine lv_bipush (pc := 147) (v := 8) hx hb dL_envelope_147 (by decide) ?_
      refine lv_iload_n (pc := 149) hx hb dL_envelope_149 rfl (lv_at hl 3 rfl) ?_
      refine lv_imul (pc := 150) hx hb dL_envelope_150 ?_
      refine lv_iload (pc := 151) hx hb dL_envelope_151 (lv_at hl 8 rfl) ?_
      refine lv_iadd (pc := 153) hx hb dL_envelope_153 ?_
      obtain ⟨hin, hf⟩ := ifS hf
      refine g_ild (pc := 154) (n := 48) (f := b) C h.1 0 (kbW_0 ..) hin dL_envelope_154 ?_
      refine lv_iload (pc := 155) hx hb dL_envelope_155 (lv_at hl 13 rfl) ?_
      refine lv_ishr (pc := 157) hx hb dL_envelope_157 ?_
      refine lv_iconst (pc := 158) (v := 1) hx hb dL_envelope_158 (by decide) ?_
      refine lv_iand (pc := 159) hx hb dL_envelope_159 ?_
      refine lv_iconst (pc := 160) (v := 1) hx hb dL_envelope_160 (by decide) ?_
      refine lv_icmp_ne (pc := 161) (tgt := 188) hx hb dL_envelope_161 (by decide) (fun c9 => ?_) (fun c9 => ?_)
      · have hf := ifF c9 hf
        exact jl_envelope_188 X hE _ _ (hr86) (ih) _ _ _ _ _ _ _ _ _ _ _ _ hf _ _ _ h (lv_sub hl [0, 1, 2, 3, 4, 5, 6, 7, 8, 9, 10, 11, 12, 13] rfl)
      · have hf := ifT c9 hf
        refine lv_aload_n (pc := 164) hx hb dL_envelope_164 rfl (lv_at hl 0 rfl) ?_
        refine lv_iload_n (pc := 165) hx hb dL_envelope_165 rfl (lv_at hl 3 rfl) ?_
        refine lv_iload (pc := 166) hx hb dL_envelope_166 (lv_at hl 13 rfl) ?_
        obtain ⟨z1, hc1, hf⟩ := bdS hf
        refine call_H (pc := 168) (As := [.ref (q0 0), .int x3, .int x13]) (rest := []) (ws' := (kbW q0 q cA d ab aw b w)) X h (vn_roundOf d x3 x13 hc1) cx_L_163 (kbW_o q0 q cA d ab aw b w) (kbW_o q0 q cA d ab aw b w).symm rfl rfl rfl hl.1 (Nat.le_of_ble_eq_true rfl) dL_envelope_168 ⟨(Nat.le_of_ble_eq_true rfl), (Nat.le_of_ble_eq_true rfl)⟩ rfl rfl ⟨(Nat.le_of_ble_eq_true rfl), (Nat.le_of_ble_eq_true rfl)⟩ (fun H locs h => ?_)
        refine W.eq (g2 := F0 m 171 ls [.int z1]) rfl ?_
        refine lv_iload (pc := 171) hx hb dL_envelope_171 (lv_at hl 11 rfl) ?_
        refine lv_icmp_lt (pc := 173) (tgt := 188) hx hb dL_envelope_173 (by decide) (fun c9 => ?_) (fun c9 => ?_)
        · have hf := ifT c9 hf
          exact jl_envelope_188 X hE _ _ (hr86) (ih) _ _ _ _ _ _ _ _ _ _ _ _ hf _ _ _ h (lv_sub hl [0, 1, 2, 3, 4, 5, 6, 7, 8, 9, 10, 11, 12, 13] rfl)
        · have hf := ifF c9 hf
          refine lv_aload_n (pc := 176) hx hb dL_envelope_176 rfl (lv_at hl 0 rfl) ?_
          refine lv_iload_n (pc := 177) hx hb dL_envelope_177 rfl (lv_at hl 3 rfl) ?_
          refine lv_iload (pc := 178) hx hb dL_envelope_178 (lv_at hl 13 rfl) ?_
          obtain ⟨z2, hc2, hf⟩ := bdS hf
          refine call_H (pc := 180) (As := [.ref (q0 0), .int x3, .int x13]) (rest := []) (ws' := (kbW q0 q cA d ab aw b w)) X h (vn_roundOf d x3 x13 hc2) cx_L_163 (kbW_o q0 q cA d ab aw b w) (kbW_o q0 q cA d ab aw b w).symm rfl rfl rfl hl.1 (Nat.le_of_ble_eq_true rfl) dL_envelope_180 ⟨(Nat.le_of_ble_eq_true rfl), (Nat.le_of_ble_eq_true rfl)⟩ rfl rfl ⟨(Nat.le_of_ble_eq_true rfl), (Nat.le_of_ble_eq_true rfl)⟩ (fun H locs h => ?_)
          refine W.eq (g2 := F0 m 183 ls [.int z2]) rfl ?_
          refine lv_iconst (pc := 183) (v := 1) hx hb dL_envelope_183 (by decide) ?_
          refine lv_iadd (pc := 184) hx hb dL_envelope_184 ?_
          refine lv_goto (pc := 185) (tgt := 190) hx hb dL_envelope_185 (by decide) ?_
          exact jl_envelope_190 X hE _ _ (hr86) (ih) _ _ _ _ _ _ _ _ _ _ _ _ hf _ _ _ h (lv_sub hl [0, 1, 2, 3, 4, 5, 6, 7, 8, 9, 10, 12, 13] rfl)
def f_L_envelope_86 (d : Dk) (b : (Nat → Int32)) (w : (Nat → Int32)) : Nat → Int32 → Int32 → Int32 → Int32 → Int32 → Int32 → Option (Int32)
  | 0, _, _, _, _, _, _ => none
  | n + 1, x3, x4, x5, x6, x7, x8 => (if x5 ≤ x8 then (f_L_envelope_517 d b w x3 x4 x5 x6 x7) else ((gn_slotState d x3 x8).bind fun z1 => (if inb (((8 : Int32) * x3) + x8) 48 then ((f_L_many ((b (((8 : Int32) * x3) + x8).toNatClampNeg) &&& (x6 ^^^ (-1 : Int32)))).bind fun z2 => (if inb (((8 : Int32) * x3) + x8) 48 then (f_L_envelope_141 d b w (f_L_envelope_86 d b w n) FU x3 x4 x5 x6 x7 x8 z1 z2 (0 : Int32) (b (((8 : Int32) * x3) + x8).toNatClampNeg) (x8 - (1 : Int32))) else none)) else none)))
set_option maxHeartbeats 1000000 in
set_option maxRecDepth 100000 in
theorem jl_envelope_86  {d : Dk} {b : (Nat → Int32)} {w : (Nat → Int32)} (X : LCx p l s m args meth c cL_envelope 16 D cA A) (hE : ∀ (z : Int32) (pc : Nat) (H : Heap) (locs : List Loc) (ls : Array Slot) (cells slots : Nat), (z = 0 ∨ z = 1) → decode cL_envelope pc = .ok (.ireturn, 1) → cells ≤ 2 → slots ≤ 12 → St D A s.heap (kbW q0 q cA d ab aw b w) H locs → W p l e rm_L_envelope s m args below meth c H locs cells slots (Qf z) (F0 m pc ls [.int z])) : ∀ (n : Nat) (x3 : Int32) (x4 : Int32) (x5 : Int32) (x6 : Int32) (x7 : Int32) (x8 : Int32) (z : Int32), f_L_envelope_86 d b w n x3 x4 x5 x6 x7 x8 = some z → ∀ (H : Heap) (locs : List Loc) (ls : Array Slot), St D A s.heap (kbW q0 q cA d ab aw b w) H locs → lv_has ls 16 [(0, .ref (q0 0)), (1, .ref (ab)), (2, .ref (aw)), (3, .int x3), (4, .int x4), (5, .int x5), (6, .int x6), (7, .int x7), (8, .int x8)] → W p l e rm_L_envelope s m args below meth c H locs 0 0 (Qf z) (F0 m 86 ls []) := by
  obtain ⟨C, hl0, hXA, hN⟩ := id X
  obtain ⟨hx, hb, hml, hown, hts, hK, hlk⟩ := id C
  intro n
  induction n with
  | zero => intro x3 x4 x5 x6 x7 x8 z hf; rw [f_L_envelope_86] at hf; cases hf
  | succ n ih =>
    intro x3 x4 x5 x6 x7 x8 z hf H locs ls h hl
    rw [f_L_envelope_86] at hf
    refine lv_iload (pc := 86) hx hb dL_envelope_86 (lv_at hl 8 rfl) ?_
    refine lv_iload (pc := 88) hx hb dL_envelope_88 (lv_at hl 5 rfl) ?_
    refine lv_icmp_ge (pc := 90) (tgt := 517) hx hb dL_envelope_90 (by decide) (fun c9 => ?_) (fun c9 => ?_)
    · have hf := ifT c9 hf
      exact jl_envelope_517 X hE   _ _ _ _ _ _ hf _ _ _ h (lv_sub hl [0, 3, 4, 5, 6, 7] rfl)
    · have hf := ifF c9 hf
      refine lv_aload_n (pc := 93) hx hb dL_envelope_93 rfl (lv_at hl 0 rfl) ?_
      refine lv_iload_n (pc := 94) hx hb dL_envelope_94 rfl (lv_at hl 3 rfl) ?_
      refine lv_iload (pc := 95) hx hb dL_envelope_95 (lv_at hl 8 rfl) ?_
      obtain ⟨z1, hc1, hf⟩ := bdS hf
      refine call_H (pc := 97) (As := [.ref (q0 0), .int x3, .int x8]) (rest := []) (ws' := (kbW q0 q cA d ab aw b w)) X h (vn_slotState d x3 x8 hc1) cx_L_150 (kbW_o q0 q cA d ab aw b w) (kbW_o q0 q cA d ab aw b w).symm rfl rfl rfl hl.1 (Nat.le_of_ble_eq_true rfl) dL_envelope_97 ⟨(Nat.le_of_ble_eq_true rfl), (Nat.le_of_ble_eq_true rfl)⟩ rfl rfl ⟨(Nat.le_of_ble_eq_true rfl), (Nat.le_of_ble_eq_true rfl)⟩ (fun H locs h => ?_)
      refine W.eq (g2 := F0 m 100 ls [.int z1]) rfl ?_
      refine lv_istore (pc := 100) (lv' := [(9, .int z1), (0, .ref (q0 0)), (1, .ref (ab)), (2, .ref (aw)), (3, .int x3), (4, .int x4), (5, .int x5), (6, .int x6), (7, .int x7), (8, .int x8)]) hx hb dL_envelope_100 hl (by decide) rfl (fun ls hl => ?_)
      refine lv_aload_n (pc := 102) hx hb dL_envelope_102 rfl (lv_at hl 2 rfl) ?_
      refine lv_bipush (pc := 103) (v := 8) hx hb dL_envelope_103 (by decide) ?_
      refine lv_iload_n (pc := 105) hx hb dL_envelope_105 rfl (lv_at hl 4 rfl) ?_
      refine lv_imul (pc := 106) hx hb dL_envelope_106 ?_
      refine lv_iload (pc := 107) hx hb dL_envelope_107 (lv_at hl 9 rfl) ?_
      refine lv_iadd (pc := 109) hx hb dL_envelope_109 ?_
      obtain ⟨hin, hf⟩ := ifS hf
      refine g_ild (pc := 110) (n := 48) (f := b) C h.1 0 (kbW_0 ..) hin dL_envelope_110 ?_
      refine lv_iload (pc := 111) hx hb dL_envelope_111 (lv_at hl 7 rfl) ?_
      refine lv_iconst (pc := 113) (v := -1) hx hb dL_envelope_113 (by decide) ?_
      refine lv_ixor (pc := 114) hx hb dL_envelope_114 ?_
      refine lv_iand (pc := 115) hx hb dL_envelope_115 ?_
      obtain ⟨z2, hc2, hf⟩ := bdS hf
      refine call_SR (pc := 116) (As := [.int ((b (((8 : Int32) * x3) + x8).toNatClampNeg) &&& (x6 ^^^ (-1 : Int32)))]) (rest := []) (wc := []) C h (k_L_many ((b (((8 : Int32) * x3) + x8).toNatClampNeg) &&& (x6 ^^^ (-1 : Int32))) hc2) cw_L_160 [] rfl rfl rfl rfl hl.1 (Nat.le_of_ble_eq_true rfl) dL_envelope_116 ⟨(Nat.le_of_ble_eq_true rfl), (Nat.le_of_ble_eq_true rfl)⟩ rfl rfl ⟨(Nat.le_of_ble_eq_true rfl), (Nat.le_of_ble_eq_true rfl)⟩ (fun H locs h => ?_)
      refine W.eq (g2 := F0 m 119 ls [.int z2]) rfl ?_
      refine lv_istore (pc := 119) (lv' := [(10, .int z2), (9, .int z1), (0, .ref (q0 0)), (1, .ref (ab)), (2, .ref (aw)), (3, .int x3), (4, .int x4), (5, .int x5), (6, .int x6), (7, .int x7), (8, .int x8)]) hx hb dL_envelope_119 hl (by decide) rfl (fun ls hl => ?_)
      refine lv_iconst (pc := 121) (v := 0) hx hb dL_envelope_121 (by decide) ?_
      refine lv_istore (pc := 122) (lv' := [(11, .int (0 : Int32)), (10, .int z2), (9, .int z1), (0, .ref (q0 0)), (1, .ref (ab)), (2, .ref (aw)), (3, .int x3), (4, .int x4), (5, .int x5), (6, .int x6), (7, .int x7), (8, .int x8)]) hx hb dL_envelope_122 hl (by decide) rfl (fun ls hl => ?_)
      refine lv_aload_n (pc := 124) hx hb dL_envelope_124 rfl (lv_at hl 4 rfl) ?_
      refine lv_bipush (pc := 125) (v := 8) hx hb dL_envelope_125 (by decide) ?_
      refine lv_iload_n (pc := 127) hx hb dL_envelope_127 rfl (lv_at hl 6 rfl) ?_
      refine lv_imul (pc := 128) hx hb dL_envelope_128 ?_
      refine lv_iload (pc := 129) hx hb dL_envelope_129 (lv_at hl 11 rfl) ?_
      refine lv_iadd (pc := 131) hx hb dL_envelope_131 ?_
      obtain ⟨hin, hf⟩ := ifS hf
      refine g_ild (pc := 132) (n := 48) (f := b) C h.1 0 (kbW_0 ..) hin dL_envelope_132 ?_
      refine lv_istore (pc := 133) (lv' := [(12, .int (b (((8 : Int32) * x3) + x8).toNatClampNeg)), (11, .int (0 : Int32)), (10, .int z2), (9, .int z1), (0, .ref (q0 0)), (1, .ref (ab)), (2, .ref (aw)), (3, .int x3), (4, .int x4), (5, .int x5), (6, .int x6), (7, .int x7), (8, .int x8)]) hx hb dL_envelope_133 hl (by decide) rfl (fun ls hl => ?_)
      refine lv_iload (pc := 135) hx hb dL_envelope_135 (lv_at hl 12 rfl) ?_
      refine lv_iconst (pc := 137) (v := 1) hx hb dL_envelope_137 (by decide) ?_
      refine lv_isub (pc := 138) hx hb dL_envelope_138 ?_
      refine lv_istore (pc := 139) (lv' := [(13, .int (x8 - (1 : Int32))), (12, .int (b (((8 : Int32) * x3) + x8).toNatClampNeg)), (11, .int (0 : Int32)), (10, .int z2), (9, .int z1), (0, .ref (q0 0)), (1, .ref (ab)), (2, .ref (aw)), (3, .int x3), (4, .int x4), (5, .int x5), (6, .int x6), (7, .int x7), (8, .int x8)]) hx hb dL_envelope_139 hl (by decide) rfl (fun ls hl => ?_)
      exact jl_envelope_141 X hE _ (ih) FU _ _ _ _ _ _ _ _ _ _ _ _ hf _ _ _ h (lv_sub hl [5, 6, 7, 8, 9, 10, 11, 12, 13, 4, 3, 2, 1, 0] rfl)
def f_L_envelope_83 (d : Dk) (b : (Nat → Int32)) (w : (Nat → Int32)) (x3 : Int32) (x4 : Int32) (x5 : Int32) (x6 : Int32) (x7 : Int32) : Option (Int32) := (f_L_envelope_86 d b w FU x3 x4 x5 x6 x7 (0 : Int32))
set_option maxHeartbeats 1000000 in
set_option maxRecDepth 100000 in
theorem jl_envelope_83  {d : Dk} {b : (Nat → Int32)} {w : (Nat → Int32)} (X : LCx p l s m args meth c cL_envelope 16 D cA A) (hE : ∀ (z : Int32) (pc : Nat) (H : Heap) (locs : List Loc) (ls : Array Slot) (cells slots : Nat), (z = 0 ∨ z = 1) → decode cL_envelope pc = .ok (.ireturn, 1) → cells ≤ 2 → slots ≤ 12 → St D A s.heap (kbW q0 q cA d ab aw b w) H locs → W p l e rm_L_envelope s m args below meth c H locs cells slots (Qf z) (F0 m pc ls [.int z])) (x3 : Int32) (x4 : Int32) (x5 : Int32) (x6 : Int32) (x7 : Int32) (z : Int32) (hf : f_L_envelope_83 d b w x3 x4 x5 x6 x7 = some z) (H : Heap) (locs : List Loc) (ls : Array Slot) (h : St D A s.heap (kbW q0 q cA d ab aw b w) H locs) (hl : lv_has ls 16 [(0, .ref (q0 0)), (1, .ref (ab)), (2, .ref (aw)), (3, .int x3), (4, .int x4), (5, .int x5), (6, .int x6), (7, .int x7)]) : W p l e rm_L_envelope s m args below meth c H locs 0 0 (Qf z) (F0 m 83 ls []) := by
  obtain ⟨C, hl0, hXA, hN⟩ := id X
  obtain ⟨hx, hb, hml, hown, hts, hK, hlk⟩ := id C
  rw [f_L_envelope_83] at hf
  refine lv_iconst (pc := 83) (v := 0) hx hb dL_envelope_83 (by decide) ?_
  refine lv_istore (pc := 84) (lv' := [(8, .int (0 : Int32)), (0, .ref (q0 0)), (1, .ref (ab)), (2, .ref (aw)), (3, .int x3), (4, .int x4), (5, .int x5), (6, .int x6), (7, .int x7)]) hx hb dL_envelope_84 hl (by decide) rfl (fun ls hl => ?_)
  exact jl_envelope_86 X hE   FU _ _ _ _ _ _ _ hf _ _ _ h (lv_sub hl [1, 2, 3, 4, 5, 6, 7, 8, 0] rfl)
def f_L_envelope_55 (d : Dk) (b : (Nat → Int32)) (w : (Nat → Int32)) (r23 : Int32 → Int32 → Int32 → Int32 → Int32 → Int32 → Option (Int32)) (x3 : Int32) (x4 : Int32) (x5 : Int32) (x7 : Int32) (x8 : Int32) (x9 : Int32) (s0 : Int32) (s1 : Int32) : Option (Int32) := (if x9 = (1 : Int32) then (r23 x3 x4 x5 (s1 ||| s0) (x7 ||| ((1 : Int32) <<< (x8 &&& 31))) (x8 + (1 : Int32))) else (r23 x3 x4 x5 (s1 ||| s0) (x7 ||| (0 : Int32)) (x8 + (1 : Int32))))
set_option maxHeartbeats 1000000 in
set_option maxRecDepth 100000 in
theorem jl_envelope_55  {d : Dk} {b : (Nat → Int32)} {w : (Nat → Int32)} (X : LCx p l s m args meth c cL_envelope 16 D cA A) (hE : ∀ (z : Int32) (pc : Nat) (H : Heap) (locs : List Loc) (ls : Array Slot) (cells slots : Nat), (z = 0 ∨ z = 1) → decode cL_envelope pc = .ok (.ireturn, 1) → cells ≤ 2 → slots ≤ 12 → St D A s.heap (kbW q0 q cA d ab aw b w) H locs → W p l e rm_L_envelope s m args below meth c H locs cells slots (Qf z) (F0 m pc ls [.int z])) (r23 : Int32 → Int32 → Int32 → Int32 → Int32 → Int32 → Option (Int32)) (hr23 : ∀ (x3 : Int32) (x4 : Int32) (x5 : Int32) (x6 : Int32) (x7 : Int32) (x8 : Int32) (z : Int32), r23 x3 x4 x5 x6 x7 x8 = some z → ∀ (H : Heap) (locs : List Loc) (ls : Array Slot), St D A s.heap (kbW q0 q cA d ab aw b w) H locs → lv_has ls 16 [(0, .ref (q0 0)), (1, .ref (ab)), (2, .ref (aw)), (3, .int x3), (4, .int x4), (5, .int x5), (6, .int x6), (7, .int x7), (8, .int x8)] → W p l e rm_L_envelope s m args below meth c H locs 0 0 (Qf z) (F0 m 23 ls [])) (x3 : Int32) (x4 : Int32) (x5 : Int32) (x7 : Int32) (x8 : Int32) (x9 : Int32) (s0 : Int32) (s1 : Int32) (z : Int32) (hf : f_L_envelope_55 d b w r23 x3 x4 x5 x7 x8 x9 s0 s1 = some z) (H : Heap) (locs : List Loc) (ls : Array Slot) (h : St D A s.heap (kbW q0 q cA d ab aw b w) H locs) (hl : lv_has ls 16 [(0, .ref (q0 0)), (1, .ref (ab)), (2, .ref (aw)), (3, .int x3), (4, .int x4), (5, .int x5), (7, .int x7), (8, .int x8), (9, .int x9)]) : W p l e rm_L_envelope s m args below meth c H locs 0 0 (Qf z) (F0 m 55 ls [.int s0, .int s1]) := by
  obtain ⟨C, hl0, hXA, hN⟩ := id X
  obtain ⟨hx, hb, hml, hown, hts, hK, hlk⟩ := id C
  rw [f_L_envelope_55] at hf
  refine lv_ior (pc := 55) hx hb dL_envelope_55 ?_
  refine lv_istore (pc := 56) (lv' := [(6, .int (s1 ||| s0)), (0, .ref (q0 0)), (1, .ref (ab)), (2, .ref (aw)), (3, .int x3), (4, .int x4), (5, .int x5), (7, .int x7), (8, .int x8), (9, .int x9)]) hx hb dL_envelope_56 hl (by decide) rfl (fun ls hl => ?_)
  refine lv_iload (pc := 58) hx hb dL_envelope_58 (lv_at hl 7 rfl) ?_
  refine lv_iload (pc := 60) hx hb dL_envelope_60 (lv_at hl 9 rfl) ?_
  refine lv_iconst (pc := 62) (v := 1) hx hb dL_envelope_62 (by decide) ?_
  refine lv_icmp_ne (pc := 63) (tgt := 73) hx hb dL_envelope_63 (by decide) (fun c9 => ?_) (fun c9 => ?_)
  · have hf := ifF c9 hf
    refine lv_iconst (pc := 73) (v := 0) hx hb dL_envelope_73 (by decide) ?_
    refine lv_ior (pc := 74) hx hb dL_envelope_74 ?_
    refine lv_istore (pc := 75) (lv' := [(7, .int (x7 ||| (0 : Int32))), (6, .int (s1 ||| s0)), (0, .ref (q0 0)), (1, .ref (ab)), (2, .ref (aw)), (3, .int x3), (4, .int x4), (5, .int x5), (8, .int x8), (9, .int x9)]) hx hb dL_envelope_75 hl (by decide) rfl (fun ls hl => ?_)
    refine lv_iinc (pc := 77) (v := (x8 + (1 : Int32))) (lv' := [(8, .int (x8 + (1 : Int32))), (7, .int (x7 ||| (0 : Int32))), (6, .int (s1 ||| s0)), (0, .ref (q0 0)), (1, .ref (ab)), (2, .ref (aw)), (3, .int x3), (4, .int x4), (5, .int x5), (9, .int x9)]) hx hb dL_envelope_77 hl (k := 8) rfl rfl (by decide) rfl (fun ls hl => ?_)
    refine lv_goto (pc := 80) (tgt := 23) hx hb dL_envelope_80 (by decide) ?_
    exact hr23 _ _ _ _ _ _ _ hf _ _ _ h (lv_sub hl [3, 4, 5, 6, 7, 8, 2, 1, 0] rfl)
  · have hf := ifT c9 hf
    refine lv_iconst (pc := 66) (v := 1) hx hb dL_envelope_66 (by decide) ?_
    refine lv_iload (pc := 67) hx hb dL_envelope_67 (lv_at hl 8 rfl) ?_
    refine lv_ishl (pc := 69) hx hb dL_envelope_69 ?_
    refine lv_goto (pc := 70) (tgt := 74) hx hb dL_envelope_70 (by decide) ?_
    refine lv_ior (pc := 74) hx hb dL_envelope_74 ?_
    refine lv_istore (pc := 75) (lv' := [(7, .int (x7 ||| ((1 : Int32) <<< (x8 &&& 31)))), (6, .int (s1 ||| s0)), (0, .ref (q0 0)), (1, .ref (ab)), (2, .ref (aw)), (3, .int x3), (4, .int x4), (5, .int x5), (8, .int x8), (9, .int x9)]) hx hb dL_envelope_75 hl (by decide) rfl (fun ls hl => ?_)
    refine lv_iinc (pc := 77) (v := (x8 + (1 : Int32))) (lv' := [(8, .int (x8 + (1 : Int32))), (7, .int (x7 ||| ((1 : Int32) <<< (x8 &&& 31)))), (6, .int (s1 ||| s0)), (0, .ref (q0 0)), (1, .ref (ab)), (2, .ref (aw)), (3, .int x3), (4, .int x4), (5, .int x5), (9, .int x9)]) hx hb dL_envelope_77 hl (k := 8) rfl rfl (by decide) rfl (fun ls hl => ?_)
    refine lv_goto (pc := 80) (tgt := 23) hx hb dL_envelope_80 (by decide) ?_
    exact hr23 _ _ _ _ _ _ _ hf _ _ _ h (lv_sub hl [3, 4, 5, 6, 7, 8, 2, 1, 0] rfl)
def f_L_envelope_23 (d : Dk) (b : (Nat → Int32)) (w : (Nat → Int32)) : Nat → Int32 → Int32 → Int32 → Int32 → Int32 → Int32 → Option (Int32)
  | 0, _, _, _, _, _, _ => none
  | n + 1, x3, x4, x5, x6, x7, x8 => (if x5 ≤ x8 then (f_L_envelope_83 d b w x3 x4 x5 x6 x7) else ((gn_slotState d x3 x8).bind fun z1 => (if z1 = (2 : Int32) then (f_L_envelope_55 d b w (f_L_envelope_23 d b w n) x3 x4 x5 x7 x8 z1 ((1 : Int32) <<< (x8 &&& 31)) x6) else (f_L_envelope_55 d b w (f_L_envelope_23 d b w n) x3 x4 x5 x7 x8 z1 (0 : Int32) x6))))
set_option maxHeartbeats 1000000 in
set_option maxRecDepth 100000 in
theorem jl_envelope_23  {d : Dk} {b : (Nat → Int32)} {w : (Nat → Int32)} (X : LCx p l s m args meth c cL_envelope 16 D cA A) (hE : ∀ (z : Int32) (pc : Nat) (H : Heap) (locs : List Loc) (ls : Array Slot) (cells slots : Nat), (z = 0 ∨ z = 1) → decode cL_envelope pc = .ok (.ireturn, 1) → cells ≤ 2 → slots ≤ 12 → St D A s.heap (kbW q0 q cA d ab aw b w) H locs → W p l e rm_L_envelope s m args below meth c H locs cells slots (Qf z) (F0 m pc ls [.int z])) : ∀ (n : Nat) (x3 : Int32) (x4 : Int32) (x5 : Int32) (x6 : Int32) (x7 : Int32) (x8 : Int32) (z : Int32), f_L_envelope_23 d b w n x3 x4 x5 x6 x7 x8 = some z → ∀ (H : Heap) (locs : List Loc) (ls : Array Slot), St D A s.heap (kbW q0 q cA d ab aw b w) H locs → lv_has ls 16 [(0, .ref (q0 0)), (1, .ref (ab)), (2, .ref (aw)), (3, .int x3), (4, .int x4), (5, .int x5), (6, .int x6), (7, .int x7), (8, .int x8)] → W p l e rm_L_envelope s m args below meth c H locs 0 0 (Qf z) (F0 m 23 ls []) := by
  obtain ⟨C, hl0, hXA, hN⟩ := id X
  obtain ⟨hx, hb, hml, hown, hts, hK, hlk⟩ := id C
  intro n
  induction n with
  | zero => intro x3 x4 x5 x6 x7 x8 z hf; rw [f_L_envelope_23] at hf; cases hf
  | succ n ih =>
    intro x3 x4 x5 x6 x7 x8 z hf H locs ls h hl
    rw [f_L_envelope_23] at hf
    refine lv_iload (pc := 23) hx hb dL_envelope_23 (lv_at hl 8 rfl) ?_
    refine lv_iload (pc := 25) hx hb dL_envelope_25 (lv_at hl 5 rfl) ?_
    refine lv_icmp_ge (pc := 27) (tgt := 83) hx hb dL_envelope_27 (by decide) (fun c9 => ?_) (fun c9 => ?_)
    · have hf := ifT c9 hf
      exact jl_envelope_83 X hE   _ _ _ _ _ _ hf _ _ _ h (lv_sub hl [0, 1, 2, 3, 4, 5, 6, 7] rfl)
    · have hf := ifF c9 hf
      refine lv_aload_n (pc := 30) hx hb dL_envelope_30 rfl (lv_at hl 0 rfl) ?_
      refine lv_iload_n (pc := 31) hx hb dL_envelope_31 rfl (lv_at hl 3 rfl) ?_
      refine lv_iload (pc := 32) hx hb dL_envelope_32 (lv_at hl 8 rfl) ?_
      obtain ⟨z1, hc1, hf⟩ := bdS hf
      refine call_H (pc := 34) (As := [.ref (q0 0), .int x3, .int x8]) (rest := []) (ws' := (kbW q0 q cA d ab aw b w)) X h (vn_slotState d x3 x8 hc1) cx_L_150 (kbW_o q0 q cA d ab aw b w) (kbW_o q0 q cA d ab aw b w).symm rfl rfl rfl hl.1 (Nat.le_of_ble_eq_true rfl) dL_envelope_34 ⟨(Nat.le_of_ble_eq_true rfl), (Nat.le_of_ble_eq_true rfl)⟩ rfl rfl ⟨(Nat.le_of_ble_eq_true rfl), (Nat.le_of_ble_eq_true rfl)⟩ (fun H locs h => ?_)
      refine W.eq (g2 := F0 m 37 ls [.int z1]) rfl ?_
      refine lv_istore (pc := 37) (lv' := [(9, .int z1), (0, .ref (q0 0)), (1, .ref (ab)), (2, .ref (aw)), (3, .int x3), (4, .int x4), (5, .int x5), (6, .int x6), (7, .int x7), (8, .int x8)]) hx hb dL_envelope_37 hl (by decide) rfl (fun ls hl => ?_)
      refine lv_iload (pc := 39) hx hb dL_envelope_39 (lv_at hl 7 rfl) ?_
      refine lv_iload (pc := 41) hx hb dL_envelope_41 (lv_at hl 0 rfl) ?_
      refine lv_iconst (pc := 43) (v := 2) hx hb dL_envelope_43 (by decide) ?_
      refine lv_icmp_ne (pc := 44) (tgt := 54) hx hb dL_envelope_44 (by decide) (fun c9 => ?_) (fun c9 => ?_)
      · have hf := ifF c9 hf
        refine lv_iconst (pc := 54) (v := 0) hx hb dL_envelope_54 (by decide) ?_
        exact jl_envelope_55 X hE _ (ih) _ _ _ _ _ _ _ _ _ hf _ _ _ h (lv_sub hl [1, 2, 3, 4, 5, 6, 8, 9, 0] rfl)
      · have hf := ifT c9 hf
        refine lv_iconst (pc := 47) (v := 1) hx hb dL_envelope_47 (by decide) ?_
        refine lv_iload (pc := 48) hx hb dL_envelope_48 (lv_at hl 9 rfl) ?_
        refine lv_ishl (pc := 50) hx hb dL_envelope_50 ?_
        refine lv_goto (pc := 51) (tgt := 55) hx hb dL_envelope_51 (by decide) ?_
        exact jl_envelope_55 X hE _ (ih) _ _ _ _ _ _ _ _ _ hf _ _ _ h (lv_sub hl [1, 2, 3, 4, 5, 6, 8, 9, 0] rfl)
def f_L_envelope (d : Dk) (b : (Nat → Int32)) (w : (Nat → Int32)) (x3 : Int32) : Option (Int32) := ((gn_state d x3).bind fun z1 => ((gn_slots d x3).bind fun z2 => (f_L_envelope_23 d b w FU x3 z1 z2 (0 : Int32) (0 : Int32) (0 : Int32))))
set_option maxHeartbeats 1000000 in
set_option maxRecDepth 100000 in
theorem jl_envelope_0  {d : Dk} {b : (Nat → Int32)} {w : (Nat → Int32)} (X : LCx p l s m args meth c cL_envelope 16 D cA A) (hE : ∀ (z : Int32) (pc : Nat) (H : Heap) (locs : List Loc) (ls : Array Slot) (cells slots : Nat), (z = 0 ∨ z = 1) → decode cL_envelope pc = .ok (.ireturn, 1) → cells ≤ 2 → slots ≤ 12 → St D A s.heap (kbW q0 q cA d ab aw b w) H locs → W p l e rm_L_envelope s m args below meth c H locs cells slots (Qf z) (F0 m pc ls [.int z])) (x3 : Int32) (z : Int32) (hf : f_L_envelope d b w x3 = some z) (H : Heap) (locs : List Loc) (ls : Array Slot) (h : St D A s.heap (kbW q0 q cA d ab aw b w) H locs) (hl : lv_has ls 16 [(0, .ref (q0 0)), (1, .ref (ab)), (2, .ref (aw)), (3, .int x3)]) : W p l e rm_L_envelope s m args below meth c H locs 0 0 (Qf z) (F0 m 0 ls []) := by
  obtain ⟨C, hl0, hXA, hN⟩ := id X
  obtain ⟨hx, hb, hml, hown, hts, hK, hlk⟩ := id C
  rw [f_L_envelope] at hf
  refine lv_aload_n (pc := 0) hx hb dL_envelope_0 rfl (lv_at hl 0 rfl) ?_
  refine lv_iload_n (pc := 1) hx hb dL_envelope_1 rfl (lv_at hl 3 rfl) ?_
  obtain ⟨z1, hc1, hf⟩ := bdS hf
  refine call_H (pc := 2) (As := [.ref (q0 0), .int x3]) (rest := []) (ws' := (kbW q0 q cA d ab aw b w)) X h (vn_state d x3 hc1) cx_L_136 (kbW_o q0 q cA d ab aw b w) (kbW_o q0 q cA d ab aw b w).symm rfl rfl rfl hl.1 (Nat.le_of_ble_eq_true rfl) dL_envelope_2 ⟨(Nat.le_of_ble_eq_true rfl), (Nat.le_of_ble_eq_true rfl)⟩ rfl rfl ⟨(Nat.le_of_ble_eq_true rfl), (Nat.le_of_ble_eq_true rfl)⟩ (fun H locs h => ?_)
  refine W.eq (g2 := F0 m 5 ls [.int z1]) rfl ?_
  refine lv_istore (pc := 5) (lv' := [(4, .int z1), (0, .ref (q0 0)), (1, .ref (ab)), (2, .ref (aw)), (3, .int x3)]) hx hb dL_envelope_5 hl (by decide) rfl (fun ls hl => ?_)
  refine lv_aload_n (pc := 7) hx hb dL_envelope_7 rfl (lv_at hl 1 rfl) ?_
  refine lv_iload_n (pc := 8) hx hb dL_envelope_8 rfl (lv_at hl 4 rfl) ?_
  obtain ⟨z2, hc2, hf⟩ := bdS hf
  refine call_H (pc := 9) (As := [.ref (q0 0), .int x3]) (rest := []) (ws' := (kbW q0 q cA d ab aw b w)) X h (vn_slots d x3 hc2) cx_L_148 (kbW_o q0 q cA d ab aw b w) (kbW_o q0 q cA d ab aw b w).symm rfl rfl rfl hl.1 (Nat.le_of_ble_eq_true rfl) dL_envelope_9 ⟨(Nat.le_of_ble_eq_true rfl), (Nat.le_of_ble_eq_true rfl)⟩ rfl rfl ⟨(Nat.le_of_ble_eq_true rfl), (Nat.le_of_ble_eq_true rfl)⟩ (fun H locs h => ?_)
  refine W.eq (g2 := F0 m 12 ls [.int z2]) rfl ?_
  refine lv_istore (pc := 12) (lv' := [(5, .int z2), (4, .int z1), (0, .ref (q0 0)), (1, .ref (ab)), (2, .ref (aw)), (3, .int x3)]) hx hb dL_envelope_12 hl (by decide) rfl (fun ls hl => ?_)
  refine lv_iconst (pc := 14) (v := 0) hx hb dL_envelope_14 (by decide) ?_
  refine lv_istore (pc := 15) (lv' := [(6, .int (0 : Int32)), (5, .int z2), (4, .int z1), (0, .ref (q0 0)), (1, .ref (ab)), (2, .ref (aw)), (3, .int x3)]) hx hb dL_envelope_15 hl (by decide) rfl (fun ls hl => ?_)
  refine lv_iconst (pc := 17) (v := 0) hx hb dL_envelope_17 (by decide) ?_
  refine lv_istore (pc := 18) (lv' := [(7, .int (0 : Int32)), (6, .int (0 : Int32)), (5, .int z2), (4, .int z1), (0, .ref (q0 0)), (1, .ref (ab)), (2, .ref (aw)), (3, .int x3)]) hx hb dL_envelope_18 hl (by decide) rfl (fun ls hl => ?_)
  refine lv_iconst (pc := 20) (v := 0) hx hb dL_envelope_20 (by decide) ?_
  refine lv_istore (pc := 21) (lv' := [(8, .int (0 : Int32)), (7, .int (0 : Int32)), (6, .int (0 : Int32)), (5, .int z2), (4, .int z1), (0, .ref (q0 0)), (1, .ref (ab)), (2, .ref (aw)), (3, .int x3)]) hx hb dL_envelope_21 hl (by decide) rfl (fun ls hl => ?_)
  exact jl_envelope_23 X hE   FU _ _ _ _ _ _ _ hf _ _ _ h (lv_sub hl [5, 6, 7, 8, 4, 3, 2, 1, 0] rfl)
set_option maxRecDepth 100000 in
theorem k_L_envelope {q0 : Nat → Nat} {q : Nat → Nat → Nat} {ab aw : Nat} {cA : Nat → ClassId} {D : va_G} (d : Dk) (b : (Nat → Int32)) (w : (Nat → Int32)) (x3 : Int32) {z : Int32} (hf : f_L_envelope d b w x3 = some z) : CtV yL_envelope (.code yL_envelope cL_envelope 16 (some .boolean)) rm_L_envelope [.ref (q0 0), .ref (ab), .ref (aw), .int x3] D cA (kbW q0 q cA d ab aw b w) (kbW q0 q cA d ab aw b w) (.int z) 2 12 := by
  refine vxL_of (Qc := fun sz => PostU D (kbW q0 q cA d ab aw b w) (kbW q0 q cA d ab aw b w) sz (some (.int z))) (by decide) (Nat.le_of_ble_eq_true rfl) rfl ?_
  intro p l e s m below meth c ls C hr h hl
  exact jl_envelope_0 (Qf := fun z => vx_MQ below (PostU D (kbW q0 q cA d ab aw b w) (kbW q0 q cA d ab aw b w) s.heap.size (some (.int z))) XN _ s 2 12 (va_A (kbW q0 q cA d ab aw b w) s.heap.size)) C (fun z pc H locs ls cells slots hbo hd hc hs h => end_z C.1 hr hbo hc hs h hd) _ _ hf _ _ _ h (lv_sub hl [0, 1, 2, 3] rfl)
end
