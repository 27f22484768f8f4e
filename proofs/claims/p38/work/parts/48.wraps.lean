section
theorem eW_cong (q : Nat → Nat) (cA : Nat → ClassId) {σ σ' : Nat → Nat → Int32} (h : ∀ c, c < 17 → σ' c = σ c) : eW q cA σ' = eW q cA σ := by
  unfold eW
  rw [h 0 (by decide), h 1 (by decide), h 2 (by decide), h 3 (by decide), h 4 (by decide), h 5 (by decide), h 6 (by decide), h 7 (by decide), h 8 (by decide), h 9 (by decide), h 10 (by decide), h 11 (by decide), h 12 (by decide), h 13 (by decide), h 14 (by decide), h 15 (by decide), h 16 (by decide)]
theorem kW_cong (q0 : Nat → Nat) (q : Nat → Nat → Nat) (cA : Nat → ClassId) {d d' : Dk} (h1 : d'.1 = d.1) (h2 : d'.2.1 = d.2.1) (h : ∀ k c, c < 17 → d.2.2 k c = d'.2.2 k c) : kW q0 q cA d = kW q0 q cA d' := by
  unfold kW sW eL
  rw [h1, h2]
  congr 1
  exact flatMap_eqs fun k _ => eW_cong _ _ (h k)
set_option maxRecDepth 20000 in
theorem cw_L_37 : CWv RL 37 yX4_send cX4_send 3 (some .int) 1 := ⟨wm 95 (by decide +kernel) rfl, wm 96 (by decide +kernel) rfl, wm 97 (by decide +kernel) rfl, wm 1 (by decide +kernel) rfl, wm 98 rfl rfl, by decide +kernel, by decide +kernel, by decide +kernel⟩
set_option maxRecDepth 20000 in
theorem cx_L_204 : CWx 204 yL_send cL_send 3 (some .int) [(0, 5, 6, 23), (0, 5, 10, 16)] 2 := ⟨wm 90 (by decide +kernel) rfl, wm 91 (by decide +kernel) rfl, wm 0 (by decide +kernel) rfl, wm 92 (by decide +kernel) rfl, by decide +kernel, by decide +kernel, by decide +kernel⟩
set_option maxRecDepth 20000 in
theorem cw_L_41 : CWv RL 41 yX4_sign cX4_sign 6 (some .int) 3 := ⟨wm 230 (by decide +kernel) rfl, wm 231 (by decide +kernel) rfl, wm 232 (by decide +kernel) rfl, wm 1 (by decide +kernel) rfl, wm 233 rfl rfl, by decide +kernel, by decide +kernel, by decide +kernel⟩
set_option maxRecDepth 20000 in
theorem cx_L_206 : CWx 206 yL_sign cL_sign 5 (some .int) [(0, 7, 8, 23), (0, 7, 13, 16)] 4 := ⟨wm 227 (by decide +kernel) rfl, wm 228 (by decide +kernel) rfl, wm 0 (by decide +kernel) rfl, wm 229 (by decide +kernel) rfl, by decide +kernel, by decide +kernel, by decide +kernel⟩
set_option maxRecDepth 20000 in
theorem cw_L_44 : CWv RL 44 yX4_whyNot cX4_whyNot 5 (some .int) 3 := ⟨wm 268 (by decide +kernel) rfl, wm 269 (by decide +kernel) rfl, wm 270 (by decide +kernel) rfl, wm 1 (by decide +kernel) rfl, wm 271 rfl rfl, by decide +kernel, by decide +kernel, by decide +kernel⟩
set_option maxRecDepth 20000 in
theorem cx_L_167 : CWx 167 yL_whyNot cL_whyNot 5 (some .int) [(0, 7, 8, 23)] 4 := ⟨wm 265 (by decide +kernel) rfl, wm 266 (by decide +kernel) rfl, wm 0 (by decide +kernel) rfl, wm 267 (by decide +kernel) rfl, by decide +kernel, by decide +kernel, by decide +kernel⟩
set_option maxRecDepth 20000 in
theorem cw_L_53 : CWv RL 53 yX4_delegate cX4_delegate 8 (some .int) 5 := ⟨wm 276 (by decide +kernel) rfl, wm 277 (by decide +kernel) rfl, wm 278 (by decide +kernel) rfl, wm 1 (by decide +kernel) rfl, wm 279 rfl rfl, by decide +kernel, by decide +kernel, by decide +kernel⟩
set_option maxRecDepth 20000 in
theorem cx_L_212 : CWx 212 yL_delegate cL_delegate 7 (some .int) [(0, 11, 12, 23), (0, 11, 17, 26)] 6 := ⟨wm 272 (by decide +kernel) rfl, wm 273 (by decide +kernel) rfl, wm 0 (by decide +kernel) rfl, wm 274 (by decide +kernel) rfl, by decide +kernel, by decide +kernel, by decide +kernel⟩
set_option maxRecDepth 20000 in
theorem cw_L_66 : CWv RL 66 yX4_toSign cX4_toSign 7 (some .int) 1 := ⟨wm 302 (by decide +kernel) rfl, wm 303 (by decide +kernel) rfl, wm 304 (by decide +kernel) rfl, wm 1 (by decide +kernel) rfl, wm 305 rfl rfl, by decide +kernel, by decide +kernel, by decide +kernel⟩
set_option maxRecDepth 20000 in
theorem cx_L_158 : CWx 158 yL_toSign cL_toSign 3 (some .int) [(0, 5, 6, 23)] 2 := ⟨wm 299 (by decide +kernel) rfl, wm 300 (by decide +kernel) rfl, wm 0 (by decide +kernel) rfl, wm 301 (by decide +kernel) rfl, by decide +kernel, by decide +kernel, by decide +kernel⟩
set_option maxRecDepth 20000 in
theorem cw_L_75 : CWv RL 75 yX4_state cX4_state 2 (some .int) 1 := ⟨wm 309 (by decide +kernel) rfl, wm 310 (by decide +kernel) rfl, wm 311 (by decide +kernel) rfl, wm 1 (by decide +kernel) rfl, wm 312 rfl rfl, by decide +kernel, by decide +kernel, by decide +kernel⟩
set_option maxRecDepth 20000 in
theorem cx_L_136 : CWx 136 yL_state cL_state 3 (some .int) [(0, 5, 6, 23)] 2 := ⟨wm 306 (by decide +kernel) rfl, wm 307 (by decide +kernel) rfl, wm 0 (by decide +kernel) rfl, wm 308 (by decide +kernel) rfl, by decide +kernel, by decide +kernel, by decide +kernel⟩
set_option maxRecDepth 20000 in
theorem cw_L_107 : CWv RL 107 yX4_events cX4_events 2 (some .int) 1 := ⟨wm 320 (by decide +kernel) rfl, wm 321 (by decide +kernel) rfl, wm 322 (by decide +kernel) rfl, wm 1 (by decide +kernel) rfl, wm 323 rfl rfl, by decide +kernel, by decide +kernel, by decide +kernel⟩
set_option maxRecDepth 20000 in
theorem cx_L_141 : CWx 141 yL_events cL_events 3 (some .int) [(0, 5, 6, 23)] 2 := ⟨wm 317 (by decide +kernel) rfl, wm 318 (by decide +kernel) rfl, wm 0 (by decide +kernel) rfl, wm 319 (by decide +kernel) rfl, by decide +kernel, by decide +kernel, by decide +kernel⟩
set_option maxRecDepth 20000 in
theorem cw_L_119 : CWv RL 119 yX4_seal cX4_seal 4 (some .int) 2 := ⟨wm 327 (by decide +kernel) rfl, wm 328 (by decide +kernel) rfl, wm 329 (by decide +kernel) rfl, wm 1 (by decide +kernel) rfl, wm 330 rfl rfl, by decide +kernel, by decide +kernel, by decide +kernel⟩
set_option maxRecDepth 20000 in
theorem cx_L_143 : CWx 143 yL_seal cL_seal 4 (some .int) [(0, 6, 7, 23)] 3 := ⟨wm 324 (by decide +kernel) rfl, wm 325 (by decide +kernel) rfl, wm 0 (by decide +kernel) rfl, wm 326 (by decide +kernel) rfl, by decide +kernel, by decide +kernel, by decide +kernel⟩
set_option maxRecDepth 20000 in
theorem cw_L_72 : CWv RL 72 yX4_nextReminder cX4_nextReminder 2 (some .int) 1 := ⟨wm 344 (by decide +kernel) rfl, wm 345 (by decide +kernel) rfl, wm 346 (by decide +kernel) rfl, wm 1 (by decide +kernel) rfl, wm 347 rfl rfl, by decide +kernel, by decide +kernel, by decide +kernel⟩
set_option maxRecDepth 20000 in
theorem cx_L_146 : CWx 146 yL_nextReminder cL_nextReminder 3 (some .int) [(0, 5, 6, 23)] 2 := ⟨wm 341 (by decide +kernel) rfl, wm 342 (by decide +kernel) rfl, wm 0 (by decide +kernel) rfl, wm 343 (by decide +kernel) rfl, by decide +kernel, by decide +kernel, by decide +kernel⟩
set_option maxRecDepth 20000 in
theorem cw_L_78 : CWv RL 78 yX4_slots cX4_slots 2 (some .int) 1 := ⟨wm 366 (by decide +kernel) rfl, wm 367 (by decide +kernel) rfl, wm 368 (by decide +kernel) rfl, wm 1 (by decide +kernel) rfl, wm 369 rfl rfl, by decide +kernel, by decide +kernel, by decide +kernel⟩
set_option maxRecDepth 20000 in
theorem cx_L_148 : CWx 148 yL_slots cL_slots 3 (some .int) [(0, 5, 6, 23)] 2 := ⟨wm 363 (by decide +kernel) rfl, wm 364 (by decide +kernel) rfl, wm 0 (by decide +kernel) rfl, wm 365 (by decide +kernel) rfl, by decide +kernel, by decide +kernel, by decide +kernel⟩
set_option maxRecDepth 20000 in
theorem cw_L_81 : CWv RL 81 yX4_slotState cX4_slotState 4 (some .int) 2 := ⟨wm 373 (by decide +kernel) rfl, wm 374 (by decide +kernel) rfl, wm 375 (by decide +kernel) rfl, wm 1 (by decide +kernel) rfl, wm 376 rfl rfl, by decide +kernel, by decide +kernel, by decide +kernel⟩
set_option maxRecDepth 20000 in
theorem cx_L_150 : CWx 150 yL_slotState cL_slotState 4 (some .int) [(0, 6, 7, 23)] 3 := ⟨wm 370 (by decide +kernel) rfl, wm 371 (by decide +kernel) rfl, wm 0 (by decide +kernel) rfl, wm 372 (by decide +kernel) rfl, by decide +kernel, by decide +kernel, by decide +kernel⟩
set_option maxRecDepth 20000 in
theorem cw_L_84 : CWv RL 84 yX4_missing cX4_missing 4 (some .int) 2 := ⟨wm 384 (by decide +kernel) rfl, wm 385 (by decide +kernel) rfl, wm 386 (by decide +kernel) rfl, wm 1 (by decide +kernel) rfl, wm 387 rfl rfl, by decide +kernel, by decide +kernel, by decide +kernel⟩
set_option maxRecDepth 20000 in
theorem cx_L_152 : CWx 152 yL_missing cL_missing 4 (some .int) [(0, 6, 7, 23)] 3 := ⟨wm 381 (by decide +kernel) rfl, wm 382 (by decide +kernel) rfl, wm 0 (by decide +kernel) rfl, wm 383 (by decide +kernel) rfl, by decide +kernel, by decide +kernel, by decide +kernel⟩
set_option maxRecDepth 20000 in
theorem cw_L_60 : CWv RL 60 yX4_delegateToday cX4_delegateToday 2 (some .int) 1 := ⟨wm 392 (by decide +kernel) rfl, wm 393 (by decide +kernel) rfl, wm 394 (by decide +kernel) rfl, wm 1 (by decide +kernel) rfl, wm 395 rfl rfl, by decide +kernel, by decide +kernel, by decide +kernel⟩
set_option maxRecDepth 20000 in
theorem cx_L_154 : CWx 154 yL_delegateToday cL_delegateToday 3 (some .int) [(0, 5, 6, 23)] 2 := ⟨wm 389 (by decide +kernel) rfl, wm 390 (by decide +kernel) rfl, wm 0 (by decide +kernel) rfl, wm 391 (by decide +kernel) rfl, by decide +kernel, by decide +kernel, by decide +kernel⟩
set_option maxRecDepth 20000 in
theorem cw_L_63 : CWv RL 63 yX4_signedFor cX4_signedFor 2 (some .int) 1 := ⟨wm 399 (by decide +kernel) rfl, wm 400 (by decide +kernel) rfl, wm 401 (by decide +kernel) rfl, wm 1 (by decide +kernel) rfl, wm 402 rfl rfl, by decide +kernel, by decide +kernel, by decide +kernel⟩
set_option maxRecDepth 20000 in
theorem cx_L_156 : CWx 156 yL_signedFor cL_signedFor 3 (some .int) [(0, 5, 6, 23)] 2 := ⟨wm 396 (by decide +kernel) rfl, wm 397 (by decide +kernel) rfl, wm 0 (by decide +kernel) rfl, wm 398 (by decide +kernel) rfl, by decide +kernel, by decide +kernel, by decide +kernel⟩
set_option maxRecDepth 20000 in
theorem cw_L_95 : CWv RL 95 yX4_roundOf cX4_roundOf 4 (some .int) 2 := ⟨wm 412 (by decide +kernel) rfl, wm 413 (by decide +kernel) rfl, wm 414 (by decide +kernel) rfl, wm 1 (by decide +kernel) rfl, wm 415 rfl rfl, by decide +kernel, by decide +kernel, by decide +kernel⟩
set_option maxRecDepth 20000 in
theorem cx_L_163 : CWx 163 yL_roundOf cL_roundOf 4 (some .int) [(0, 6, 7, 23)] 3 := ⟨wm 409 (by decide +kernel) rfl, wm 410 (by decide +kernel) rfl, wm 0 (by decide +kernel) rfl, wm 411 (by decide +kernel) rfl, by decide +kernel, by decide +kernel, by decide +kernel⟩
set_option maxRecDepth 20000 in
theorem cw_L_92 : CWv RL 92 yX4_ahead cX4_ahead 4 (some .int) 2 := ⟨wm 419 (by decide +kernel) rfl, wm 420 (by decide +kernel) rfl, wm 421 (by decide +kernel) rfl, wm 1 (by decide +kernel) rfl, wm 422 rfl rfl, by decide +kernel, by decide +kernel, by decide +kernel⟩
set_option maxRecDepth 20000 in
theorem cx_L_165 : CWx 165 yL_ahead cL_ahead 4 (some .int) [(0, 6, 7, 23)] 3 := ⟨wm 416 (by decide +kernel) rfl, wm 417 (by decide +kernel) rfl, wm 0 (by decide +kernel) rfl, wm 418 (by decide +kernel) rfl, by decide +kernel, by decide +kernel, by decide +kernel⟩
set_option maxRecDepth 20000 in
theorem cw_L_125 : CWv RL 125 yX4_openBehind cX4_openBehind 4 (some .int) 2 := ⟨wm 430 (by decide +kernel) rfl, wm 431 (by decide +kernel) rfl, wm 432 (by decide +kernel) rfl, wm 1 (by decide +kernel) rfl, wm 433 rfl rfl, by decide +kernel, by decide +kernel, by decide +kernel⟩
set_option maxRecDepth 20000 in
theorem cx_L_170 : CWx 170 yL_openBehind cL_openBehind 4 (some .int) [(0, 6, 7, 23)] 3 := ⟨wm 427 (by decide +kernel) rfl, wm 428 (by decide +kernel) rfl, wm 0 (by decide +kernel) rfl, wm 429 (by decide +kernel) rfl, by decide +kernel, by decide +kernel, by decide +kernel⟩
set_option maxRecDepth 20000 in
theorem cw_L_122 : CWv RL 122 yX4_stateBehind cX4_stateBehind 4 (some .int) 2 := ⟨wm 452 (by decide +kernel) rfl, wm 453 (by decide +kernel) rfl, wm 454 (by decide +kernel) rfl, wm 1 (by decide +kernel) rfl, wm 455 rfl rfl, by decide +kernel, by decide +kernel, by decide +kernel⟩
set_option maxRecDepth 20000 in
theorem cx_L_172 : CWx 172 yL_stateBehind cL_stateBehind 4 (some .int) [(0, 6, 7, 23)] 3 := ⟨wm 449 (by decide +kernel) rfl, wm 450 (by decide +kernel) rfl, wm 0 (by decide +kernel) rfl, wm 451 (by decide +kernel) rfl, by decide +kernel, by decide +kernel, by decide +kernel⟩
set_option maxRecDepth 20000 in
theorem cw_L_87 : CWv RL 87 yX4_share cX4_share 3 (some .float) 1 := ⟨wm 459 (by decide +kernel) rfl, wm 460 (by decide +kernel) rfl, wm 461 (by decide +kernel) rfl, wm 1 (by decide +kernel) rfl, wm 462 rfl rfl, by decide +kernel, by decide +kernel, by decide +kernel⟩
set_option maxRecDepth 20000 in
theorem cx_L_174 : CWx 174 yL_share cL_share 3 (some .float) [(0, 5, 6, 23)] 2 := ⟨wm 456 (by decide +kernel) rfl, wm 457 (by decide +kernel) rfl, wm 0 (by decide +kernel) rfl, wm 458 (by decide +kernel) rfl, by decide +kernel, by decide +kernel, by decide +kernel⟩
set_option maxRecDepth 20000 in
theorem cw_L_110 : CWv RL 110 yX4_kindOf cX4_kindOf 4 (some .int) 2 := ⟨wm 470 (by decide +kernel) rfl, wm 471 (by decide +kernel) rfl, wm 472 (by decide +kernel) rfl, wm 1 (by decide +kernel) rfl, wm 473 rfl rfl, by decide +kernel, by decide +kernel, by decide +kernel⟩
set_option maxRecDepth 20000 in
theorem cx_L_177 : CWx 177 yL_kindOf cL_kindOf 4 (some .int) [(0, 6, 7, 23)] 3 := ⟨wm 467 (by decide +kernel) rfl, wm 468 (by decide +kernel) rfl, wm 0 (by decide +kernel) rfl, wm 469 (by decide +kernel) rfl, by decide +kernel, by decide +kernel, by decide +kernel⟩
set_option maxRecDepth 20000 in
theorem cw_L_113 : CWv RL 113 yX4_personOf cX4_personOf 4 (some .int) 2 := ⟨wm 481 (by decide +kernel) rfl, wm 482 (by decide +kernel) rfl, wm 483 (by decide +kernel) rfl, wm 1 (by decide +kernel) rfl, wm 484 rfl rfl, by decide +kernel, by decide +kernel, by decide +kernel⟩
set_option maxRecDepth 20000 in
theorem cx_L_179 : CWx 179 yL_personOf cL_personOf 4 (some .int) [(0, 6, 7, 23)] 3 := ⟨wm 478 (by decide +kernel) rfl, wm 479 (by decide +kernel) rfl, wm 0 (by decide +kernel) rfl, wm 480 (by decide +kernel) rfl, by decide +kernel, by decide +kernel, by decide +kernel⟩
set_option maxRecDepth 20000 in
theorem cw_L_116 : CWv RL 116 yX4_dayOf cX4_dayOf 4 (some .int) 2 := ⟨wm 488 (by decide +kernel) rfl, wm 489 (by decide +kernel) rfl, wm 490 (by decide +kernel) rfl, wm 1 (by decide +kernel) rfl, wm 491 rfl rfl, by decide +kernel, by decide +kernel, by decide +kernel⟩
set_option maxRecDepth 20000 in
theorem cx_L_181 : CWx 181 yL_dayOf cL_dayOf 4 (some .int) [(0, 6, 7, 23)] 3 := ⟨wm 485 (by decide +kernel) rfl, wm 486 (by decide +kernel) rfl, wm 0 (by decide +kernel) rfl, wm 487 (by decide +kernel) rfl, by decide +kernel, by decide +kernel, by decide +kernel⟩
set_option maxRecDepth 20000 in
theorem cw_L_98 : CWv RL 98 yX4_orders cX4_orders 2 (some .int) 1 := ⟨wm 499 (by decide +kernel) rfl, wm 500 (by decide +kernel) rfl, wm 501 (by decide +kernel) rfl, wm 1 (by decide +kernel) rfl, wm 502 rfl rfl, by decide +kernel, by decide +kernel, by decide +kernel⟩
set_option maxRecDepth 20000 in
theorem cx_L_184 : CWx 184 yL_orders cL_orders 3 (some .int) [(0, 5, 6, 23)] 2 := ⟨wm 496 (by decide +kernel) rfl, wm 497 (by decide +kernel) rfl, wm 0 (by decide +kernel) rfl, wm 498 (by decide +kernel) rfl, by decide +kernel, by decide +kernel, by decide +kernel⟩
set_option maxRecDepth 20000 in
theorem cw_L_104 : CWv RL 104 yX4_ordersLeft cX4_ordersLeft 3 (some .int) 1 := ⟨wm 510 (by decide +kernel) rfl, wm 511 (by decide +kernel) rfl, wm 512 (by decide +kernel) rfl, wm 1 (by decide +kernel) rfl, wm 513 rfl rfl, by decide +kernel, by decide +kernel, by decide +kernel⟩
set_option maxRecDepth 20000 in
theorem cx_L_186 : CWx 186 yL_ordersLeft cL_ordersLeft 3 (some .int) [(0, 5, 6, 23)] 2 := ⟨wm 507 (by decide +kernel) rfl, wm 508 (by decide +kernel) rfl, wm 0 (by decide +kernel) rfl, wm 509 (by decide +kernel) rfl, by decide +kernel, by decide +kernel, by decide +kernel⟩
set_option maxRecDepth 20000 in
theorem cw_L_101 : CWv RL 101 yX4_ordersByAll cX4_ordersByAll 2 (some .int) 1 := ⟨wm 517 (by decide +kernel) rfl, wm 518 (by decide +kernel) rfl, wm 519 (by decide +kernel) rfl, wm 1 (by decide +kernel) rfl, wm 520 rfl rfl, by decide +kernel, by decide +kernel, by decide +kernel⟩
set_option maxRecDepth 20000 in
theorem cx_L_188 : CWx 188 yL_ordersByAll cL_ordersByAll 3 (some .int) [(0, 5, 6, 23)] 2 := ⟨wm 514 (by decide +kernel) rfl, wm 515 (by decide +kernel) rfl, wm 0 (by decide +kernel) rfl, wm 516 (by decide +kernel) rfl, by decide +kernel, by decide +kernel, by decide +kernel⟩
set_option maxRecDepth 20000 in
theorem cw_L_10 : CWv RL 10 yX4_draft cX4_draft 1 (some .int) 0 := ⟨wm 537 (by decide +kernel) rfl, wm 538 (by decide +kernel) rfl, wm 539 (by decide +kernel) rfl, wm 1 (by decide +kernel) rfl, wm 540 rfl rfl, by decide +kernel, by decide +kernel, by decide +kernel⟩
set_option maxRecDepth 20000 in
theorem cx_L_195 : CWx 195 yL_draft cL_draft 2 (some .int) [(0, 4, 5, 16)] 1 := ⟨wm 534 (by decide +kernel) rfl, wm 535 (by decide +kernel) rfl, wm 0 (by decide +kernel) rfl, wm 536 (by decide +kernel) rfl, by decide +kernel, by decide +kernel, by decide +kernel⟩
set_option maxRecDepth 20000 in
theorem cw_L_19 : CWv RL 19 yX4_addSlot cX4_addSlot 5 (some .int) 3 := ⟨wm 630 (by decide +kernel) rfl, wm 631 (by decide +kernel) rfl, wm 632 (by decide +kernel) rfl, wm 1 (by decide +kernel) rfl, wm 633 rfl rfl, by decide +kernel, by decide +kernel, by decide +kernel⟩
set_option maxRecDepth 20000 in
theorem cx_L_198 : CWx 198 yL_addSlot cL_addSlot 5 (some .int) [(0, 7, 8, 23), (0, 7, 13, 26), (0, 7, 18, 16)] 4 := ⟨wm 627 (by decide +kernel) rfl, wm 628 (by decide +kernel) rfl, wm 0 (by decide +kernel) rfl, wm 629 (by decide +kernel) rfl, by decide +kernel, by decide +kernel, by decide +kernel⟩
set_option maxRecDepth 20000 in
theorem cw_L_29 : CWv RL 29 yX4_addRound cX4_addRound 6 (some .int) 2 := ⟨wm 647 (by decide +kernel) rfl, wm 648 (by decide +kernel) rfl, wm 649 (by decide +kernel) rfl, wm 1 (by decide +kernel) rfl, wm 650 rfl rfl, by decide +kernel, by decide +kernel, by decide +kernel⟩
set_option maxRecDepth 20000 in
theorem cx_L_200 : CWx 200 yL_addRound cL_addRound 4 (some .int) [(0, 6, 7, 23), (0, 6, 11, 26), (0, 6, 15, 16)] 3 := ⟨wm 644 (by decide +kernel) rfl, wm 645 (by decide +kernel) rfl, wm 0 (by decide +kernel) rfl, wm 646 (by decide +kernel) rfl, by decide +kernel, by decide +kernel, by decide +kernel⟩
set_option maxRecDepth 20000 in
theorem cw_L_33 : CWv RL 33 yX4_setTimes cX4_setTimes 5 none 3 := ⟨wm 656 (by decide +kernel) rfl, wm 657 (by decide +kernel) rfl, wm 658 (by decide +kernel) rfl, wm 1 (by decide +kernel) rfl, wm 659 rfl rfl, by decide +kernel, by decide +kernel, by decide +kernel⟩
set_option maxRecDepth 20000 in
theorem cx_L_202 : CWx 202 yL_setTimes cL_setTimes 5 (some .int) [(0, 8, 9, 23), (0, 8, 14, 26), (0, 8, 19, 16)] 4 := ⟨wm 653 (by decide +kernel) rfl, wm 654 (by decide +kernel) rfl, wm 0 (by decide +kernel) rfl, wm 655 (by decide +kernel) rfl, by decide +kernel, by decide +kernel, by decide +kernel⟩
set_option maxRecDepth 20000 in
theorem cw_L_50 : CWv RL 50 yX4_cancel cX4_cancel 3 (some .int) 1 := ⟨wm 665 (by decide +kernel) rfl, wm 666 (by decide +kernel) rfl, wm 667 (by decide +kernel) rfl, wm 1 (by decide +kernel) rfl, wm 668 rfl rfl, by decide +kernel, by decide +kernel, by decide +kernel⟩
set_option maxRecDepth 20000 in
theorem cx_L_208 : CWx 208 yL_cancel cL_cancel 3 (some .int) [(0, 5, 6, 23), (0, 5, 10, 16)] 2 := ⟨wm 662 (by decide +kernel) rfl, wm 663 (by decide +kernel) rfl, wm 0 (by decide +kernel) rfl, wm 664 (by decide +kernel) rfl, by decide +kernel, by decide +kernel, by decide +kernel⟩
set_option maxRecDepth 20000 in
theorem cw_L_47 : CWv RL 47 yX4_decline cX4_decline 5 (some .int) 3 := ⟨wm 677 (by decide +kernel) rfl, wm 678 (by decide +kernel) rfl, wm 679 (by decide +kernel) rfl, wm 1 (by decide +kernel) rfl, wm 680 rfl rfl, by decide +kernel, by decide +kernel, by decide +kernel⟩
set_option maxRecDepth 20000 in
theorem cx_L_210 : CWx 210 yL_decline cL_decline 5 (some .int) [(0, 7, 8, 23), (0, 7, 13, 16)] 4 := ⟨wm 674 (by decide +kernel) rfl, wm 675 (by decide +kernel) rfl, wm 0 (by decide +kernel) rfl, wm 676 (by decide +kernel) rfl, by decide +kernel, by decide +kernel, by decide +kernel⟩
set_option maxRecDepth 20000 in
theorem cw_L_57 : CWv RL 57 yX4_revoke cX4_revoke 4 (some .int) 1 := ⟨wm 685 (by decide +kernel) rfl, wm 686 (by decide +kernel) rfl, wm 687 (by decide +kernel) rfl, wm 1 (by decide +kernel) rfl, wm 688 rfl rfl, by decide +kernel, by decide +kernel, by decide +kernel⟩
set_option maxRecDepth 20000 in
theorem cx_L_215 : CWx 215 yL_revoke cL_revoke 3 (some .int) [(0, 5, 6, 23), (0, 5, 10, 16)] 2 := ⟨wm 682 (by decide +kernel) rfl, wm 683 (by decide +kernel) rfl, wm 0 (by decide +kernel) rfl, wm 684 (by decide +kernel) rfl, by decide +kernel, by decide +kernel, by decide +kernel⟩
set_option maxRecDepth 20000 in
theorem cw_L_69 : CWv RL 69 yX4_pass cX4_pass 4 (some .int) 1 := ⟨wm 696 (by decide +kernel) rfl, wm 697 (by decide +kernel) rfl, wm 698 (by decide +kernel) rfl, wm 1 (by decide +kernel) rfl, wm 699 rfl rfl, by decide +kernel, by decide +kernel, by decide +kernel⟩
set_option maxRecDepth 20000 in
theorem cx_L_190 : CWx 190 yL_pass cL_pass 3 (some .int) [(0, 5, 6, 26)] 2 := ⟨wm 693 (by decide +kernel) rfl, wm 694 (by decide +kernel) rfl, wm 0 (by decide +kernel) rfl, wm 695 (by decide +kernel) rfl, by decide +kernel, by decide +kernel, by decide +kernel⟩
abbrev rmN_send : Room := { frames := 8, cells := 0, slots := 0, locals := 126 }
abbrev rmW_send : Room := { frames := 8, cells := 1, slots := 6, locals := 126 }
def gn_send (d : Dk) (x1 : Int32) : Option (Int32 × Dk) := if d.1 ≤ 6 then match f_X4_send d.1 d.2.1 d.2.2 x1 with | some (.inr z) => some (z.1, d.1, z.2.1, z.2.2) | _ => none else none
def gm_send (d : Dk) (x1 : Int32) : Option (Int32 × Dk) := if d.1 ≤ 6 then match f_X4_send d.1 d.2.1 d.2.2 x1 with | some (.inr z) => some (z.1, d.1, z.2.1, z.2.2) | some (.inl E) => some (cE E, d) | none => none else none
set_option maxHeartbeats 400000 in
set_option maxRecDepth 100000 in
theorem vn_send {q0 : Nat → Nat} {q : Nat → Nat → Nat} {cA : Nat → ClassId} {D : va_G} (d : Dk) (x1 : Int32) {z : Int32 × Dk} (hf : gn_send d x1 = some z) : CtV yL_send (.codeWith yL_send cL_send 3 (some .int) [(0, 5, 6, 23), (0, 5, 10, 16)]) rmN_send [.ref (q0 0), .int x1] D cA (kW q0 q cA d) (kW q0 q cA z.2) (.int z.1) 0 0 := by
  unfold gn_send at hf
  by_cases hn : d.1 ≤ 6
  rotate_left
  · rw [if_neg hn] at hf
    cases hf
  rw [if_pos hn] at hf
  cases hq : f_X4_send d.1 d.2.1 d.2.2 x1 with
  | none => rw [hq] at hf; cases hf
  | some y =>
    rw [hq] at hf
    cases y with
    | inl E =>
      cases hf
    | inr z =>
      cases hf
      refine vxL_ofH (Qc := fun sz => PostU D (kW q0 q cA d) (kW q0 q cA (d.1, z.2.1, z.2.2)) sz (some (.int z.1))) (by decide) (Nat.le_of_ble_eq_true rfl) ?_
      intro p l e s m below meth c ls hl0 C hr htab hXA hN hR0 h hl
      have C : Cx p s m _ meth c cL_send 3 RL D cA := C
      obtain ⟨hx, hb, hml, hown, hts, hK, hlk⟩ := id C
      replace hl : lv_has ls 3 [(0, .ref (q0 0)), (1, .int x1)] := hl
      have hX := hXA.toXG
      replace h : St D (va_A (kW q0 q cA d) s.heap.size) s.heap (sW d.1 q0 q cA d.2.1 d.2.2) s.heap [] := h
      replace hR0 : SR D s.heap (sW d.1 q0 q cA d.2.1 d.2.2) s.heap [] := hR0
      refine lv_aload_n (pc := 0) hx hb dL_send_0 rfl (lv_at hl 0 rfl) ?_
      refine lv_iload_n (pc := 1) hx hb dL_send_1 rfl (lv_at hl 1 rfl) ?_
      refine call_VUs (pc := 2) (As := [.int x1]) (rest := []) (ws' := (sW d.1 q0 q cA z.2.1 z.2.2)) C h (k_X4_send hn d.2.1 d.2.2 x1 hq) cw_L_37 0 (sW_c0 ..) rfl (sW_fst ..) rfl rfl hl.1 (Nat.le_of_ble_eq_true rfl) dL_send_2 ⟨(Nat.le_of_ble_eq_true rfl), (Nat.le_of_ble_eq_true rfl)⟩ rfl rfl ⟨(Nat.le_of_ble_eq_true rfl), (Nat.le_of_ble_eq_true rfl)⟩ (fun H locs h => ?_)
      refine W.eq (g2 := F0 m 5 ls [.int z.1]) rfl ?_
      exact end_i (pc := 5) C hr (by decide) (by decide) h dL_send_5
set_option maxHeartbeats 400000 in
set_option maxRecDepth 100000 in
theorem vm_send {q0 : Nat → Nat} {q : Nat → Nat → Nat} {cA : Nat → ClassId} {D : va_G} (d : Dk) (x1 : Int32) {z : Int32 × Dk} (hf : gm_send d x1 = some z) : CtV yL_send (.codeWith yL_send cL_send 3 (some .int) [(0, 5, 6, 23), (0, 5, 10, 16)]) rmW_send [.ref (q0 0), .int x1] D cA (kW q0 q cA d) (kW q0 q cA z.2) (.int z.1) 1 6 := by
  unfold gm_send at hf
  by_cases hn : d.1 ≤ 6
  rotate_left
  · rw [if_neg hn] at hf
    cases hf
  rw [if_pos hn] at hf
  cases hq : f_X4_send d.1 d.2.1 d.2.2 x1 with
  | none => rw [hq] at hf; cases hf
  | some y =>
    rw [hq] at hf
    cases y with
    | inl E =>
      cases hf
      rcases E_X4_send hq with h9 | h9
      · subst h9
        rw [show (cE IOB, d).1 = (-1000001 : Int32) from cE_IOB]
        refine vxL_ofH (Qc := fun sz => PostU D (kW q0 q cA d) (kW q0 q cA d) sz (some (.int (-1000001 : Int32)))) (by decide) (Nat.le_of_ble_eq_true rfl) ?_
        intro p l e s m below meth c ls hl0 C hr htab hXA hN hR0 h hl
        have C : Cx p s m _ meth c cL_send 3 RL D cA := C
        obtain ⟨hx, hb, hml, hown, hts, hK, hlk⟩ := id C
        replace hl : lv_has ls 3 [(0, .ref (q0 0)), (1, .int x1)] := hl
        have hX := hXA.toXG
        replace h : St D (va_A (kW q0 q cA d) s.heap.size) s.heap (sW d.1 q0 q cA d.2.1 d.2.2) s.heap [] := h
        replace hR0 : SR D s.heap (sW d.1 q0 q cA d.2.1 d.2.2) s.heap [] := hR0
        refine lv_aload_n (pc := 0) hx hb dL_send_0 rfl (lv_at hl 0 rfl) ?_
        refine lv_iload_n (pc := 1) hx hb dL_send_1 rfl (lv_at hl 1 rfl) ?_
        refine call_C (pc := 2) (hpc := 6) (As := [.int x1]) (rest := []) (E := IOB) C hl0 hX hR0 h (kT_X4_send hn d.2.1 d.2.2 x1 hq) cw_L_37 0 (sW_c0 ..) rfl (List.range (sW d.1 q0 q cA d.2.1 d.2.2).length) (full_map _) (nd_of _ List.nodup_range) rfl rfl hl.1 (Nat.le_of_ble_eq_true rfl) dL_send_2 ⟨(Nat.le_of_ble_eq_true rfl), (Nat.le_of_ble_eq_true rfl)⟩ rfl rfl ⟨(Nat.le_of_ble_eq_true rfl), (Nat.le_of_ble_eq_true rfl)⟩ (fun H1 locs1 q9 ce h1 h2 h3 k => vx_catch (name := IOB) hown [] ⟨0, 5, 6, 23⟩ [⟨0, 5, 10, 16⟩] (htab.trans rfl) (fun z hz => by cases hz) (by decide) (by decide) (hts _ cl_23) (cast_ok hX.2.1 cs1.1) h1 h2 h3 k) (fun q9 H locs h => ?_)
        refine lv_astore_n (pc := 6) (lv' := [(2, .ref q9), (0, .ref (q0 0)), (1, .int x1)]) hx hb dL_send_6 rfl hl (by decide) rfl (fun ls hl => ?_)
        refine lv_ldc (pc := 7) (v := -1000001) hx hb hown (hts _ kc_L_25) dL_send_7 ?_
        exact end_i (pc := 9) C hr (by decide) (by decide) h dL_send_9
      · subst h9
        rw [show (cE ISE, d).1 = (-1000003 : Int32) from cE_ISE]
        refine vxL_ofH (Qc := fun sz => PostU D (kW q0 q cA d) (kW q0 q cA d) sz (some (.int (-1000003 : Int32)))) (by decide) (Nat.le_of_ble_eq_true rfl) ?_
        intro p l e s m below meth c ls hl0 C hr htab hXA hN hR0 h hl
        have C : Cx p s m _ meth c cL_send 3 RL D cA := C
        obtain ⟨hx, hb, hml, hown, hts, hK, hlk⟩ := id C
        replace hl : lv_has ls 3 [(0, .ref (q0 0)), (1, .int x1)] := hl
        have hX := hXA.toXG
        replace h : St D (va_A (kW q0 q cA d) s.heap.size) s.heap (sW d.1 q0 q cA d.2.1 d.2.2) s.heap [] := h
        replace hR0 : SR D s.heap (sW d.1 q0 q cA d.2.1 d.2.2) s.heap [] := hR0
        refine lv_aload_n (pc := 0) hx hb dL_send_0 rfl (lv_at hl 0 rfl) ?_
        refine lv_iload_n (pc := 1) hx hb dL_send_1 rfl (lv_at hl 1 rfl) ?_
        refine call_C (pc := 2) (hpc := 10) (As := [.int x1]) (rest := []) (E := ISE) C hl0 hX hR0 h (kT_X4_send hn d.2.1 d.2.2 x1 hq) cw_L_37 0 (sW_c0 ..) rfl (List.range (sW d.1 q0 q cA d.2.1 d.2.2).length) (full_map _) (nd_of _ List.nodup_range) rfl rfl hl.1 (Nat.le_of_ble_eq_true rfl) dL_send_2 ⟨(Nat.le_of_ble_eq_true rfl), (Nat.le_of_ble_eq_true rfl)⟩ rfl rfl ⟨(Nat.le_of_ble_eq_true rfl), (Nat.le_of_ble_eq_true rfl)⟩ (fun H1 locs1 q9 ce h1 h2 h3 k => vx_catch (name := ISE) hown [⟨0, 5, 6, 23⟩] ⟨0, 5, 10, 16⟩ [] (htab.trans rfl) (fun z hz => by
            rcases List.mem_cons.mp hz with rfl | hz
            · exact Or.inr ⟨by decide, IOB, hts _ cl_23, hN (ISE, IOB) (by decide +kernel)⟩
            cases hz) (by decide) (by decide) (hts _ cl_16) (cast_ok hX.2.1 cs1.2.2) h1 h2 h3 k) (fun q9 H locs h => ?_)
        refine lv_astore_n (pc := 10) (lv' := [(2, .ref q9), (0, .ref (q0 0)), (1, .int x1)]) hx hb dL_send_10 rfl hl (by decide) rfl (fun ls hl => ?_)
        refine lv_ldc (pc := 11) (v := -1000003) hx hb hown (hts _ kc_L_18) dL_send_11 ?_
        exact end_i (pc := 13) C hr (by decide) (by decide) h dL_send_13
    | inr z =>
      cases hf
      refine vxL_ofH (Qc := fun sz => PostU D (kW q0 q cA d) (kW q0 q cA (d.1, z.2.1, z.2.2)) sz (some (.int z.1))) (by decide) (Nat.le_of_ble_eq_true rfl) ?_
      intro p l e s m below meth c ls hl0 C hr htab hXA hN hR0 h hl
      have C : Cx p s m _ meth c cL_send 3 RL D cA := C
      obtain ⟨hx, hb, hml, hown, hts, hK, hlk⟩ := id C
      replace hl : lv_has ls 3 [(0, .ref (q0 0)), (1, .int x1)] := hl
      have hX := hXA.toXG
      replace h : St D (va_A (kW q0 q cA d) s.heap.size) s.heap (sW d.1 q0 q cA d.2.1 d.2.2) s.heap [] := h
      replace hR0 : SR D s.heap (sW d.1 q0 q cA d.2.1 d.2.2) s.heap [] := hR0
      refine lv_aload_n (pc := 0) hx hb dL_send_0 rfl (lv_at hl 0 rfl) ?_
      refine lv_iload_n (pc := 1) hx hb dL_send_1 rfl (lv_at hl 1 rfl) ?_
      refine call_VUs (pc := 2) (As := [.int x1]) (rest := []) (ws' := (sW d.1 q0 q cA z.2.1 z.2.2)) C h (k_X4_send hn d.2.1 d.2.2 x1 hq) cw_L_37 0 (sW_c0 ..) rfl (sW_fst ..) rfl rfl hl.1 (Nat.le_of_ble_eq_true rfl) dL_send_2 ⟨(Nat.le_of_ble_eq_true rfl), (Nat.le_of_ble_eq_true rfl)⟩ rfl rfl ⟨(Nat.le_of_ble_eq_true rfl), (Nat.le_of_ble_eq_true rfl)⟩ (fun H locs h => ?_)
      refine W.eq (g2 := F0 m 5 ls [.int z.1]) rfl ?_
      exact end_i (pc := 5) C hr (by decide) (by decide) h dL_send_5
abbrev rmN_sign : Room := { frames := 8, cells := 0, slots := 0, locals := 129 }
abbrev rmW_sign : Room := { frames := 8, cells := 1, slots := 6, locals := 129 }
def gn_sign (d : Dk) (x1 x2 x3 : Int32) : Option (Int32 × Dk) := if d.1 ≤ 6 then match f_X4_sign d.1 d.2.1 d.2.2 x1 x2 x3 with | some (.inr z) => some (z.1, d.1, z.2.1, z.2.2) | _ => none else none
def gm_sign (d : Dk) (x1 x2 x3 : Int32) : Option (Int32 × Dk) := if d.1 ≤ 6 then match f_X4_sign d.1 d.2.1 d.2.2 x1 x2 x3 with | some (.inr z) => some (z.1, d.1, z.2.1, z.2.2) | some (.inl E) => some (cE E, d) | none => none else none
set_option maxHeartbeats 400000 in
set_option maxRecDepth 100000 in
theorem vn_sign {q0 : Nat → Nat} {q : Nat → Nat → Nat} {cA : Nat → ClassId} {D : va_G} (d : Dk) (x1 x2 x3 : Int32) {z : Int32 × Dk} (hf : gn_sign d x1 x2 x3 = some z) : CtV yL_sign (.codeWith yL_sign cL_sign 5 (some .int) [(0, 7, 8, 23), (0, 7, 13, 16)]) rmN_sign [.ref (q0 0), .int x1, .int x2, .int x3] D cA (kW q0 q cA d) (kW q0 q cA z.2) (.int z.1) 0 0 := by
  unfold gn_sign at hf
  by_cases hn : d.1 ≤ 6
  rotate_left
  · rw [if_neg hn] at hf
    cases hf
  rw [if_pos hn] at hf
  cases hq : f_X4_sign d.1 d.2.1 d.2.2 x1 x2 x3 with
  | none => rw [hq] at hf; cases hf
  | some y =>
    rw [hq] at hf
    cases y with
    | inl E =>
      cases hf
    | inr z =>
      cases hf
      refine vxL_ofH (Qc := fun sz => PostU D (kW q0 q cA d) (kW q0 q cA (d.1, z.2.1, z.2.2)) sz (some (.int z.1))) (by decide) (Nat.le_of_ble_eq_true rfl) ?_
      intro p l e s m below meth c ls hl0 C hr htab hXA hN hR0 h hl
      have C : Cx p s m _ meth c cL_sign 5 RL D cA := C
      obtain ⟨hx, hb, hml, hown, hts, hK, hlk⟩ := id C
      replace hl : lv_has ls 5 [(0, .ref (q0 0)), (1, .int x1), (2, .int x2), (3, .int x3)] := hl
      have hX := hXA.toXG
      replace h : St D (va_A (kW q0 q cA d) s.heap.size) s.heap (sW d.1 q0 q cA d.2.1 d.2.2) s.heap [] := h
      replace hR0 : SR D s.heap (sW d.1 q0 q cA d.2.1 d.2.2) s.heap [] := hR0
      refine lv_aload_n (pc := 0) hx hb dL_sign_0 rfl (lv_at hl 0 rfl) ?_
      refine lv_iload_n (pc := 1) hx hb dL_sign_1 rfl (lv_at hl 1 rfl) ?_
      refine lv_iload_n (pc := 2) hx hb dL_sign_2 rfl (lv_at hl 2 rfl) ?_
      refine lv_iload_n (pc := 3) hx hb dL_sign_3 rfl (lv_at hl 3 rfl) ?_
      refine call_VUs (pc := 4) (As := [.int x1, .int x2, .int x3]) (rest := []) (ws' := (sW d.1 q0 q cA z.2.1 z.2.2)) C h (k_X4_sign hn d.2.1 d.2.2 x1 x2 x3 hq) cw_L_41 0 (sW_c0 ..) rfl (sW_fst ..) rfl rfl hl.1 (Nat.le_of_ble_eq_true rfl) dL_sign_4 ⟨(Nat.le_of_ble_eq_true rfl), (Nat.le_of_ble_eq_true rfl)⟩ rfl rfl ⟨(Nat.le_of_ble_eq_true rfl), (Nat.le_of_ble_eq_true rfl)⟩ (fun H locs h => ?_)
      refine W.eq (g2 := F0 m 7 ls [.int z.1]) rfl ?_
      exact end_i (pc := 7) C hr (by decide) (by decide) h dL_sign_7
set_option maxHeartbeats 400000 in
set_option maxRecDepth 100000 in
theorem vm_sign {q0 : Nat → Nat} {q : Nat → Nat → Nat} {cA : Nat → ClassId} {D : va_G} (d : Dk) (x1 x2 x3 : Int32) {z : Int32 × Dk} (hf : gm_sign d x1 x2 x3 = some z) : CtV yL_sign (.codeWith yL_sign cL_sign 5 (some .int) [(0, 7, 8, 23), (0, 7, 13, 16)]) rmW_sign [.ref (q0 0), .int x1, .int x2, .int x3] D cA (kW q0 q cA d) (kW q0 q cA z.2) (.int z.1) 1 6 := by
  unfold gm_sign at hf
  by_cases hn : d.1 ≤ 6
  rotate_left
  · rw [if_neg hn] at hf
    cases hf
  rw [if_pos hn] at hf
  cases hq : f_X4_sign d.1 d.2.1 d.2.2 x1 x2 x3 with
  | none => rw [hq] at hf; cases hf
  | some y =>
    rw [hq] at hf
    cases y with
    | inl E =>
      cases hf
      rcases E_X4_sign hq with h9 | h9
      · subst h9
        rw [show (cE IOB, d).1 = (-1000001 : Int32) from cE_IOB]
        refine vxL_ofH (Qc := fun sz => PostU D (kW q0 q cA d) (kW q0 q cA d) sz (some (.int (-1000001 : Int32)))) (by decide) (Nat.le_of_ble_eq_true rfl) ?_
        intro p l e s m below meth c ls hl0 C hr htab hXA hN hR0 h hl
        have C : Cx p s m _ meth c cL_sign 5 RL D cA := C
        obtain ⟨hx, hb, hml, hown, hts, hK, hlk⟩ := id C
        replace hl : lv_has ls 5 [(0, .ref (q0 0)), (1, .int x1), (2, .int x2), (3, .int x3)] := hl
        have hX := hXA.toXG
        replace h : St D (va_A (kW q0 q cA d) s.heap.size) s.heap (sW d.1 q0 q cA d.2.1 d.2.2) s.heap [] := h
        replace hR0 : SR D s.heap (sW d.1 q0 q cA d.2.1 d.2.2) s.heap [] := hR0
        refine lv_aload_n (pc := 0) hx hb dL_sign_0 rfl (lv_at hl 0 rfl) ?_
        refine lv_iload_n (pc := 1) hx hb dL_sign_1 rfl (lv_at hl 1 rfl) ?_
        refine lv_iload_n (pc := 2) hx hb dL_sign_2 rfl (lv_at hl 2 rfl) ?_
        refine lv_iload_n (pc := 3) hx hb dL_sign_3 rfl (lv_at hl 3 rfl) ?_
        refine call_C (pc := 4) (hpc := 8) (As := [.int x1, .int x2, .int x3]) (rest := []) (E := IOB) C hl0 hX hR0 h (kT_X4_sign hn d.2.1 d.2.2 x1 x2 x3 hq) cw_L_41 0 (sW_c0 ..) rfl (List.range (sW d.1 q0 q cA d.2.1 d.2.2).length) (full_map _) (nd_of _ List.nodup_range) rfl rfl hl.1 (Nat.le_of_ble_eq_true rfl) dL_sign_4 ⟨(Nat.le_of_ble_eq_true rfl), (Nat.le_of_ble_eq_true rfl)⟩ rfl rfl ⟨(Nat.le_of_ble_eq_true rfl), (Nat.le_of_ble_eq_true rfl)⟩ (fun H1 locs1 q9 ce h1 h2 h3 k => vx_catch (name := IOB) hown [] ⟨0, 7, 8, 23⟩ [⟨0, 7, 13, 16⟩] (htab.trans rfl) (fun z hz => by cases hz) (by decide) (by decide) (hts _ cl_23) (cast_ok hX.2.1 cs1.1) h1 h2 h3 k) (fun q9 H locs h => ?_)
        refine lv_astore (pc := 8) (lv' := [(4, .ref q9), (0, .ref (q0 0)), (1, .int x1), (2, .int x2), (3, .int x3)]) hx hb dL_sign_8 hl (by decide) rfl (fun ls hl => ?_)
        refine lv_ldc (pc := 10) (v := -1000001) hx hb hown (hts _ kc_L_25) dL_sign_10 ?_
        exact end_i (pc := 12) C hr (by decide) (by decide) h dL_sign_12
      · subst h9
        rw [show (cE ISE, d).1 = (-1000003 : Int32) from cE_ISE]
        refine vxL_ofH (Qc := fun sz => PostU D (kW q0 q cA d) (kW q0 q cA d) sz (some (.int (-1000003 : Int32)))) (by decide) (Nat.le_of_ble_eq_true rfl) ?_
        intro p l e s m below meth c ls hl0 C hr htab hXA hN hR0 h hl
        have C : Cx p s m _ meth c cL_sign 5 RL D cA := C
        obtain ⟨hx, hb, hml, hown, hts, hK, hlk⟩ := id C
        replace hl : lv_has ls 5 [(0, .ref (q0 0)), (1, .int x1), (2, .int x2), (3, .int x3)] := hl
        have hX := hXA.toXG
        replace h : St D (va_A (kW q0 q cA d) s.heap.size) s.heap (sW d.1 q0 q cA d.2.1 d.2.2) s.heap [] := h
        replace hR0 : SR D s.heap (sW d.1 q0 q cA d.2.1 d.2.2) s.heap [] := hR0
        refine lv_aload_n (pc := 0) hx hb dL_sign_0 rfl (lv_at hl 0 rfl) ?_
        refine lv_iload_n (pc := 1) hx hb dL_sign_1 rfl (lv_at hl 1 rfl) ?_
        refine lv_iload_n (pc := 2) hx hb dL_sign_2 rfl (lv_at hl 2 rfl) ?_
        refine lv_iload_n (pc := 3) hx hb dL_sign_3 rfl (lv_at hl 3 rfl) ?_
        refine call_C (pc := 4) (hpc := 13) (As := [.int x1, .int x2, .int x3]) (rest := []) (E := ISE) C hl0 hX hR0 h (kT_X4_sign hn d.2.1 d.2.2 x1 x2 x3 hq) cw_L_41 0 (sW_c0 ..) rfl (List.range (sW d.1 q0 q cA d.2.1 d.2.2).length) (full_map _) (nd_of _ List.nodup_range) rfl rfl hl.1 (Nat.le_of_ble_eq_true rfl) dL_sign_4 ⟨(Nat.le_of_ble_eq_true rfl), (Nat.le_of_ble_eq_true rfl)⟩ rfl rfl ⟨(Nat.le_of_ble_eq_true rfl), (Nat.le_of_ble_eq_true rfl)⟩ (fun H1 locs1 q9 ce h1 h2 h3 k => vx_catch (name := ISE) hown [⟨0, 7, 8, 23⟩] ⟨0, 7, 13, 16⟩ [] (htab.trans rfl) (fun z hz => by
            rcases List.mem_cons.mp hz with rfl | hz
            · exact Or.inr ⟨by decide, IOB, hts _ cl_23, hN (ISE, IOB) (by decide +kernel)⟩
            cases hz) (by decide) (by decide) (hts _ cl_16) (cast_ok hX.2.1 cs1.2.2) h1 h2 h3 k) (fun q9 H locs h => ?_)
        refine lv_astore (pc := 13) (lv' := [(4, .ref q9), (0, .ref (q0 0)), (1, .int x1), (2, .int x2), (3, .int x3)]) hx hb dL_sign_13 hl (by decide) rfl (fun ls hl => ?_)
        refine lv_ldc (pc := 15) (v := -1000003) hx hb hown (hts _ kc_L_18) dL_sign_15 ?_
        exact end_i (pc := 17) C hr (by decide) (by decide) h dL_sign_17
    | inr z =>
      cases hf
      refine vxL_ofH (Qc := fun sz => PostU D (kW q0 q cA d) (kW q0 q cA (d.1, z.2.1, z.2.2)) sz (some (.int z.1))) (by decide) (Nat.le_of_ble_eq_true rfl) ?_
      intro p l e s m below meth c ls hl0 C hr htab hXA hN hR0 h hl
      have C : Cx p s m _ meth c cL_sign 5 RL D cA := C
      obtain ⟨hx, hb, hml, hown, hts, hK, hlk⟩ := id C
      replace hl : lv_has ls 5 [(0, .ref (q0 0)), (1, .int x1), (2, .int x2), (3, .int x3)] := hl
      have hX := hXA.toXG
      replace h : St D (va_A (kW q0 q cA d) s.heap.size) s.heap (sW d.1 q0 q cA d.2.1 d.2.2) s.heap [] := h
      replace hR0 : SR D s.heap (sW d.1 q0 q cA d.2.1 d.2.2) s.heap [] := hR0
      refine lv_aload_n (pc := 0) hx hb dL_sign_0 rfl (lv_at hl 0 rfl) ?_
      refine lv_iload_n (pc := 1) hx hb dL_sign_1 rfl (lv_at hl 1 rfl) ?_
      refine lv_iload_n (pc := 2) hx hb dL_sign_2 rfl (lv_at hl 2 rfl) ?_
      refine lv_iload_n (pc := 3) hx hb dL_sign_3 rfl (lv_at hl 3 rfl) ?_
      refine call_VUs (pc := 4) (As := [.int x1, .int x2, .int x3]) (rest := []) (ws' := (sW d.1 q0 q cA z.2.1 z.2.2)) C h (k_X4_sign hn d.2.1 d.2.2 x1 x2 x3 hq) cw_L_41 0 (sW_c0 ..) rfl (sW_fst ..) rfl rfl hl.1 (Nat.le_of_ble_eq_true rfl) dL_sign_4 ⟨(Nat.le_of_ble_eq_true rfl), (Nat.le_of_ble_eq_true rfl)⟩ rfl rfl ⟨(Nat.le_of_ble_eq_true rfl), (Nat.le_of_ble_eq_true rfl)⟩ (fun H locs h => ?_)
      refine W.eq (g2 := F0 m 7 ls [.int z.1]) rfl ?_
      exact end_i (pc := 7) C hr (by decide) (by decide) h dL_sign_7
abbrev rmN_whyNot : Room := { frames := 8, cells := 0, slots := 0, locals := 128 }
abbrev rmW_whyNot : Room := { frames := 8, cells := 1, slots := 6, locals := 128 }
def gn_whyNot (d : Dk) (x1 x2 x3 : Int32) : Option (Int32) := if d.1 ≤ 6 then match f_X4_whyNot d.1 d.2.1 d.2.2 x1 x2 x3 with | some (.inr z) => some z | _ => none else none
def gm_whyNot (d : Dk) (x1 x2 x3 : Int32) : Option (Int32) := if d.1 ≤ 6 then match f_X4_whyNot d.1 d.2.1 d.2.2 x1 x2 x3 with | some (.inr z) => some z | some (.inl E) => some (cE E) | none => none else none
set_option maxHeartbeats 400000 in
set_option maxRecDepth 100000 in
theorem vn_whyNot {q0 : Nat → Nat} {q : Nat → Nat → Nat} {cA : Nat → ClassId} {D : va_G} (d : Dk) (x1 x2 x3 : Int32) {z : Int32} (hf : gn_whyNot d x1 x2 x3 = some z) : CtV yL_whyNot (.codeWith yL_whyNot cL_whyNot 5 (some .int) [(0, 7, 8, 23)]) rmN_whyNot [.ref (q0 0), .int x1, .int x2, .int x3] D cA (kW q0 q cA d) (kW q0 q cA d) (.int z) 0 0 := by
  unfold gn_whyNot at hf
  by_cases hn : d.1 ≤ 6
  rotate_left
  · rw [if_neg hn] at hf
    cases hf
  rw [if_pos hn] at hf
  cases hq : f_X4_whyNot d.1 d.2.1 d.2.2 x1 x2 x3 with
  | none => rw [hq] at hf; cases hf
  | some y =>
    rw [hq] at hf
    cases y with
    | inl E =>
      cases hf
    | inr z =>
      cases hf
      refine vxL_ofH (Qc := fun sz => PostU D (kW q0 q cA d) (kW q0 q cA d) sz (some (.int z))) (by decide) (Nat.le_of_ble_eq_true rfl) ?_
      intro p l e s m below meth c ls hl0 C hr htab hXA hN hR0 h hl
      have C : Cx p s m _ meth c cL_whyNot 5 RL D cA := C
      obtain ⟨hx, hb, hml, hown, hts, hK, hlk⟩ := id C
      replace hl : lv_has ls 5 [(0, .ref (q0 0)), (1, .int x1), (2, .int x2), (3, .int x3)] := hl
      have hX := hXA.toXG
      replace h : St D (va_A (kW q0 q cA d) s.heap.size) s.heap (sW d.1 q0 q cA d.2.1 d.2.2) s.heap [] := h
      replace hR0 : SR D s.heap (sW d.1 q0 q cA d.2.1 d.2.2) s.heap [] := hR0
      refine lv_aload_n (pc := 0) hx hb dL_whyNot_0 rfl (lv_at hl 0 rfl) ?_
      refine lv_iload_n (pc := 1) hx hb dL_whyNot_1 rfl (lv_at hl 1 rfl) ?_
      refine lv_iload_n (pc := 2) hx hb dL_whyNot_2 rfl (lv_at hl 2 rfl) ?_
      refine lv_iload_n (pc := 3) hx hb dL_whyNot_3 rfl (lv_at hl 3 rfl) ?_
      refine call_VR (pc := 4) (As := [.int x1, .int x2, .int x3]) (rest := []) C h (k_X4_whyNot hn d.2.1 d.2.2 x1 x2 x3 hq) cw_L_44 0 (sW_c0 ..) rfl (List.range (sW d.1 q0 q cA d.2.1 d.2.2).length) (full_map _) (nd_of _ List.nodup_range) rfl rfl hl.1 (Nat.le_of_ble_eq_true rfl) dL_whyNot_4 ⟨(Nat.le_of_ble_eq_true rfl), (Nat.le_of_ble_eq_true rfl)⟩ rfl rfl ⟨(Nat.le_of_ble_eq_true rfl), (Nat.le_of_ble_eq_true rfl)⟩ (fun H locs h => ?_)
      refine W.eq (g2 := F0 m 7 ls [.int z]) rfl ?_
      exact end_i (pc := 7) C hr (by decide) (by decide) h dL_whyNot_7
set_option maxHeartbeats 400000 in
set_option maxRecDepth 100000 in
theorem vm_whyNot {q0 : Nat → Nat} {q : Nat → Nat → Nat} {cA : Nat → ClassId} {D : va_G} (d : Dk) (x1 x2 x3 : Int32) {z : Int32} (hf : gm_whyNot d x1 x2 x3 = some z) : CtV yL_whyNot (.codeWith yL_whyNot cL_whyNot 5 (some .int) [(0, 7, 8, 23)]) rmW_whyNot [.ref (q0 0), .int x1, .int x2, .int x3] D cA (kW q0 q cA d) (kW q0 q cA d) (.int z) 1 6 := by
  unfold gm_whyNot at hf
  by_cases hn : d.1 ≤ 6
  rotate_left
  · rw [if_neg hn] at hf
    cases hf
  rw [if_pos hn] at hf
  cases hq : f_X4_whyNot d.1 d.2.1 d.2.2 x1 x2 x3 with
  | none => rw [hq] at hf; cases hf
  | some y =>
    rw [hq] at hf
    cases y with
    | inl E =>
      cases hf
      rcases E_X4_whyNot hq with h9
      · subst h9
        rw [show cE IOB = (-1000001 : Int32) from cE_IOB]
        refine vxL_ofH (Qc := fun sz => PostU D (kW q0 q cA d) (kW q0 q cA d) sz (some (.int (-1000001 : Int32)))) (by decide) (Nat.le_of_ble_eq_true rfl) ?_
        intro p l e s m below meth c ls hl0 C hr htab hXA hN hR0 h hl
        have C : Cx p s m _ meth c cL_whyNot 5 RL D cA := C
        obtain ⟨hx, hb, hml, hown, hts, hK, hlk⟩ := id C
        replace hl : lv_has ls 5 [(0, .ref (q0 0)), (1, .int x1), (2, .int x2), (3, .int x3)] := hl
        have hX := hXA.toXG
        replace h : St D (va_A (kW q0 q cA d) s.heap.size) s.heap (sW d.1 q0 q cA d.2.1 d.2.2) s.heap [] := h
        replace hR0 : SR D s.heap (sW d.1 q0 q cA d.2.1 d.2.2) s.heap [] := hR0
        refine lv_aload_n (pc := 0) hx hb dL_whyNot_0 rfl (lv_at hl 0 rfl) ?_
        refine lv_iload_n (pc := 1) hx hb dL_whyNot_1 rfl (lv_at hl 1 rfl) ?_
        refine lv_iload_n (pc := 2) hx hb dL_whyNot_2 rfl (lv_at hl 2 rfl) ?_
        refine lv_iload_n (pc := 3) hx hb dL_whyNot_3 rfl (lv_at hl 3 rfl) ?_
        refine call_C (pc := 4) (hpc := 8) (As := [.int x1, .int x2, .int x3]) (rest := []) (E := IOB) C hl0 hX hR0 h (kT_X4_whyNot hn d.2.1 d.2.2 x1 x2 x3 hq) cw_L_44 0 (sW_c0 ..) rfl (List.range (sW d.1 q0 q cA d.2.1 d.2.2).length) (full_map _) (nd_of _ List.nodup_range) rfl rfl hl.1 (Nat.le_of_ble_eq_true rfl) dL_whyNot_4 ⟨(Nat.le_of_ble_eq_true rfl), (Nat.le_of_ble_eq_true rfl)⟩ rfl rfl ⟨(Nat.le_of_ble_eq_true rfl), (Nat.le_of_ble_eq_true rfl)⟩ (fun H1 locs1 q9 ce h1 h2 h3 k => vx_catch (name := IOB) hown [] ⟨0, 7, 8, 23⟩ [] (htab.trans rfl) (fun z hz => by cases hz) (by decide) (by decide) (hts _ cl_23) (cast_ok hX.2.1 cs1.1) h1 h2 h3 k) (fun q9 H locs h => ?_)
        refine lv_astore (pc := 8) (lv' := [(4, .ref q9), (0, .ref (q0 0)), (1, .int x1), (2, .int x2), (3, .int x3)]) hx hb dL_whyNot_8 hl (by decide) rfl (fun ls hl => ?_)
        refine lv_ldc (pc := 10) (v := -1000001) hx hb hown (hts _ kc_L_25) dL_whyNot_10 ?_
        exact end_i (pc := 12) C hr (by decide) (by decide) h dL_whyNot_12
    | inr z =>
      cases hf
      refine vxL_ofH (Qc := fun sz => PostU D (kW q0 q cA d) (kW q0 q cA d) sz (some (.int z))) (by decide) (Nat.le_of_ble_eq_true rfl) ?_
      intro p l e s m below meth c ls hl0 C hr htab hXA hN hR0 h hl
      have C : Cx p s m _ meth c cL_whyNot 5 RL D cA := C
      obtain ⟨hx, hb, hml, hown, hts, hK, hlk⟩ := id C
      replace hl : lv_has ls 5 [(0, .ref (q0 0)), (1, .int x1), (2, .int x2), (3, .int x3)] := hl
      have hX := hXA.toXG
      replace h : St D (va_A (kW q0 q cA d) s.heap.size) s.heap (sW d.1 q0 q cA d.2.1 d.2.2) s.heap [] := h
      replace hR0 : SR D s.heap (sW d.1 q0 q cA d.2.1 d.2.2) s.heap [] := hR0
      refine lv_aload_n (pc := 0) hx hb dL_whyNot_0 rfl (lv_at hl 0 rfl) ?_
      refine lv_iload_n (pc := 1) hx hb dL_whyNot_1 rfl (lv_at hl 1 rfl) ?_
      refine lv_iload_n (pc := 2) hx hb dL_whyNot_2 rfl (lv_at hl 2 rfl) ?_
      refine lv_iload_n (pc := 3) hx hb dL_whyNot_3 rfl (lv_at hl 3 rfl) ?_
      refine call_VR (pc := 4) (As := [.int x1, .int x2, .int x3]) (rest := []) C h (k_X4_whyNot hn d.2.1 d.2.2 x1 x2 x3 hq) cw_L_44 0 (sW_c0 ..) rfl (List.range (sW d.1 q0 q cA d.2.1 d.2.2).length) (full_map _) (nd_of _ List.nodup_range) rfl rfl hl.1 (Nat.le_of_ble_eq_true rfl) dL_whyNot_4 ⟨(Nat.le_of_ble_eq_true rfl), (Nat.le_of_ble_eq_true rfl)⟩ rfl rfl ⟨(Nat.le_of_ble_eq_true rfl), (Nat.le_of_ble_eq_true rfl)⟩ (fun H locs h => ?_)
      refine W.eq (g2 := F0 m 7 ls [.int z]) rfl ?_
      exact end_i (pc := 7) C hr (by decide) (by decide) h dL_whyNot_7
abbrev rmN_delegate : Room := { frames := 8, cells := 0, slots := 0, locals := 131 }
abbrev rmW_delegate : Room := { frames := 8, cells := 1, slots := 6, locals := 131 }
def gn_delegate (d : Dk) (x1 x2 x3 x4 x5 : Int32) : Option (Int32 × Dk) := if d.1 ≤ 6 then match f_X4_delegate d.1 d.2.1 d.2.2 x1 x2 x3 x4 x5 with | some (.inr z) => some (z.1, d.1, z.2.1, z.2.2) | _ => none else none
def gm_delegate (d : Dk) (x1 x2 x3 x4 x5 : Int32) : Option (Int32 × Dk) := if d.1 ≤ 6 then match f_X4_delegate d.1 d.2.1 d.2.2 x1 x2 x3 x4 x5 with | some (.inr z) => some (z.1, d.1, z.2.1, z.2.2) | some (.inl E) => some (cE E, d) | none => none else none
set_option maxHeartbeats 400000 in
set_option maxRecDepth 100000 in
theorem vn_delegate {q0 : Nat → Nat} {q : Nat → Nat → Nat} {cA : Nat → ClassId} {D : va_G} (d : Dk) (x1 x2 x3 x4 x5 : Int32) {z : Int32 × Dk} (hf : gn_delegate d x1 x2 x3 x4 x5 = some z) : CtV yL_delegate (.codeWith yL_delegate cL_delegate 7 (some .int) [(0, 11, 12, 23), (0, 11, 17, 26)]) rmN_delegate [.ref (q0 0), .int x1, .int x2, .int x3, .int x4, .int x5] D cA (kW q0 q cA d) (kW q0 q cA z.2) (.int z.1) 0 0 := by
  unfold gn_delegate at hf
  by_cases hn : d.1 ≤ 6
  rotate_left
  · rw [if_neg hn] at hf
    cases hf
  rw [if_pos hn] at hf
  cases hq : f_X4_delegate d.1 d.2.1 d.2.2 x1 x2 x3 x4 x5 with
  | none => rw [hq] at hf; cases hf
  | some y =>
    rw [hq] at hf
    cases y with
    | inl E =>
      cases hf
    | inr z =>
      cases hf
      refine vxL_ofH (Qc := fun sz => PostU D (kW q0 q cA d) (kW q0 q cA (d.1, z.2.1, z.2.2)) sz (some (.int z.1))) (by decide) (Nat.le_of_ble_eq_true rfl) ?_
      intro p l e s m below meth c ls hl0 C hr htab hXA hN hR0 h hl
      have C : Cx p s m _ meth c cL_delegate 7 RL D cA := C
      obtain ⟨hx, hb, hml, hown, hts, hK, hlk⟩ := id C
      replace hl : lv_has ls 7 [(0, .ref (q0 0)), (1, .int x1), (2, .int x2), (3, .int x3), (4, .int x4), (5, .int x5)] := hl
      have hX := hXA.toXG
      replace h : St D (va_A (kW q0 q cA d) s.heap.size) s.heap (sW d.1 q0 q cA d.2.1 d.2.2) s.heap [] := h
      replace hR0 : SR D s.heap (sW d.1 q0 q cA d.2.1 d.2.2) s.heap [] := hR0
      refine lv_aload_n (pc := 0) hx hb dL_delegate_0 rfl (lv_at hl 0 rfl) ?_
      refine lv_iload_n (pc := 1) hx hb dL_delegate_1 rfl (lv_at hl 1 rfl) ?_
      refine lv_iload_n (pc := 2) hx hb dL_delegate_2 rfl (lv_at hl 2 rfl) ?_
      refine lv_iload_n (pc := 3) hx hb dL_delegate_3 rfl (lv_at hl 3 rfl) ?_
      refine lv_iload (pc := 4) hx hb dL_delegate_4 (lv_at hl 4 rfl) ?_
      refine lv_iload (pc := 6) hx hb dL_delegate_6 (lv_at hl 5 rfl) ?_
      refine call_VUs (pc := 8) (As := [.int x1, .int x2, .int x3, .int x4, .int x5]) (rest := []) (ws' := (sW d.1 q0 q cA z.2.1 z.2.2)) C h (k_X4_delegate hn d.2.1 d.2.2 x1 x2 x3 x4 x5 hq) cw_L_53 0 (sW_c0 ..) rfl (sW_fst ..) rfl rfl hl.1 (Nat.le_of_ble_eq_true rfl) dL_delegate_8 ⟨(Nat.le_of_ble_eq_true rfl), (Nat.le_of_ble_eq_true rfl)⟩ rfl rfl ⟨(Nat.le_of_ble_eq_true rfl), (Nat.le_of_ble_eq_true rfl)⟩ (fun H locs h => ?_)
      refine W.eq (g2 := F0 m 11 ls [.int z.1]) rfl ?_
      exact end_i (pc := 11) C hr (by decide) (by decide) h dL_delegate_11
set_option maxHeartbeats 400000 in
set_option maxRecDepth 100000 in
theorem vm_delegate {q0 : Nat → Nat} {q : Nat → Nat → Nat} {cA : Nat → ClassId} {D : va_G} (d : Dk) (x1 x2 x3 x4 x5 : Int32) {z : Int32 × Dk} (hf : gm_delegate d x1 x2 x3 x4 x5 = some z) : CtV yL_delegate (.codeWith yL_delegate cL_delegate 7 (some .int) [(0, 11, 12, 23), (0, 11, 17, 26)]) rmW_delegate [.ref (q0 0), .int x1, .int x2, .int x3, .int x4, .int x5] D cA (kW q0 q cA d) (kW q0 q cA z.2) (.int z.1) 1 6 := by
  unfold gm_delegate at hf
  by_cases hn : d.1 ≤ 6
  rotate_left
  · rw [if_neg hn] at hf
    cases hf
  rw [if_pos hn] at hf
  cases hq : f_X4_delegate d.1 d.2.1 d.2.2 x1 x2 x3 x4 x5 with
  | none => rw [hq] at hf; cases hf
  | some y =>
    rw [hq] at hf
    cases y with
    | inl E =>
      cases hf
      rcases E_X4_delegate hq with h9 | h9
      · subst h9
        rw [show (cE IAE, d).1 = (-1000002 : Int32) from cE_IAE]
        refine vxL_ofH (Qc := fun sz => PostU D (kW q0 q cA d) (kW q0 q cA d) sz (some (.int (-1000002 : Int32)))) (by decide) (Nat.le_of_ble_eq_true rfl) ?_
        intro p l e s m below meth c ls hl0 C hr htab hXA hN hR0 h hl
        have C : Cx p s m _ meth c cL_delegate 7 RL D cA := C
        obtain ⟨hx, hb, hml, hown, hts, hK, hlk⟩ := id C
        replace hl : lv_has ls 7 [(0, .ref (q0 0)), (1, .int x1), (2, .int x2), (3, .int x3), (4, .int x4), (5, .int x5)] := hl
        have hX := hXA.toXG
        replace h : St D (va_A (kW q0 q cA d) s.heap.size) s.heap (sW d.1 q0 q cA d.2.1 d.2.2) s.heap [] := h
        replace hR0 : SR D s.heap (sW d.1 q0 q cA d.2.1 d.2.2) s.heap [] := hR0
        refine lv_aload_n (pc := 0) hx hb dL_delegate_0 rfl (lv_at hl 0 rfl) ?_
        refine lv_iload_n (pc := 1) hx hb dL_delegate_1 rfl (lv_at hl 1 rfl) ?_
        refine lv_iload_n (pc := 2) hx hb dL_delegate_2 rfl (lv_at hl 2 rfl) ?_
        refine lv_iload_n (pc := 3) hx hb dL_delegate_3 rfl (lv_at hl 3 rfl) ?_
        refine lv_iload (pc := 4) hx hb dL_delegate_4 (lv_at hl 4 rfl) ?_
        refine lv_iload (pc := 6) hx hb dL_delegate_6 (lv_at hl 5 rfl) ?_
        refine call_C (pc := 8) (hpc := 17) (As := [.int x1, .int x2, .int x3, .int x4, .int x5]) (rest := []) (E := IAE) C hl0 hX hR0 h (kT_X4_delegate hn d.2.1 d.2.2 x1 x2 x3 x4 x5 hq) cw_L_53 0 (sW_c0 ..) rfl (List.range (sW d.1 q0 q cA d.2.1 d.2.2).length) (full_map _) (nd_of _ List.nodup_range) rfl rfl hl.1 (Nat.le_of_ble_eq_true rfl) dL_delegate_8 ⟨(Nat.le_of_ble_eq_true rfl), (Nat.le_of_ble_eq_true rfl)⟩ rfl rfl ⟨(Nat.le_of_ble_eq_true rfl), (Nat.le_of_ble_eq_true rfl)⟩ (fun H1 locs1 q9 ce h1 h2 h3 k => vx_catch (name := IAE) hown [⟨0, 11, 12, 23⟩] ⟨0, 11, 17, 26⟩ [] (htab.trans rfl) (fun z hz => by
            rcases List.mem_cons.mp hz with rfl | hz
            · exact Or.inr ⟨by decide, IOB, hts _ cl_23, hN (IAE, IOB) (by decide +kernel)⟩
            cases hz) (by decide) (by decide) (hts _ cl_26) (cast_ok hX.2.1 cs1.2.1) h1 h2 h3 k) (fun q9 H locs h => ?_)
        refine lv_astore (pc := 17) (lv' := [(6, .ref q9), (0, .ref (q0 0)), (1, .int x1), (2, .int x2), (3, .int x3), (4, .int x4), (5, .int x5)]) hx hb dL_delegate_17 hl (by decide) rfl (fun ls hl => ?_)
        refine lv_ldc (pc := 19) (v := -1000002) hx hb hown (hts _ kc_L_28) dL_delegate_19 ?_
        exact end_i (pc := 21) C hr (by decide) (by decide) h dL_delegate_21
      · subst h9
        rw [show (cE IOB, d).1 = (-1000001 : Int32) from cE_IOB]
        refine vxL_ofH (Qc := fun sz => PostU D (kW q0 q cA d) (kW q0 q cA d) sz (some (.int (-1000001 : Int32)))) (by decide) (Nat.le_of_ble_eq_true rfl) ?_
        intro p l e s m below meth c ls hl0 C hr htab hXA hN hR0 h hl
        have C : Cx p s m _ meth c cL_delegate 7 RL D cA := C
        obtain ⟨hx, hb, hml, hown, hts, hK, hlk⟩ := id C
        replace hl : lv_has ls 7 [(0, .ref (q0 0)), (1, .int x1), (2, .int x2), (3, .int x3), (4, .int x4), (5, .int x5)] := hl
        have hX := hXA.toXG
        replace h : St D (va_A (kW q0 q cA d) s.heap.size) s.heap (sW d.1 q0 q cA d.2.1 d.2.2) s.heap [] := h
        replace hR0 : SR D s.heap (sW d.1 q0 q cA d.2.1 d.2.2) s.heap [] := hR0
        refine lv_aload_n (pc := 0) hx hb dL_delegate_0 rfl (lv_at hl 0 rfl) ?_
        refine lv_iload_n (pc := 1) hx hb dL_delegate_1 rfl (lv_at hl 1 rfl) ?_
        refine lv_iload_n (pc := 2) hx hb dL_delegate_2 rfl (lv_at hl 2 rfl) ?_
        refine lv_iload_n (pc := 3) hx hb dL_delegate_3 rfl (lv_at hl 3 rfl) ?_
        refine lv_iload (pc := 4) hx hb dL_delegate_4 (lv_at hl 4 rfl) ?_
        refine lv_iload (pc := 6) hx hb dL_delegate_6 (lv_at hl 5 rfl) ?_
        refine call_C (pc := 8) (hpc := 12) (As := [.int x1, .int x2, .int x3, .int x4, .int x5]) (rest := []) (E := IOB) C hl0 hX hR0 h (kT_X4_delegate hn d.2.1 d.2.2 x1 x2 x3 x4 x5 hq) cw_L_53 0 (sW_c0 ..) rfl (List.range (sW d.1 q0 q cA d.2.1 d.2.2).length) (full_map _) (nd_of _ List.nodup_range) rfl rfl hl.1 (Nat.le_of_ble_eq_true rfl) dL_delegate_8 ⟨(Nat.le_of_ble_eq_true rfl), (Nat.le_of_ble_eq_true rfl)⟩ rfl rfl ⟨(Nat.le_of_ble_eq_true rfl), (Nat.le_of_ble_eq_true rfl)⟩ (fun H1 locs1 q9 ce h1 h2 h3 k => vx_catch (name := IOB) hown [] ⟨0, 11, 12, 23⟩ [⟨0, 11, 17, 26⟩] (htab.trans rfl) (fun z hz => by cases hz) (by decide) (by decide) (hts _ cl_23) (cast_ok hX.2.1 cs1.1) h1 h2 h3 k) (fun q9 H locs h => ?_)
        refine lv_astore (pc := 12) (lv' := [(6, .ref q9), (0, .ref (q0 0)), (1, .int x1), (2, .int x2), (3, .int x3), (4, .int x4), (5, .int x5)]) hx hb dL_delegate_12 hl (by decide) rfl (fun ls hl => ?_)
        refine lv_ldc (pc := 14) (v := -1000001) hx hb hown (hts _ kc_L_25) dL_delegate_14 ?_
        exact end_i (pc := 16) C hr (by decide) (by decide) h dL_delegate_16
    | inr z =>
      cases hf
      refine vxL_ofH (Qc := fun sz => PostU D (kW q0 q cA d) (kW q0 q cA (d.1, z.2.1, z.2.2)) sz (some (.int z.1))) (by decide) (Nat.le_of_ble_eq_true rfl) ?_
      intro p l e s m below meth c ls hl0 C hr htab hXA hN hR0 h hl
      have C : Cx p s m _ meth c cL_delegate 7 RL D cA := C
      obtain ⟨hx, hb, hml, hown, hts, hK, hlk⟩ := id C
      replace hl : lv_has ls 7 [(0, .ref (q0 0)), (1, .int x1), (2, .int x2), (3, .int x3), (4, .int x4), (5, .int x5)] := hl
      have hX := hXA.toXG
      replace h : St D (va_A (kW q0 q cA d) s.heap.size) s.heap (sW d.1 q0 q cA d.2.1 d.2.2) s.heap [] := h
      replace hR0 : SR D s.heap (sW d.1 q0 q cA d.2.1 d.2.2) s.heap [] := hR0
      refine lv_aload_n (pc := 0) hx hb dL_delegate_0 rfl (lv_at hl 0 rfl) ?_
      refine lv_iload_n (pc := 1) hx hb dL_delegate_1 rfl (lv_at hl 1 rfl) ?_
      refine lv_iload_n (pc := 2) hx hb dL_delegate_2 rfl (lv_at hl 2 rfl) ?_
      refine lv_iload_n (pc := 3) hx hb dL_delegate_3 rfl (lv_at hl 3 rfl) ?_
      refine lv_iload (pc := 4) hx hb dL_delegate_4 (lv_at hl 4 rfl) ?_
      refine lv_iload (pc := 6) hx hb dL_delegate_6 (lv_at hl 5 rfl) ?_
      refine call_VUs (pc := 8) (As := [.int x1, .int x2, .int x3, .int x4, .int x5]) (rest := []) (ws' := (sW d.1 q0 q cA z.2.1 z.2.2)) C h (k_X4_delegate hn d.2.1 d.2.2 x1 x2 x3 x4 x5 hq) cw_L_53 0 (sW_c0 ..) rfl (sW_fst ..) rfl rfl hl.1 (Nat.le_of_ble_eq_true rfl) dL_delegate_8 ⟨(Nat.le_of_ble_eq_true rfl), (Nat.le_of_ble_eq_true rfl)⟩ rfl rfl ⟨(Nat.le_of_ble_eq_true rfl), (Nat.le_of_ble_eq_true rfl)⟩ (fun H locs h => ?_)
      refine W.eq (g2 := F0 m 11 ls [.int z.1]) rfl ?_
      exact end_i (pc := 11) C hr (by decide) (by decide) h dL_delegate_11
abbrev rmN_toSign : Room := { frames := 8, cells := 0, slots := 0, locals := 130 }
abbrev rmW_toSign : Room := { frames := 8, cells := 1, slots := 6, locals := 130 }
def gn_toSign (d : Dk) (x1 : Int32) : Option (Int32) := if d.1 ≤ 6 then match f_X4_toSign d.1 d.2.1 d.2.2 x1 with | some (.inr z) => some z | _ => none else none
def gm_toSign (d : Dk) (x1 : Int32) : Option (Int32) := if d.1 ≤ 6 then match f_X4_toSign d.1 d.2.1 d.2.2 x1 with | some (.inr z) => some z | some (.inl E) => some (cE E) | none => none else none
set_option maxHeartbeats 400000 in
set_option maxRecDepth 100000 in
theorem vn_toSign {q0 : Nat → Nat} {q : Nat → Nat → Nat} {cA : Nat → ClassId} {D : va_G} (d : Dk) (x1 : Int32) {z : Int32} (hf : gn_toSign d x1 = some z) : CtV yL_toSign (.codeWith yL_toSign cL_toSign 3 (some .int) [(0, 5, 6, 23)]) rmN_toSign [.ref (q0 0), .int x1] D cA (kW q0 q cA d) (kW q0 q cA d) (.int z) 0 0 := by
  unfold gn_toSign at hf
  by_cases hn : d.1 ≤ 6
  rotate_left
  · rw [if_neg hn] at hf
    cases hf
  rw [if_pos hn] at hf
  cases hq : f_X4_toSign d.1 d.2.1 d.2.2 x1 with
  | none => rw [hq] at hf; cases hf
  | some y =>
    rw [hq] at hf
    cases y with
    | inl E =>
      cases hf
    | inr z =>
      cases hf
      refine vxL_ofH (Qc := fun sz => PostU D (kW q0 q cA d) (kW q0 q cA d) sz (some (.int z))) (by decide) (Nat.le_of_ble_eq_true rfl) ?_
      intro p l e s m below meth c ls hl0 C hr htab hXA hN hR0 h hl
      have C : Cx p s m _ meth c cL_toSign 3 RL D cA := C
      obtain ⟨hx, hb, hml, hown, hts, hK, hlk⟩ := id C
      replace hl : lv_has ls 3 [(0, .ref (q0 0)), (1, .int x1)] := hl
      have hX := hXA.toXG
      replace h : St D (va_A (kW q0 q cA d) s.heap.size) s.heap (sW d.1 q0 q cA d.2.1 d.2.2) s.heap [] := h
      replace hR0 : SR D s.heap (sW d.1 q0 q cA d.2.1 d.2.2) s.heap [] := hR0
      refine lv_aload_n (pc := 0) hx hb dL_toSign_0 rfl (lv_at hl 0 rfl) ?_
      refine lv_iload_n (pc := 1) hx hb dL_toSign_1 rfl (lv_at hl 1 rfl) ?_
      refine call_VR (pc := 2) (As := [.int x1]) (rest := []) C h (k_X4_toSign hn d.2.1 d.2.2 x1 hq) cw_L_66 0 (sW_c0 ..) rfl (List.range (sW d.1 q0 q cA d.2.1 d.2.2).length) (full_map _) (nd_of _ List.nodup_range) rfl rfl hl.1 (Nat.le_of_ble_eq_true rfl) dL_toSign_2 ⟨(Nat.le_of_ble_eq_true rfl), (Nat.le_of_ble_eq_true rfl)⟩ rfl rfl ⟨(Nat.le_of_ble_eq_true rfl), (Nat.le_of_ble_eq_true rfl)⟩ (fun H locs h => ?_)
      refine W.eq (g2 := F0 m 5 ls [.int z]) rfl ?_
      exact end_i (pc := 5) C hr (by decide) (by decide) h dL_toSign_5
set_option maxHeartbeats 400000 in
set_option maxRecDepth 100000 in
theorem vm_toSign {q0 : Nat → Nat} {q : Nat → Nat → Nat} {cA : Nat → ClassId} {D : va_G} (d : Dk) (x1 : Int32) {z : Int32} (hf : gm_toSign d x1 = some z) : CtV yL_toSign (.codeWith yL_toSign cL_toSign 3 (some .int) [(0, 5, 6, 23)]) rmW_toSign [.ref (q0 0), .int x1] D cA (kW q0 q cA d) (kW q0 q cA d) (.int z) 1 6 := by
  unfold gm_toSign at hf
  by_cases hn : d.1 ≤ 6
  rotate_left
  · rw [if_neg hn] at hf
    cases hf
  rw [if_pos hn] at hf
  cases hq : f_X4_toSign d.1 d.2.1 d.2.2 x1 with
  | none => rw [hq] at hf; cases hf
  | some y =>
    rw [hq] at hf
    cases y with
    | inl E =>
      cases hf
      rcases E_X4_toSign hq with h9
      · subst h9
        rw [show cE IOB = (-1000001 : Int32) from cE_IOB]
        refine vxL_ofH (Qc := fun sz => PostU D (kW q0 q cA d) (kW q0 q cA d) sz (some (.int (-1000001 : Int32)))) (by decide) (Nat.le_of_ble_eq_true rfl) ?_
        intro p l e s m below meth c ls hl0 C hr htab hXA hN hR0 h hl
        have C : Cx p s m _ meth c cL_toSign 3 RL D cA := C
        obtain ⟨hx, hb, hml, hown, hts, hK, hlk⟩ := id C
        replace hl : lv_has ls 3 [(0, .ref (q0 0)), (1, .int x1)] := hl
        have hX := hXA.toXG
        replace h : St D (va_A (kW q0 q cA d) s.heap.size) s.heap (sW d.1 q0 q cA d.2.1 d.2.2) s.heap [] := h
        replace hR0 : SR D s.heap (sW d.1 q0 q cA d.2.1 d.2.2) s.heap [] := hR0
        refine lv_aload_n (pc := 0) hx hb dL_toSign_0 rfl (lv_at hl 0 rfl) ?_
        refine lv_iload_n (pc := 1) hx hb dL_toSign_1 rfl (lv_at hl 1 rfl) ?_
        refine call_C (pc := 2) (hpc := 6) (As := [.int x1]) (rest := []) (E := IOB) C hl0 hX hR0 h (kT_X4_toSign hn d.2.1 d.2.2 x1 hq) cw_L_66 0 (sW_c0 ..) rfl (List.range (sW d.1 q0 q cA d.2.1 d.2.2).length) (full_map _) (nd_of _ List.nodup_range) rfl rfl hl.1 (Nat.le_of_ble_eq_true rfl) dL_toSign_2 ⟨(Nat.le_of_ble_eq_true rfl), (Nat.le_of_ble_eq_true rfl)⟩ rfl rfl ⟨(Nat.le_of_ble_eq_true rfl), (Nat.le_of_ble_eq_true rfl)⟩ (fun H1 locs1 q9 ce h1 h2 h3 k => vx_catch (name := IOB) hown [] ⟨0, 5, 6, 23⟩ [] (htab.trans rfl) (fun z hz => by cases hz) (by decide) (by decide) (hts _ cl_23) (cast_ok hX.2.1 cs1.1) h1 h2 h3 k) (fun q9 H locs h => ?_)
        refine lv_astore_n (pc := 6) (lv' := [(2, .ref q9), (0, .ref (q0 0)), (1, .int x1)]) hx hb dL_toSign_6 rfl hl (by decide) rfl (fun ls hl => ?_)
        refine lv_ldc (pc := 7) (v := -1000001) hx hb hown (hts _ kc_L_25) dL_toSign_7 ?_
        exact end_i (pc := 9) C hr (by decide) (by decide) h dL_toSign_9
    | inr z =>
      cases hf
      refine vxL_ofH (Qc := fun sz => PostU D (kW q0 q cA d) (kW q0 q cA d) sz (some (.int z))) (by decide) (Nat.le_of_ble_eq_true rfl) ?_
      intro p l e s m below meth c ls hl0 C hr htab hXA hN hR0 h hl
      have C : Cx p s m _ meth c cL_toSign 3 RL D cA := C
      obtain ⟨hx, hb, hml, hown, hts, hK, hlk⟩ := id C
      replace hl : lv_has ls 3 [(0, .ref (q0 0)), (1, .int x1)] := hl
      have hX := hXA.toXG
      replace h : St D (va_A (kW q0 q cA d) s.heap.size) s.heap (sW d.1 q0 q cA d.2.1 d.2.2) s.heap [] := h
      replace hR0 : SR D s.heap (sW d.1 q0 q cA d.2.1 d.2.2) s.heap [] := hR0
      refine lv_aload_n (pc := 0) hx hb dL_toSign_0 rfl (lv_at hl 0 rfl) ?_
      refine lv_iload_n (pc := 1) hx hb dL_toSign_1 rfl (lv_at hl 1 rfl) ?_
      refine call_VR (pc := 2) (As := [.int x1]) (rest := []) C h (k_X4_toSign hn d.2.1 d.2.2 x1 hq) cw_L_66 0 (sW_c0 ..) rfl (List.range (sW d.1 q0 q cA d.2.1 d.2.2).length) (full_map _) (nd_of _ List.nodup_range) rfl rfl hl.1 (Nat.le_of_ble_eq_true rfl) dL_toSign_2 ⟨(Nat.le_of_ble_eq_true rfl), (Nat.le_of_ble_eq_true rfl)⟩ rfl rfl ⟨(Nat.le_of_ble_eq_true rfl), (Nat.le_of_ble_eq_true rfl)⟩ (fun H locs h => ?_)
      refine W.eq (g2 := F0 m 5 ls [.int z]) rfl ?_
      exact end_i (pc := 5) C hr (by decide) (by decide) h dL_toSign_5
abbrev rmN_state : Room := { frames := 8, cells := 0, slots := 0, locals := 125 }
abbrev rmW_state : Room := { frames := 8, cells := 1, slots := 6, locals := 125 }
def gn_state (d : Dk) (x1 : Int32) : Option (Int32) := if d.1 ≤ 6 then match f_X4_state d.1 d.2.1 d.2.2 x1 with | some (.inr z) => some z | _ => none else none
def gm_state (d : Dk) (x1 : Int32) : Option (Int32) := if d.1 ≤ 6 then match f_X4_state d.1 d.2.1 d.2.2 x1 with | some (.inr z) => some z | some (.inl E) => some (cE E) | none => none else none
set_option maxHeartbeats 400000 in
set_option maxRecDepth 100000 in
theorem vn_state {q0 : Nat → Nat} {q : Nat → Nat → Nat} {cA : Nat → ClassId} {D : va_G} (d : Dk) (x1 : Int32) {z : Int32} (hf : gn_state d x1 = some z) : CtV yL_state (.codeWith yL_state cL_state 3 (some .int) [(0, 5, 6, 23)]) rmN_state [.ref (q0 0), .int x1] D cA (kW q0 q cA d) (kW q0 q cA d) (.int z) 0 0 := by
  unfold gn_state at hf
  by_cases hn : d.1 ≤ 6
  rotate_left
  · rw [if_neg hn] at hf
    cases hf
  rw [if_pos hn] at hf
  cases hq : f_X4_state d.1 d.2.1 d.2.2 x1 with
  | none => rw [hq] at hf; cases hf
  | some y =>
    rw [hq] at hf
    cases y with
    | inl E =>
      cases hf
    | inr z =>
      cases hf
      refine vxL_ofH (Qc := fun sz => PostU D (kW q0 q cA d) (kW q0 q cA d) sz (some (.int z))) (by decide) (Nat.le_of_ble_eq_true rfl) ?_
      intro p l e s m below meth c ls hl0 C hr htab hXA hN hR0 h hl
      have C : Cx p s m _ meth c cL_state 3 RL D cA := C
      obtain ⟨hx, hb, hml, hown, hts, hK, hlk⟩ := id C
      replace hl : lv_has ls 3 [(0, .ref (q0 0)), (1, .int x1)] := hl
      have hX := hXA.toXG
      replace h : St D (va_A (kW q0 q cA d) s.heap.size) s.heap (sW d.1 q0 q cA d.2.1 d.2.2) s.heap [] := h
      replace hR0 : SR D s.heap (sW d.1 q0 q cA d.2.1 d.2.2) s.heap [] := hR0
      refine lv_aload_n (pc := 0) hx hb dL_state_0 rfl (lv_at hl 0 rfl) ?_
      refine lv_iload_n (pc := 1) hx hb dL_state_1 rfl (lv_at hl 1 rfl) ?_
      refine call_VR (pc := 2) (As := [.int x1]) (rest := []) C h (k_X4_state hn d.2.1 d.2.2 x1 hq) cw_L_75 0 (sW_c0 ..) rfl (List.range (sW d.1 q0 q cA d.2.1 d.2.2).length) (full_map _) (nd_of _ List.nodup_range) rfl rfl hl.1 (Nat.le_of_ble_eq_true rfl) dL_state_2 ⟨(Nat.le_of_ble_eq_true rfl), (Nat.le_of_ble_eq_true rfl)⟩ rfl rfl ⟨(Nat.le_of_ble_eq_true rfl), (Nat.le_of_ble_eq_true rfl)⟩ (fun H locs h => ?_)
      refine W.eq (g2 := F0 m 5 ls [.int z]) rfl ?_
      exact end_i (pc := 5) C hr (by decide) (by decide) h dL_state_5
set_option maxHeartbeats 400000 in
set_option maxRecDepth 100000 in
theorem vm_state {q0 : Nat → Nat} {q : Nat → Nat → Nat} {cA : Nat → ClassId} {D : va_G} (d : Dk) (x1 : Int32) {z : Int32} (hf : gm_state d x1 = some z) : CtV yL_state (.codeWith yL_state cL_state 3 (some .int) [(0, 5, 6, 23)]) rmW_state [.ref (q0 0), .int x1] D cA (kW q0 q cA d) (kW q0 q cA d) (.int z) 1 6 := by
  unfold gm_state at hf
  by_cases hn : d.1 ≤ 6
  rotate_left
  · rw [if_neg hn] at hf
    cases hf
  rw [if_pos hn] at hf
  cases hq : f_X4_state d.1 d.2.1 d.2.2 x1 with
  | none => rw [hq] at hf; cases hf
  | some y =>
    rw [hq] at hf
    cases y with
    | inl E =>
      cases hf
      rcases E_X4_state hq with h9
      · subst h9
        rw [show cE IOB = (-1000001 : Int32) from cE_IOB]
        refine vxL_ofH (Qc := fun sz => PostU D (kW q0 q cA d) (kW q0 q cA d) sz (some (.int (-1000001 : Int32)))) (by decide) (Nat.le_of_ble_eq_true rfl) ?_
        intro p l e s m below meth c ls hl0 C hr htab hXA hN hR0 h hl
        have C : Cx p s m _ meth c cL_state 3 RL D cA := C
        obtain ⟨hx, hb, hml, hown, hts, hK, hlk⟩ := id C
        replace hl : lv_has ls 3 [(0, .ref (q0 0)), (1, .int x1)] := hl
        have hX := hXA.toXG
        replace h : St D (va_A (kW q0 q cA d) s.heap.size) s.heap (sW d.1 q0 q cA d.2.1 d.2.2) s.heap [] := h
        replace hR0 : SR D s.heap (sW d.1 q0 q cA d.2.1 d.2.2) s.heap [] := hR0
        refine lv_aload_n (pc := 0) hx hb dL_state_0 rfl (lv_at hl 0 rfl) ?_
        refine lv_iload_n (pc := 1) hx hb dL_state_1 rfl (lv_at hl 1 rfl) ?_
        refine call_C (pc := 2) (hpc := 6) (As := [.int x1]) (rest := []) (E := IOB) C hl0 hX hR0 h (kT_X4_state hn d.2.1 d.2.2 x1 hq) cw_L_75 0 (sW_c0 ..) rfl (List.range (sW d.1 q0 q cA d.2.1 d.2.2).length) (full_map _) (nd_of _ List.nodup_range) rfl rfl hl.1 (Nat.le_of_ble_eq_true rfl) dL_state_2 ⟨(Nat.le_of_ble_eq_true rfl), (Nat.le_of_ble_eq_true rfl)⟩ rfl rfl ⟨(Nat.le_of_ble_eq_true rfl), (Nat.le_of_ble_eq_true rfl)⟩ (fun H1 locs1 q9 ce h1 h2 h3 k => vx_catch (name := IOB) hown [] ⟨0, 5, 6, 23⟩ [] (htab.trans rfl) (fun z hz => by cases hz) (by decide) (by decide) (hts _ cl_23) (cast_ok hX.2.1 cs1.1) h1 h2 h3 k) (fun q9 H locs h => ?_)
        refine lv_astore_n (pc := 6) (lv' := [(2, .ref q9), (0, .ref (q0 0)), (1, .int x1)]) hx hb dL_state_6 rfl hl (by decide) rfl (fun ls hl => ?_)
        refine lv_ldc (pc := 7) (v := -1000001) hx hb hown (hts _ kc_L_25) dL_state_7 ?_
        exact end_i (pc := 9) C hr (by decide) (by decide) h dL_state_9
    | inr z =>
      cases hf
      refine vxL_ofH (Qc := fun sz => PostU D (kW q0 q cA d) (kW q0 q cA d) sz (some (.int z))) (by decide) (Nat.le_of_ble_eq_true rfl) ?_
      intro p l e s m below meth c ls hl0 C hr htab hXA hN hR0 h hl
      have C : Cx p s m _ meth c cL_state 3 RL D cA := C
      obtain ⟨hx, hb, hml, hown, hts, hK, hlk⟩ := id C
      replace hl : lv_has ls 3 [(0, .ref (q0 0)), (1, .int x1)] := hl
      have hX := hXA.toXG
      replace h : St D (va_A (kW q0 q cA d) s.heap.size) s.heap (sW d.1 q0 q cA d.2.1 d.2.2) s.heap [] := h
      replace hR0 : SR D s.heap (sW d.1 q0 q cA d.2.1 d.2.2) s.heap [] := hR0
      refine lv_aload_n (pc := 0) hx hb dL_state_0 rfl (lv_at hl 0 rfl) ?_
      refine lv_iload_n (pc := 1) hx hb dL_state_1 rfl (lv_at hl 1 rfl) ?_
      refine call_VR (pc := 2) (As := [.int x1]) (rest := []) C h (k_X4_state hn d.2.1 d.2.2 x1 hq) cw_L_75 0 (sW_c0 ..) rfl (List.range (sW d.1 q0 q cA d.2.1 d.2.2).length) (full_map _) (nd_of _ List.nodup_range) rfl rfl hl.1 (Nat.le_of_ble_eq_true rfl) dL_state_2 ⟨(Nat.le_of_ble_eq_true rfl), (Nat.le_of_ble_eq_true rfl)⟩ rfl rfl ⟨(Nat.le_of_ble_eq_true rfl), (Nat.le_of_ble_eq_true rfl)⟩ (fun H locs h => ?_)
      refine W.eq (g2 := F0 m 5 ls [.int z]) rfl ?_
      exact end_i (pc := 5) C hr (by decide) (by decide) h dL_state_5
abbrev rmN_events : Room := { frames := 8, cells := 0, slots := 0, locals := 125 }
abbrev rmW_events : Room := { frames := 8, cells := 1, slots := 6, locals := 125 }
def gn_events (d : Dk) (x1 : Int32) : Option (Int32) := if d.1 ≤ 6 then match f_X4_events d.1 d.2.1 d.2.2 x1 with | some (.inr z) => some z | _ => none else none
def gm_events (d : Dk) (x1 : Int32) : Option (Int32) := if d.1 ≤ 6 then match f_X4_events d.1 d.2.1 d.2.2 x1 with | some (.inr z) => some z | some (.inl E) => some (cE E) | none => none else none
set_option maxHeartbeats 400000 in
set_option maxRecDepth 100000 in
theorem vn_events {q0 : Nat → Nat} {q : Nat → Nat → Nat} {cA : Nat → ClassId} {D : va_G} (d : Dk) (x1 : Int32) {z : Int32} (hf : gn_events d x1 = some z) : CtV yL_events (.codeWith yL_events cL_events 3 (some .int) [(0, 5, 6, 23)]) rmN_events [.ref (q0 0), .int x1] D cA (kW q0 q cA d) (kW q0 q cA d) (.int z) 0 0 := by
  unfold gn_events at hf
  by_cases hn : d.1 ≤ 6
  rotate_left
  · rw [if_neg hn] at hf
    cases hf
  rw [if_pos hn] at hf
  cases hq : f_X4_events d.1 d.2.1 d.2.2 x1 with
  | none => rw [hq] at hf; cases hf
  | some y =>
    rw [hq] at hf
    cases y with
    | inl E =>
      cases hf
    | inr z =>
      cases hf
      refine vxL_ofH (Qc := fun sz => PostU D (kW q0 q cA d) (kW q0 q cA d) sz (some (.int z))) (by decide) (Nat.le_of_ble_eq_true rfl) ?_
      intro p l e s m below meth c ls hl0 C hr htab hXA hN hR0 h hl
      have C : Cx p s m _ meth c cL_events 3 RL D cA := C
      obtain ⟨hx, hb, hml, hown, hts, hK, hlk⟩ := id C
      replace hl : lv_has ls 3 [(0, .ref (q0 0)), (1, .int x1)] := hl
      have hX := hXA.toXG
      replace h : St D (va_A (kW q0 q cA d) s.heap.size) s.heap (sW d.1 q0 q cA d.2.1 d.2.2) s.heap [] := h
      replace hR0 : SR D s.heap (sW d.1 q0 q cA d.2.1 d.2.2) s.heap [] := hR0
      refine lv_aload_n (pc := 0) hx hb dL_events_0 rfl (lv_at hl 0 rfl) ?_
      refine lv_iload_n (pc := 1) hx hb dL_events_1 rfl (lv_at hl 1 rfl) ?_
      refine call_VR (pc := 2) (As := [.int x1]) (rest := []) C h (k_X4_events hn d.2.1 d.2.2 x1 hq) cw_L_107 0 (sW_c0 ..) rfl (List.range (sW d.1 q0 q cA d.2.1 d.2.2).length) (full_map _) (nd_of _ List.nodup_range) rfl rfl hl.1 (Nat.le_of_ble_eq_true rfl) dL_events_2 ⟨(Nat.le_of_ble_eq_true rfl), (Nat.le_of_ble_eq_true rfl)⟩ rfl rfl ⟨(Nat.le_of_ble_eq_true rfl), (Nat.le_of_ble_eq_true rfl)⟩ (fun H locs h => ?_)
      refine W.eq (g2 := F0 m 5 ls [.int z]) rfl ?_
      exact end_i (pc := 5) C hr (by decide) (by decide) h dL_events_5
set_option maxHeartbeats 400000 in
set_option maxRecDepth 100000 in
theorem vm_events {q0 : Nat → Nat} {q : Nat → Nat → Nat} {cA : Nat → ClassId} {D : va_G} (d : Dk) (x1 : Int32) {z : Int32} (hf : gm_events d x1 = some z) : CtV yL_events (.codeWith yL_events cL_events 3 (some .int) [(0, 5, 6, 23)]) rmW_events [.ref (q0 0), .int x1] D cA (kW q0 q cA d) (kW q0 q cA d) (.int z) 1 6 := by
  unfold gm_events at hf
  by_cases hn : d.1 ≤ 6
  rotate_left
  · rw [if_neg hn] at hf
    cases hf
  rw [if_pos hn] at hf
  cases hq : f_X4_events d.1 d.2.1 d.2.2 x1 with
  | none => rw [hq] at hf; cases hf
  | some y =>
    rw [hq] at hf
    cases y with
    | inl E =>
      cases hf
      rcases E_X4_events hq with h9
      · subst h9
        rw [show cE IOB = (-1000001 : Int32) from cE_IOB]
        refine vxL_ofH (Qc := fun sz => PostU D (kW q0 q cA d) (kW q0 q cA d) sz (some (.int (-1000001 : Int32)))) (by decide) (Nat.le_of_ble_eq_true rfl) ?_
        intro p l e s m below meth c ls hl0 C hr htab hXA hN hR0 h hl
        have C : Cx p s m _ meth c cL_events 3 RL D cA := C
        obtain ⟨hx, hb, hml, hown, hts, hK, hlk⟩ := id C
        replace hl : lv_has ls 3 [(0, .ref (q0 0)), (1, .int x1)] := hl
        have hX := hXA.toXG
        replace h : St D (va_A (kW q0 q cA d) s.heap.size) s.heap (sW d.1 q0 q cA d.2.1 d.2.2) s.heap [] := h
        replace hR0 : SR D s.heap (sW d.1 q0 q cA d.2.1 d.2.2) s.heap [] := hR0
        refine lv_aload_n (pc := 0) hx hb dL_events_0 rfl (lv_at hl 0 rfl) ?_
        refine lv_iload_n (pc := 1) hx hb dL_events_1 rfl (lv_at hl 1 rfl) ?_
        refine call_C (pc := 2) (hpc := 6) (As := [.int x1]) (rest := []) (E := IOB) C hl0 hX hR0 h (kT_X4_events hn d.2.1 d.2.2 x1 hq) cw_L_107 0 (sW_c0 ..) rfl (List.range (sW d.1 q0 q cA d.2.1 d.2.2).length) (full_map _) (nd_of _ List.nodup_range) rfl rfl hl.1 (Nat.le_of_ble_eq_true rfl) dL_events_2 ⟨(Nat.le_of_ble_eq_true rfl), (Nat.le_of_ble_eq_true rfl)⟩ rfl rfl ⟨(Nat.le_of_ble_eq_true rfl), (Nat.le_of_ble_eq_true rfl)⟩ (fun H1 locs1 q9 ce h1 h2 h3 k => vx_catch (name := IOB) hown [] ⟨0, 5, 6, 23⟩ [] (htab.trans rfl) (fun z hz => by cases hz) (by decide) (by decide) (hts _ cl_23) (cast_ok hX.2.1 cs1.1) h1 h2 h3 k) (fun q9 H locs h => ?_)
        refine lv_astore_n (pc := 6) (lv' := [(2, .ref q9), (0, .ref (q0 0)), (1, .int x1)]) hx hb dL_events_6 rfl hl (by decide) rfl (fun ls hl => ?_)
        refine lv_ldc (pc := 7) (v := -1000001) hx hb hown (hts _ kc_L_25) dL_events_7 ?_
        exact end_i (pc := 9) C hr (by decide) (by decide) h dL_events_9
    | inr z =>
      cases hf
      refine vxL_ofH (Qc := fun sz => PostU D (kW q0 q cA d) (kW q0 q cA d) sz (some (.int z))) (by decide) (Nat.le_of_ble_eq_true rfl) ?_
      intro p l e s m below meth c ls hl0 C hr htab hXA hN hR0 h hl
      have C : Cx p s m _ meth c cL_events 3 RL D cA := C
      obtain ⟨hx, hb, hml, hown, hts, hK, hlk⟩ := id C
      replace hl : lv_has ls 3 [(0, .ref (q0 0)), (1, .int x1)] := hl
      have hX := hXA.toXG
      replace h : St D (va_A (kW q0 q cA d) s.heap.size) s.heap (sW d.1 q0 q cA d.2.1 d.2.2) s.heap [] := h
      replace hR0 : SR D s.heap (sW d.1 q0 q cA d.2.1 d.2.2) s.heap [] := hR0
      refine lv_aload_n (pc := 0) hx hb dL_events_0 rfl (lv_at hl 0 rfl) ?_
      refine lv_iload_n (pc := 1) hx hb dL_events_1 rfl (lv_at hl 1 rfl) ?_
      refine call_VR (pc := 2) (As := [.int x1]) (rest := []) C h (k_X4_events hn d.2.1 d.2.2 x1 hq) cw_L_107 0 (sW_c0 ..) rfl (List.range (sW d.1 q0 q cA d.2.1 d.2.2).length) (full_map _) (nd_of _ List.nodup_range) rfl rfl hl.1 (Nat.le_of_ble_eq_true rfl) dL_events_2 ⟨(Nat.le_of_ble_eq_true rfl), (Nat.le_of_ble_eq_true rfl)⟩ rfl rfl ⟨(Nat.le_of_ble_eq_true rfl), (Nat.le_of_ble_eq_true rfl)⟩ (fun H locs h => ?_)
      refine W.eq (g2 := F0 m 5 ls [.int z]) rfl ?_
      exact end_i (pc := 5) C hr (by decide) (by decide) h dL_events_5
abbrev rmN_seal : Room := { frames := 8, cells := 0, slots := 0, locals := 127 }
abbrev rmW_seal : Room := { frames := 8, cells := 1, slots := 6, locals := 127 }
def gn_seal (d : Dk) (x1 x2 : Int32) : Option (Int32) := if d.1 ≤ 6 then match f_X4_seal d.1 d.2.1 d.2.2 x1 x2 with | some (.inr z) => some z | _ => none else none
def gm_seal (d : Dk) (x1 x2 : Int32) : Option (Int32) := if d.1 ≤ 6 then match f_X4_seal d.1 d.2.1 d.2.2 x1 x2 with | some (.inr z) => some z | some (.inl E) => some (cE E) | none => none else none
set_option maxHeartbeats 400000 in
set_option maxRecDepth 100000 in
theorem vn_seal {q0 : Nat → Nat} {q : Nat → Nat → Nat} {cA : Nat → ClassId} {D : va_G} (d : Dk) (x1 x2 : Int32) {z : Int32} (hf : gn_seal d x1 x2 = some z) : CtV yL_seal (.codeWith yL_seal cL_seal 4 (some .int) [(0, 6, 7, 23)]) rmN_seal [.ref (q0 0), .int x1, .int x2] D cA (kW q0 q cA d) (kW q0 q cA d) (.int z) 0 0 := by
  unfold gn_seal at hf
  by_cases hn : d.1 ≤ 6
  rotate_left
  · rw [if_neg hn] at hf
    cases hf
  rw [if_pos hn] at hf
  cases hq : f_X4_seal d.1 d.2.1 d.2.2 x1 x2 with
  | none => rw [hq] at hf; cases hf
  | some y =>
    rw [hq] at hf
    cases y with
    | inl E =>
      cases hf
    | inr z =>
      cases hf
      refine vxL_ofH (Qc := fun sz => PostU D (kW q0 q cA d) (kW q0 q cA d) sz (some (.int z))) (by decide) (Nat.le_of_ble_eq_true rfl) ?_
      intro p l e s m below meth c ls hl0 C hr htab hXA hN hR0 h hl
      have C : Cx p s m _ meth c cL_seal 4 RL D cA := C
      obtain ⟨hx, hb, hml, hown, hts, hK, hlk⟩ := id C
      replace hl : lv_has ls 4 [(0, .ref (q0 0)), (1, .int x1), (2, .int x2)] := hl
      have hX := hXA.toXG
      replace h : St D (va_A (kW q0 q cA d) s.heap.size) s.heap (sW d.1 q0 q cA d.2.1 d.2.2) s.heap [] := h
      replace hR0 : SR D s.heap (sW d.1 q0 q cA d.2.1 d.2.2) s.heap [] := hR0
      refine lv_aload_n (pc := 0) hx hb dL_seal_0 rfl (lv_at hl 0 rfl) ?_
      refine lv_iload_n (pc := 1) hx hb dL_seal_1 rfl (lv_at hl 1 rfl) ?_
      refine lv_iload_n (pc := 2) hx hb dL_seal_2 rfl (lv_at hl 2 rfl) ?_
      refine call_VR (pc := 3) (As := [.int x1, .int x2]) (rest := []) C h (k_X4_seal hn d.2.1 d.2.2 x1 x2 hq) cw_L_119 0 (sW_c0 ..) rfl (List.range (sW d.1 q0 q cA d.2.1 d.2.2).length) (full_map _) (nd_of _ List.nodup_range) rfl rfl hl.1 (Nat.le_of_ble_eq_true rfl) dL_seal_3 ⟨(Nat.le_of_ble_eq_true rfl), (Nat.le_of_ble_eq_true rfl)⟩ rfl rfl ⟨(Nat.le_of_ble_eq_true rfl), (Nat.le_of_ble_eq_true rfl)⟩ (fun H locs h => ?_)
      refine W.eq (g2 := F0 m 6 ls [.int z]) rfl ?_
      exact end_i (pc := 6) C hr (by decide) (by decide) h dL_seal_6
set_option maxHeartbeats 400000 in
set_option maxRecDepth 100000 in
theorem vm_seal {q0 : Nat → Nat} {q : Nat → Nat → Nat} {cA : Nat → ClassId} {D : va_G} (d : Dk) (x1 x2 : Int32) {z : Int32} (hf : gm_seal d x1 x2 = some z) : CtV yL_seal (.codeWith yL_seal cL_seal 4 (some .int) [(0, 6, 7, 23)]) rmW_seal [.ref (q0 0), .int x1, .int x2] D cA (kW q0 q cA d) (kW q0 q cA d) (.int z) 1 6 := by
  unfold gm_seal at hf
  by_cases hn : d.1 ≤ 6
  rotate_left
  · rw [if_neg hn] at hf
    cases hf
  rw [if_pos hn] at hf
  cases hq : f_X4_seal d.1 d.2.1 d.2.2 x1 x2 with
  | none => rw [hq] at hf; cases hf
  | some y =>
    rw [hq] at hf
    cases y with
    | inl E =>
      cases hf
      rcases E_X4_seal hq with h9
      · subst h9
        rw [show cE IOB = (-1000001 : Int32) from cE_IOB]
        refine vxL_ofH (Qc := fun sz => PostU D (kW q0 q cA d) (kW q0 q cA d) sz (some (.int (-1000001 : Int32)))) (by decide) (Nat.le_of_ble_eq_true rfl) ?_
        intro p l e s m below meth c ls hl0 C hr htab hXA hN hR0 h hl
        have C : Cx p s m _ meth c cL_seal 4 RL D cA := C
        obtain ⟨hx, hb, hml, hown, hts, hK, hlk⟩ := id C
        replace hl : lv_has ls 4 [(0, .ref (q0 0)), (1, .int x1), (2, .int x2)] := hl
        have hX := hXA.toXG
        replace h : St D (va_A (kW q0 q cA d) s.heap.size) s.heap (sW d.1 q0 q cA d.2.1 d.2.2) s.heap [] := h
        replace hR0 : SR D s.heap (sW d.1 q0 q cA d.2.1 d.2.2) s.heap [] := hR0
        refine lv_aload_n (pc := 0) hx hb dL_seal_0 rfl (lv_at hl 0 rfl) ?_
        refine lv_iload_n (pc := 1) hx hb dL_seal_1 rfl (lv_at hl 1 rfl) ?_
        refine lv_iload_n (pc := 2) hx hb dL_seal_2 rfl (lv_at hl 2 rfl) ?_
        refine call_C (pc := 3) (hpc := 7) (As := [.int x1, .int x2]) (rest := []) (E := IOB) C hl0 hX hR0 h (kT_X4_seal hn d.2.1 d.2.2 x1 x2 hq) cw_L_119 0 (sW_c0 ..) rfl (List.range (sW d.1 q0 q cA d.2.1 d.2.2).length) (full_map _) (nd_of _ List.nodup_range) rfl rfl hl.1 (Nat.le_of_ble_eq_true rfl) dL_seal_3 ⟨(Nat.le_of_ble_eq_true rfl), (Nat.le_of_ble_eq_true rfl)⟩ rfl rfl ⟨(Nat.le_of_ble_eq_true rfl), (Nat.le_of_ble_eq_true rfl)⟩ (fun H1 locs1 q9 ce h1 h2 h3 k => vx_catch (name := IOB) hown [] ⟨0, 6, 7, 23⟩ [] (htab.trans rfl) (fun z hz => by cases hz) (by decide) (by decide) (hts _ cl_23) (cast_ok hX.2.1 cs1.1) h1 h2 h3 k) (fun q9 H locs h => ?_)
        refine lv_astore_n (pc := 7) (lv' := [(3, .ref q9), (0, .ref (q0 0)), (1, .int x1), (2, .int x2)]) hx hb dL_seal_7 rfl hl (by decide) rfl (fun ls hl => ?_)
        refine lv_ldc (pc := 8) (v := -1000001) hx hb hown (hts _ kc_L_25) dL_seal_8 ?_
        exact end_i (pc := 10) C hr (by decide) (by decide) h dL_seal_10
    | inr z =>
      cases hf
      refine vxL_ofH (Qc := fun sz => PostU D (kW q0 q cA d) (kW q0 q cA d) sz (some (.int z))) (by decide) (Nat.le_of_ble_eq_true rfl) ?_
      intro p l e s m below meth c ls hl0 C hr htab hXA hN hR0 h hl
      have C : Cx p s m _ meth c cL_seal 4 RL D cA := C
      obtain ⟨hx, hb, hml, hown, hts, hK, hlk⟩ := id C
      replace hl : lv_has ls 4 [(0, .ref (q0 0)), (1, .int x1), (2, .int x2)] := hl
      have hX := hXA.toXG
      replace h : St D (va_A (kW q0 q cA d) s.heap.size) s.heap (sW d.1 q0 q cA d.2.1 d.2.2) s.heap [] := h
      replace hR0 : SR D s.heap (sW d.1 q0 q cA d.2.1 d.2.2) s.heap [] := hR0
      refine lv_aload_n (pc := 0) hx hb dL_seal_0 rfl (lv_at hl 0 rfl) ?_
      refine lv_iload_n (pc := 1) hx hb dL_seal_1 rfl (lv_at hl 1 rfl) ?_
      refine lv_iload_n (pc := 2) hx hb dL_seal_2 rfl (lv_at hl 2 rfl) ?_
      refine call_VR (pc := 3) (As := [.int x1, .int x2]) (rest := []) C h (k_X4_seal hn d.2.1 d.2.2 x1 x2 hq) cw_L_119 0 (sW_c0 ..) rfl (List.range (sW d.1 q0 q cA d.2.1 d.2.2).length) (full_map _) (nd_of _ List.nodup_range) rfl rfl hl.1 (Nat.le_of_ble_eq_true rfl) dL_seal_3 ⟨(Nat.le_of_ble_eq_true rfl), (Nat.le_of_ble_eq_true rfl)⟩ rfl rfl ⟨(Nat.le_of_ble_eq_true rfl), (Nat.le_of_ble_eq_true rfl)⟩ (fun H locs h => ?_)
      refine W.eq (g2 := F0 m 6 ls [.int z]) rfl ?_
      exact end_i (pc := 6) C hr (by decide) (by decide) h dL_seal_6
abbrev rmN_nextReminder : Room := { frames := 8, cells := 0, slots := 0, locals := 125 }
abbrev rmW_nextReminder : Room := { frames := 8, cells := 1, slots := 6, locals := 125 }
def gn_nextReminder (d : Dk) (x1 : Int32) : Option (Int32) := if d.1 ≤ 6 then match f_X4_nextReminder d.1 d.2.1 d.2.2 x1 with | some (.inr z) => some z | _ => none else none
def gm_nextReminder (d : Dk) (x1 : Int32) : Option (Int32) := if d.1 ≤ 6 then match f_X4_nextReminder d.1 d.2.1 d.2.2 x1 with | some (.inr z) => some z | some (.inl E) => some (cE E) | none => none else none
set_option maxHeartbeats 400000 in
set_option maxRecDepth 100000 in
theorem vn_nextReminder {q0 : Nat → Nat} {q : Nat → Nat → Nat} {cA : Nat → ClassId} {D : va_G} (d : Dk) (x1 : Int32) {z : Int32} (hf : gn_nextReminder d x1 = some z) : CtV yL_nextReminder (.codeWith yL_nextReminder cL_nextReminder 3 (some .int) [(0, 5, 6, 23)]) rmN_nextReminder [.ref (q0 0), .int x1] D cA (kW q0 q cA d) (kW q0 q cA d) (.int z) 0 0 := by
  unfold gn_nextReminder at hf
  by_cases hn : d.1 ≤ 6
  rotate_left
  · rw [if_neg hn] at hf
    cases hf
  rw [if_pos hn] at hf
  cases hq : f_X4_nextReminder d.1 d.2.1 d.2.2 x1 with
  | none => rw [hq] at hf; cases hf
  | some y =>
    rw [hq] at hf
    cases y with
    | inl E =>
      cases hf
    | inr z =>
      cases hf
      refine vxL_ofH (Qc := fun sz => PostU D (kW q0 q cA d) (kW q0 q cA d) sz (some (.int z))) (by decide) (Nat.le_of_ble_eq_true rfl) ?_
      intro p l e s m below meth c ls hl0 C hr htab hXA hN hR0 h hl
      have C : Cx p s m _ meth c cL_nextReminder 3 RL D cA := C
      obtain ⟨hx, hb, hml, hown, hts, hK, hlk⟩ := id C
      replace hl : lv_has ls 3 [(0, .ref (q0 0)), (1, .int x1)] := hl
      have hX := hXA.toXG
      replace h : St D (va_A (kW q0 q cA d) s.heap.size) s.heap (sW d.1 q0 q cA d.2.1 d.2.2) s.heap [] := h
      replace hR0 : SR D s.heap (sW d.1 q0 q cA d.2.1 d.2.2) s.heap [] := hR0
      refine lv_aload_n (pc := 0) hx hb dL_nextReminder_0 rfl (lv_at hl 0 rfl) ?_
      refine lv_iload_n (pc := 1) hx hb dL_nextReminder_1 rfl (lv_at hl 1 rfl) ?_
      refine call_VR (pc := 2) (As := [.int x1]) (rest := []) C h (k_X4_nextReminder hn d.2.1 d.2.2 x1 hq) cw_L_72 0 (sW_c0 ..) rfl (List.range (sW d.1 q0 q cA d.2.1 d.2.2).length) (full_map _) (nd_of _ List.nodup_range) rfl rfl hl.1 (Nat.le_of_ble_eq_true rfl) dL_nextReminder_2 ⟨(Nat.le_of_ble_eq_true rfl), (Nat.le_of_ble_eq_true rfl)⟩ rfl rfl ⟨(Nat.le_of_ble_eq_true rfl), (Nat.le_of_ble_eq_true rfl)⟩ (fun H locs h => ?_)
      refine W.eq (g2 := F0 m 5 ls [.int z]) rfl ?_
      exact end_i (pc := 5) C hr (by decide) (by decide) h dL_nextReminder_5
set_option maxHeartbeats 400000 in
set_option maxRecDepth 100000 in
theorem vm_nextReminder {q0 : Nat → Nat} {q : Nat → Nat → Nat} {cA : Nat → ClassId} {D : va_G} (d : Dk) (x1 : Int32) {z : Int32} (hf : gm_nextReminder d x1 = some z) : CtV yL_nextReminder (.codeWith yL_nextReminder cL_nextReminder 3 (some .int) [(0, 5, 6, 23)]) rmW_nextReminder [.ref (q0 0), .int x1] D cA (kW q0 q cA d) (kW q0 q cA d) (.int z) 1 6 := by
  unfold gm_nextReminder at hf
  by_cases hn : d.1 ≤ 6
  rotate_left
  · rw [if_neg hn] at hf
    cases hf
  rw [if_pos hn] at hf
  cases hq : f_X4_nextReminder d.1 d.2.1 d.2.2 x1 with
  | none => rw [hq] at hf; cases hf
  | some y =>
    rw [hq] at hf
    cases y with
    | inl E =>
      cases hf
      rcases E_X4_nextReminder hq with h9
      · subst h9
        rw [show cE IOB = (-1000001 : Int32) from cE_IOB]
        refine vxL_ofH (Qc := fun sz => PostU D (kW q0 q cA d) (kW q0 q cA d) sz (some (.int (-1000001 : Int32)))) (by decide) (Nat.le_of_ble_eq_true rfl) ?_
        intro p l e s m below meth c ls hl0 C hr htab hXA hN hR0 h hl
        have C : Cx p s m _ meth c cL_nextReminder 3 RL D cA := C
        obtain ⟨hx, hb, hml, hown, hts, hK, hlk⟩ := id C
        replace hl : lv_has ls 3 [(0, .ref (q0 0)), (1, .int x1)] := hl
        have hX := hXA.toXG
        replace h : St D (va_A (kW q0 q cA d) s.heap.size) s.heap (sW d.1 q0 q cA d.2.1 d.2.2) s.heap [] := h
        replace hR0 : SR D s.heap (sW d.1 q0 q cA d.2.1 d.2.2) s.heap [] := hR0
        refine lv_aload_n (pc := 0) hx hb dL_nextReminder_0 rfl (lv_at hl 0 rfl) ?_
        refine lv_iload_n (pc := 1) hx hb dL_nextReminder_1 rfl (lv_at hl 1 rfl) ?_
        refine call_C (pc := 2) (hpc := 6) (As := [.int x1]) (rest := []) (E := IOB) C hl0 hX hR0 h (kT_X4_nextReminder hn d.2.1 d.2.2 x1 hq) cw_L_72 0 (sW_c0 ..) rfl (List.range (sW d.1 q0 q cA d.2.1 d.2.2).length) (full_map _) (nd_of _ List.nodup_range) rfl rfl hl.1 (Nat.le_of_ble_eq_true rfl) dL_nextReminder_2 ⟨(Nat.le_of_ble_eq_true rfl), (Nat.le_of_ble_eq_true rfl)⟩ rfl rfl ⟨(Nat.le_of_ble_eq_true rfl), (Nat.le_of_ble_eq_true rfl)⟩ (fun H1 locs1 q9 ce h1 h2 h3 k => vx_catch (name := IOB) hown [] ⟨0, 5, 6, 23⟩ [] (htab.trans rfl) (fun z hz => by cases hz) (by decide) (by decide) (hts _ cl_23) (cast_ok hX.2.1 cs1.1) h1 h2 h3 k) (fun q9 H locs h => ?_)
        refine lv_astore_n (pc := 6) (lv' := [(2, .ref q9), (0, .ref (q0 0)), (1, .int x1)]) hx hb dL_nextReminder_6 rfl hl (by decide) rfl (fun ls hl => ?_)
        refine lv_ldc (pc := 7) (v := -1000001) hx hb hown (hts _ kc_L_25) dL_nextReminder_7 ?_
        exact end_i (pc := 9) C hr (by decide) (by decide) h dL_nextReminder_9
    | inr z =>
      cases hf
      refine vxL_ofH (Qc := fun sz => PostU D (kW q0 q cA d) (kW q0 q cA d) sz (some (.int z))) (by decide) (Nat.le_of_ble_eq_true rfl) ?_
      intro p l e s m below meth c ls hl0 C hr htab hXA hN hR0 h hl
      have C : Cx p s m _ meth c cL_nextReminder 3 RL D cA := C
      obtain ⟨hx, hb, hml, hown, hts, hK, hlk⟩ := id C
      replace hl : lv_has ls 3 [(0, .ref (q0 0)), (1, .int x1)] := hl
      have hX := hXA.toXG
      replace h : St D (va_A (kW q0 q cA d) s.heap.size) s.heap (sW d.1 q0 q cA d.2.1 d.2.2) s.heap [] := h
      replace hR0 : SR D s.heap (sW d.1 q0 q cA d.2.1 d.2.2) s.heap [] := hR0
      refine lv_aload_n (pc := 0) hx hb dL_nextReminder_0 rfl (lv_at hl 0 rfl) ?_
      refine lv_iload_n (pc := 1) hx hb dL_nextReminder_1 rfl (lv_at hl 1 rfl) ?_
      refine call_VR (pc := 2) (As := [.int x1]) (rest := []) C h (k_X4_nextReminder hn d.2.1 d.2.2 x1 hq) cw_L_72 0 (sW_c0 ..) rfl (List.range (sW d.1 q0 q cA d.2.1 d.2.2).length) (full_map _) (nd_of _ List.nodup_range) rfl rfl hl.1 (Nat.le_of_ble_eq_true rfl) dL_nextReminder_2 ⟨(Nat.le_of_ble_eq_true rfl), (Nat.le_of_ble_eq_true rfl)⟩ rfl rfl ⟨(Nat.le_of_ble_eq_true rfl), (Nat.le_of_ble_eq_true rfl)⟩ (fun H locs h => ?_)
      refine W.eq (g2 := F0 m 5 ls [.int z]) rfl ?_
      exact end_i (pc := 5) C hr (by decide) (by decide) h dL_nextReminder_5
abbrev rmN_slots : Room := { frames := 8, cells := 0, slots := 0, locals := 125 }
abbrev rmW_slots : Room := { frames := 8, cells := 1, slots := 6, locals := 125 }
def gn_slots (d : Dk) (x1 : Int32) : Option (Int32) := if d.1 ≤ 6 then match f_X4_slots d.1 d.2.1 d.2.2 x1 with | some (.inr z) => some z | _ => none else none
def gm_slots (d : Dk) (x1 : Int32) : Option (Int32) := if d.1 ≤ 6 then match f_X4_slots d.1 d.2.1 d.2.2 x1 with | some (.inr z) => some z | some (.inl E) => some (cE E) | none => none else none
set_option maxHeartbeats 400000 in
set_option maxRecDepth 100000 in
theorem vn_slots {q0 : Nat → Nat} {q : Nat → Nat → Nat} {cA : Nat → ClassId} {D : va_G} (d : Dk) (x1 : Int32) {z : Int32} (hf : gn_slots d x1 = some z) : CtV yL_slots (.codeWith yL_slots cL_slots 3 (some .int) [(0, 5, 6, 23)]) rmN_slots [.ref (q0 0), .int x1] D cA (kW q0 q cA d) (kW q0 q cA d) (.int z) 0 0 := by
  unfold gn_slots at hf
  by_cases hn : d.1 ≤ 6
  rotate_left
  · rw [if_neg hn] at hf
    cases hf
  rw [if_pos hn] at hf
  cases hq : f_X4_slots d.1 d.2.1 d.2.2 x1 with
  | none => rw [hq] at hf; cases hf
  | some y =>
    rw [hq] at hf
    cases y with
    | inl E =>
      cases hf
    | inr z =>
      cases hf
      refine vxL_ofH (Qc := fun sz => PostU D (kW q0 q cA d) (kW q0 q cA d) sz (some (.int z))) (by decide) (Nat.le_of_ble_eq_true rfl) ?_
      intro p l e s m below meth c ls hl0 C hr htab hXA hN hR0 h hl
      have C : Cx p s m _ meth c cL_slots 3 RL D cA := C
      obtain ⟨hx, hb, hml, hown, hts, hK, hlk⟩ := id C
      replace hl : lv_has ls 3 [(0, .ref (q0 0)), (1, .int x1)] := hl
      have hX := hXA.toXG
      replace h : St D (va_A (kW q0 q cA d) s.heap.size) s.heap (sW d.1 q0 q cA d.2.1 d.2.2) s.heap [] := h
      replace hR0 : SR D s.heap (sW d.1 q0 q cA d.2.1 d.2.2) s.heap [] := hR0
      refine lv_aload_n (pc := 0) hx hb dL_slots_0 rfl (lv_at hl 0 rfl) ?_
      refine lv_iload_n (pc := 1) hx hb dL_slots_1 rfl (lv_at hl 1 rfl) ?_
      refine call_VR (pc := 2) (As := [.int x1]) (rest := []) C h (k_X4_slots hn d.2.1 d.2.2 x1 hq) cw_L_78 0 (sW_c0 ..) rfl (List.range (sW d.1 q0 q cA d.2.1 d.2.2).length) (full_map _) (nd_of _ List.nodup_range) rfl rfl hl.1 (Nat.le_of_ble_eq_true rfl) dL_slots_2 ⟨(Nat.le_of_ble_eq_true rfl), (Nat.le_of_ble_eq_true rfl)⟩ rfl rfl ⟨(Nat.le_of_ble_eq_true rfl), (Nat.le_of_ble_eq_true rfl)⟩ (fun H locs h => ?_)
      refine W.eq (g2 := F0 m 5 ls [.int z]) rfl ?_
      exact end_i (pc := 5) C hr (by decide) (by decide) h dL_slots_5
set_option maxHeartbeats 400000 in
set_option maxRecDepth 100000 in
theorem vm_slots {q0 : Nat → Nat} {q : Nat → Nat → Nat} {cA : Nat → ClassId} {D : va_G} (d : Dk) (x1 : Int32) {z : Int32} (hf : gm_slots d x1 = some z) : CtV yL_slots (.codeWith yL_slots cL_slots 3 (some .int) [(0, 5, 6, 23)]) rmW_slots [.ref (q0 0), .int x1] D cA (kW q0 q cA d) (kW q0 q cA d) (.int z) 1 6 := by
  unfold gm_slots at hf
  by_cases hn : d.1 ≤ 6
  rotate_left
  · rw [if_neg hn] at hf
    cases hf
  rw [if_pos hn] at hf
  cases hq : f_X4_slots d.1 d.2.1 d.2.2 x1 with
  | none => rw [hq] at hf; cases hf
  | some y =>
    rw [hq] at hf
    cases y with
    | inl E =>
      cases hf
      rcases E_X4_slots hq with h9
      · subst h9
        rw [show cE IOB = (-1000001 : Int32) from cE_IOB]
        refine vxL_ofH (Qc := fun sz => PostU D (kW q0 q cA d) (kW q0 q cA d) sz (some (.int (-1000001 : Int32)))) (by decide) (Nat.le_of_ble_eq_true rfl) ?_
        intro p l e s m below meth c ls hl0 C hr htab hXA hN hR0 h hl
        have C : Cx p s m _ meth c cL_slots 3 RL D cA := C
        obtain ⟨hx, hb, hml, hown, hts, hK, hlk⟩ := id C
        replace hl : lv_has ls 3 [(0, .ref (q0 0)), (1, .int x1)] := hl
        have hX := hXA.toXG
        replace h : St D (va_A (kW q0 q cA d) s.heap.size) s.heap (sW d.1 q0 q cA d.2.1 d.2.2) s.heap [] := h
        replace hR0 : SR D s.heap (sW d.1 q0 q cA d.2.1 d.2.2) s.heap [] := hR0
        refine lv_aload_n (pc := 0) hx hb dL_slots_0 rfl (lv_at hl 0 rfl) ?_
        refine lv_iload_n (pc := 1) hx hb dL_slots_1 rfl (lv_at hl 1 rfl) ?_
        refine call_C (pc := 2) (hpc := 6) (As := [.int x1]) (rest := []) (E := IOB) C hl0 hX hR0 h (kT_X4_slots hn d.2.1 d.2.2 x1 hq) cw_L_78 0 (sW_c0 ..) rfl (List.range (sW d.1 q0 q cA d.2.1 d.2.2).length) (full_map _) (nd_of _ List.nodup_range) rfl rfl hl.1 (Nat.le_of_ble_eq_true rfl) dL_slots_2 ⟨(Nat.le_of_ble_eq_true rfl), (Nat.le_of_ble_eq_true rfl)⟩ rfl rfl ⟨(Nat.le_of_ble_eq_true rfl), (Nat.le_of_ble_eq_true rfl)⟩ (fun H1 locs1 q9 ce h1 h2 h3 k => vx_catch (name := IOB) hown [] ⟨0, 5, 6, 23⟩ [] (htab.trans rfl) (fun z hz => by cases hz) (by decide) (by decide) (hts _ cl_23) (cast_ok hX.2.1 cs1.1) h1 h2 h3 k) (fun q9 H locs h => ?_)
        refine lv_astore_n (pc := 6) (lv' := [(2, .ref q9), (0, .ref (q0 0)), (1, .int x1)]) hx hb dL_slots_6 rfl hl (by decide) rfl (fun ls hl => ?_)
        refine lv_ldc (pc := 7) (v := -1000001) hx hb hown (hts _ kc_L_25) dL_slots_7 ?_
        exact end_i (pc := 9) C hr (by decide) (by decide) h dL_slots_9
    | inr z =>
      cases hf
      refine vxL_ofH (Qc := fun sz => PostU D (kW q0 q cA d) (kW q0 q cA d) sz (some (.int z))) (by decide) (Nat.le_of_ble_eq_true rfl) ?_
      intro p l e s m below meth c ls hl0 C hr htab hXA hN hR0 h hl
      have C : Cx p s m _ meth c cL_slots 3 RL D cA := C
      obtain ⟨hx, hb, hml, hown, hts, hK, hlk⟩ := id C
      replace hl : lv_has ls 3 [(0, .ref (q0 0)), (1, .int x1)] := hl
      have hX := hXA.toXG
      replace h : St D (va_A (kW q0 q cA d) s.heap.size) s.heap (sW d.1 q0 q cA d.2.1 d.2.2) s.heap [] := h
      replace hR0 : SR D s.heap (sW d.1 q0 q cA d.2.1 d.2.2) s.heap [] := hR0
      refine lv_aload_n (pc := 0) hx hb dL_slots_0 rfl (lv_at hl 0 rfl) ?_
      refine lv_iload_n (pc := 1) hx hb dL_slots_1 rfl (lv_at hl 1 rfl) ?_
      refine call_VR (pc := 2) (As := [.int x1]) (rest := []) C h (k_X4_slots hn d.2.1 d.2.2 x1 hq) cw_L_78 0 (sW_c0 ..) rfl (List.range (sW d.1 q0 q cA d.2.1 d.2.2).length) (full_map _) (nd_of _ List.nodup_range) rfl rfl hl.1 (Nat.le_of_ble_eq_true rfl) dL_slots_2 ⟨(Nat.le_of_ble_eq_true rfl), (Nat.le_of_ble_eq_true rfl)⟩ rfl rfl ⟨(Nat.le_of_ble_eq_true rfl), (Nat.le_of_ble_eq_true rfl)⟩ (fun H locs h => ?_)
      refine W.eq (g2 := F0 m 5 ls [.int z]) rfl ?_
      exact end_i (pc := 5) C hr (by decide) (by decide) h dL_slots_5
abbrev rmN_slotState : Room := { frames := 8, cells := 0, slots := 0, locals := 127 }
abbrev rmW_slotState : Room := { frames := 8, cells := 1, slots := 6, locals := 127 }
def gn_slotState (d : Dk) (x1 x2 : Int32) : Option (Int32) := if d.1 ≤ 6 then match f_X4_slotState d.1 d.2.1 d.2.2 x1 x2 with | some (.inr z) => some z | _ => none else none
def gm_slotState (d : Dk) (x1 x2 : Int32) : Option (Int32) := if d.1 ≤ 6 then match f_X4_slotState d.1 d.2.1 d.2.2 x1 x2 with | some (.inr z) => some z | some (.inl E) => some (cE E) | none => none else none
set_option maxHeartbeats 400000 in
set_option maxRecDepth 100000 in
theorem vn_slotState {q0 : Nat → Nat} {q : Nat → Nat → Nat} {cA : Nat → ClassId} {D : va_G} (d : Dk) (x1 x2 : Int32) {z : Int32} (hf : gn_slotState d x1 x2 = some z) : CtV yL_slotState (.codeWith yL_slotState cL_slotState 4 (some .int) [(0, 6, 7, 23)]) rmN_slotState [.ref (q0 0), .int x1, .int x2] D cA (kW q0 q cA d) (kW q0 q cA d) (.int z) 0 0 := by
  unfold gn_slotState at hf
  by_cases hn : d.1 ≤ 6
  rotate_left
  · rw [if_neg hn] at hf
    cases hf
  rw [if_pos hn] at hf
  cases hq : f_X4_slotState d.1 d.2.1 d.2.2 x1 x2 with
  | none => rw [hq] at hf; cases hf
  | some y =>
    rw [hq] at hf
    cases y with
    | inl E =>
      cases hf
    | inr z =>
      cases hf
      refine vxL_ofH (Qc := fun sz => PostU D (kW q0 q cA d) (kW q0 q cA d) sz (some (.int z))) (by decide) (Nat.le_of_ble_eq_true rfl) ?_
      intro p l e s m below meth c ls hl0 C hr htab hXA hN hR0 h hl
      have C : Cx p s m _ meth c cL_slotState 4 RL D cA := C
      obtain ⟨hx, hb, hml, hown, hts, hK, hlk⟩ := id C
      replace hl : lv_has ls 4 [(0, .ref (q0 0)), (1, .int x1), (2, .int x2)] := hl
      have hX := hXA.toXG
      replace h : St D (va_A (kW q0 q cA d) s.heap.size) s.heap (sW d.1 q0 q cA d.2.1 d.2.2) s.heap [] := h
      replace hR0 : SR D s.heap (sW d.1 q0 q cA d.2.1 d.2.2) s.heap [] := hR0
      refine lv_aload_n (pc := 0) hx hb dL_slotState_0 rfl (lv_at hl 0 rfl) ?_
      refine lv_iload_n (pc := 1) hx hb dL_slotState_1 rfl (lv_at hl 1 rfl) ?_
      refine lv_iload_n (pc := 2) hx hb dL_slotState_2 rfl (lv_at hl 2 rfl) ?_
      refine call_VR (pc := 3) (As := [.int x1, .int x2]) (rest := []) C h (k_X4_slotState hn d.2.1 d.2.2 x1 x2 hq) cw_L_81 0 (sW_c0 ..) rfl (List.range (sW d.1 q0 q cA d.2.1 d.2.2).length) (full_map _) (nd_of _ List.nodup_range) rfl rfl hl.1 (Nat.le_of_ble_eq_true rfl) dL_slotState_3 ⟨(Nat.le_of_ble_eq_true rfl), (Nat.le_of_ble_eq_true rfl)⟩ rfl rfl ⟨(Nat.le_of_ble_eq_true rfl), (Nat.le_of_ble_eq_true rfl)⟩ (fun H locs h => ?_)
      refine W.eq (g2 := F0 m 6 ls [.int z]) rfl ?_
      exact end_i (pc := 6) C hr (by decide) (by decide) h dL_slotState_6
set_option maxHeartbeats 400000 in
set_option maxRecDepth 100000 in
theorem vm_slotState {q0 : Nat → Nat} {q : Nat → Nat → Nat} {cA : Nat → ClassId} {D : va_G} (d : Dk) (x1 x2 : Int32) {z : Int32} (hf : gm_slotState d x1 x2 = some z) : CtV yL_slotState (.codeWith yL_slotState cL_slotState 4 (some .int) [(0, 6, 7, 23)]) rmW_slotState [.ref (q0 0), .int x1, .int x2] D cA (kW q0 q cA d) (kW q0 q cA d) (.int z) 1 6 := by
  unfold gm_slotState at hf
  by_cases hn : d.1 ≤ 6
  rotate_left
  · rw [if_neg hn] at hf
    cases hf
  rw [if_pos hn] at hf
  cases hq : f_X4_slotState d.1 d.2.1 d.2.2 x1 x2 with
  | none => rw [hq] at hf; cases hf
  | some y =>
    rw [hq] at hf
    cases y with
    | inl E =>
      cases hf
      rcases E_X4_slotState hq with h9
      · subst h9
        rw [show cE IOB = (-1000001 : Int32) from cE_IOB]
        refine vxL_ofH (Qc := fun sz => PostU D (kW q0 q cA d) (kW q0 q cA d) sz (some (.int (-1000001 : Int32)))) (by decide) (Nat.le_of_ble_eq_true rfl) ?_
        intro p l e s m below meth c ls hl0 C hr htab hXA hN hR0 h hl
        have C : Cx p s m _ meth c cL_slotState 4 RL D cA := C
        obtain ⟨hx, hb, hml, hown, hts, hK, hlk⟩ := id C
        replace hl : lv_has ls 4 [(0, .ref (q0 0)), (1, .int x1), (2, .int x2)] := hl
        have hX := hXA.toXG
        replace h : St D (va_A (kW q0 q cA d) s.heap.size) s.heap (sW d.1 q0 q cA d.2.1 d.2.2) s.heap [] := h
        replace hR0 : SR D s.heap (sW d.1 q0 q cA d.2.1 d.2.2) s.heap [] := hR0
        refine lv_aload_n (pc := 0) hx hb dL_slotState_0 rfl (lv_at hl 0 rfl) ?_
        refine lv_iload_n (pc := 1) hx hb dL_slotState_1 rfl (lv_at hl 1 rfl) ?_
        refine lv_iload_n (pc := 2) hx hb dL_slotState_2 rfl (lv_at hl 2 rfl) ?_
        refine call_C (pc := 3) (hpc := 7) (As := [.int x1, .int x2]) (rest := []) (E := IOB) C hl0 hX hR0 h (kT_X4_slotState hn d.2.1 d.2.2 x1 x2 hq) cw_L_81 0 (sW_c0 ..) rfl (List.range (sW d.1 q0 q cA d.2.1 d.2.2).length) (full_map _) (nd_of _ List.nodup_range) rfl rfl hl.1 (Nat.le_of_ble_eq_true rfl) dL_slotState_3 ⟨(Nat.le_of_ble_eq_true rfl), (Nat.le_of_ble_eq_true rfl)⟩ rfl rfl ⟨(Nat.le_of_ble_eq_true rfl), (Nat.le_of_ble_eq_true rfl)⟩ (fun H1 locs1 q9 ce h1 h2 h3 k => vx_catch (name := IOB) hown [] ⟨0, 6, 7, 23⟩ [] (htab.trans rfl) (fun z hz => by cases hz) (by decide) (by decide) (hts _ cl_23) (cast_ok hX.2.1 cs1.1) h1 h2 h3 k) (fun q9 H locs h => ?_)
        refine lv_astore_n (pc := 7) (lv' := [(3, .ref q9), (0, .ref (q0 0)), (1, .int x1), (2, .int x2)]) hx hb dL_slotState_7 rfl hl (by decide) rfl (fun ls hl => ?_)
        refine lv_ldc (pc := 8) (v := -1000001) hx hb hown (hts _ kc_L_25) dL_slotState_8 ?_
        exact end_i (pc := 10) C hr (by decide) (by decide) h dL_slotState_10
    | inr z =>
      cases hf
      refine vxL_ofH (Qc := fun sz => PostU D (kW q0 q cA d) (kW q0 q cA d) sz (some (.int z))) (by decide) (Nat.le_of_ble_eq_true rfl) ?_
      intro p l e s m below meth c ls hl0 C hr htab hXA hN hR0 h hl
      have C : Cx p s m _ meth c cL_slotState 4 RL D cA := C
      obtain ⟨hx, hb, hml, hown, hts, hK, hlk⟩ := id C
      replace hl : lv_has ls 4 [(0, .ref (q0 0)), (1, .int x1), (2, .int x2)] := hl
      have hX := hXA.toXG
      replace h : St D (va_A (kW q0 q cA d) s.heap.size) s.heap (sW d.1 q0 q cA d.2.1 d.2.2) s.heap [] := h
      replace hR0 : SR D s.heap (sW d.1 q0 q cA d.2.1 d.2.2) s.heap [] := hR0
      refine lv_aload_n (pc := 0) hx hb dL_slotState_0 rfl (lv_at hl 0 rfl) ?_
      refine lv_iload_n (pc := 1) hx hb dL_slotState_1 rfl (lv_at hl 1 rfl) ?_
      refine lv_iload_n (pc := 2) hx hb dL_slotState_2 rfl (lv_at hl 2 rfl) ?_
      refine call_VR (pc := 3) (As := [.int x1, .int x2]) (rest := []) C h (k_X4_slotState hn d.2.1 d.2.2 x1 x2 hq) cw_L_81 0 (sW_c0 ..) rfl (List.range (sW d.1 q0 q cA d.2.1 d.2.2).length) (full_map _) (nd_of _ List.nodup_range) rfl rfl hl.1 (Nat.le_of_ble_eq_true rfl) dL_slotState_3 ⟨(Nat.le_of_ble_eq_true rfl), (Nat.le_of_ble_eq_true rfl)⟩ rfl rfl ⟨(Nat.le_of_ble_eq_true rfl), (Nat.le_of_ble_eq_true rfl)⟩ (fun H locs h => ?_)
      refine W.eq (g2 := F0 m 6 ls [.int z]) rfl ?_
      exact end_i (pc := 6) C hr (by decide) (by decide) h dL_slotState_6
abbrev rmN_missing : Room := { frames := 8, cells := 0, slots := 0, locals := 127 }
abbrev rmW_missing : Room := { frames := 8, cells := 1, slots := 6, locals := 127 }
def gn_missing (d : Dk) (x1 x2 : Int32) : Option (Int32) := if d.1 ≤ 6 then match f_X4_missing d.1 d.2.1 d.2.2 x1 x2 with | some (.inr z) => some z | _ => none else none
def gm_missing (d : Dk) (x1 x2 : Int32) : Option (Int32) := if d.1 ≤ 6 then match f_X4_missing d.1 d.2.1 d.2.2 x1 x2 with | some (.inr z) => some z | some (.inl E) => some (cE E) | none => none else none
set_option maxHeartbeats 400000 in
set_option maxRecDepth 100000 in
theorem vn_missing {q0 : Nat → Nat} {q : Nat → Nat → Nat} {cA : Nat → ClassId} {D : va_G} (d : Dk) (x1 x2 : Int32) {z : Int32} (hf : gn_missing d x1 x2 = some z) : CtV yL_missing (.codeWith yL_missing cL_missing 4 (some .int) [(0, 6, 7, 23)]) rmN_missing [.ref (q0 0), .int x1, .int x2] D cA (kW q0 q cA d) (kW q0 q cA d) (.int z) 0 0 := by
  unfold gn_missing at hf
  by_cases hn : d.1 ≤ 6
  rotate_left
  · rw [if_neg hn] at hf
    cases hf
  rw [if_pos hn] at hf
  cases hq : f_X4_missing d.1 d.2.1 d.2.2 x1 x2 with
  | none => rw [hq] at hf; cases hf
  | some y =>
    rw [hq] at hf
    cases y with
    | inl E =>
      cases hf
    | inr z =>
      cases hf
      refine vxL_ofH (Qc := fun sz => PostU D (kW q0 q cA d) (kW q0 q cA d) sz (some (.int z))) (by decide) (Nat.le_of_ble_eq_true rfl) ?_
      intro p l e s m below meth c ls hl0 C hr htab hXA hN hR0 h hl
      have C : Cx p s m _ meth c cL_missing 4 RL D cA := C
      obtain ⟨hx, hb, hml, hown, hts, hK, hlk⟩ := id C
      replace hl : lv_has ls 4 [(0, .ref (q0 0)), (1, .int x1), (2, .int x2)] := hl
      have hX := hXA.toXG
      replace h : St D (va_A (kW q0 q cA d) s.heap.size) s.heap (sW d.1 q0 q cA d.2.1 d.2.2) s.heap [] := h
      replace hR0 : SR D s.heap (sW d.1 q0 q cA d.2.1 d.2.2) s.heap [] := hR0
      refine lv_aload_n (pc := 0) hx hb dL_missing_0 rfl (lv_at hl 0 rfl) ?_
      refine lv_iload_n (pc := 1) hx hb dL_missing_1 rfl (lv_at hl 1 rfl) ?_
      refine lv_iload_n (pc := 2) hx hb dL_missing_2 rfl (lv_at hl 2 rfl) ?_
      refine call_VR (pc := 3) (As := [.int x1, .int x2]) (rest := []) C h (k_X4_missing hn d.2.1 d.2.2 x1 x2 hq) cw_L_84 0 (sW_c0 ..) rfl (List.range (sW d.1 q0 q cA d.2.1 d.2.2).length) (full_map _) (nd_of _ List.nodup_range) rfl rfl hl.1 (Nat.le_of_ble_eq_true rfl) dL_missing_3 ⟨(Nat.le_of_ble_eq_true rfl), (Nat.le_of_ble_eq_true rfl)⟩ rfl rfl ⟨(Nat.le_of_ble_eq_true rfl), (Nat.le_of_ble_eq_true rfl)⟩ (fun H locs h => ?_)
      refine W.eq (g2 := F0 m 6 ls [.int z]) rfl ?_
      exact end_i (pc := 6) C hr (by decide) (by decide) h dL_missing_6
set_option maxHeartbeats 400000 in
set_option maxRecDepth 100000 in
theorem vm_missing {q0 : Nat → Nat} {q : Nat → Nat → Nat} {cA : Nat → ClassId} {D : va_G} (d : Dk) (x1 x2 : Int32) {z : Int32} (hf : gm_missing d x1 x2 = some z) : CtV yL_missing (.codeWith yL_missing cL_missing 4 (some .int) [(0, 6, 7, 23)]) rmW_missing [.ref (q0 0), .int x1, .int x2] D cA (kW q0 q cA d) (kW q0 q cA d) (.int z) 1 6 := by
  unfold gm_missing at hf
  by_cases hn : d.1 ≤ 6
  rotate_left
  · rw [if_neg hn] at hf
    cases hf
  rw [if_pos hn] at hf
  cases hq : f_X4_missing d.1 d.2.1 d.2.2 x1 x2 with
  | none => rw [hq] at hf; cases hf
  | some y =>
    rw [hq] at hf
    cases y with
    | inl E =>
      cases hf
      rcases E_X4_missing hq with h9
      · subst h9
        rw [show cE IOB = (-1000001 : Int32) from cE_IOB]
        refine vxL_ofH (Qc := fun sz => PostU D (kW q0 q cA d) (kW q0 q cA d) sz (some (.int (-1000001 : Int32)))) (by decide) (Nat.le_of_ble_eq_true rfl) ?_
        intro p l e s m below meth c ls hl0 C hr htab hXA hN hR0 h hl
        have C : Cx p s m _ meth c cL_missing 4 RL D cA := C
        obtain ⟨hx, hb, hml, hown, hts, hK, hlk⟩ := id C
        replace hl : lv_has ls 4 [(0, .ref (q0 0)), (1, .int x1), (2, .int x2)] := hl
        have hX := hXA.toXG
        replace h : St D (va_A (kW q0 q cA d) s.heap.size) s.heap (sW d.1 q0 q cA d.2.1 d.2.2) s.heap [] := h
        replace hR0 : SR D s.heap (sW d.1 q0 q cA d.2.1 d.2.2) s.heap [] := hR0
        refine lv_aload_n (pc := 0) hx hb dL_missing_0 rfl (lv_at hl 0 rfl) ?_
        refine lv_iload_n (pc := 1) hx hb dL_missing_1 rfl (lv_at hl 1 rfl) ?_
        refine lv_iload_n (pc := 2) hx hb dL_missing_2 rfl (lv_at hl 2 rfl) ?_
        refine call_C (pc := 3) (hpc := 7) (As := [.int x1, .int x2]) (rest := []) (E := IOB) C hl0 hX hR0 h (kT_X4_missing hn d.2.1 d.2.2 x1 x2 hq) cw_L_84 0 (sW_c0 ..) rfl (List.range (sW d.1 q0 q cA d.2.1 d.2.2).length) (full_map _) (nd_of _ List.nodup_range) rfl rfl hl.1 (Nat.le_of_ble_eq_true rfl) dL_missing_3 ⟨(Nat.le_of_ble_eq_true rfl), (Nat.le_of_ble_eq_true rfl)⟩ rfl rfl ⟨(Nat.le_of_ble_eq_true rfl), (Nat.le_of_ble_eq_true rfl)⟩ (fun H1 locs1 q9 ce h1 h2 h3 k => vx_catch (name := IOB) hown [] ⟨0, 6, 7, 23⟩ [] (htab.trans rfl) (fun z hz => by cases hz) (by decide) (by decide) (hts _ cl_23) (cast_ok hX.2.1 cs1.1) h1 h2 h3 k) (fun q9 H locs h => ?_)
        refine lv_astore_n (pc := 7) (lv' := [(3, .ref q9), (0, .ref (q0 0)), (1, .int x1), (2, .int x2)]) hx hb dL_missing_7 rfl hl (by decide) rfl (fun ls hl => ?_)
        refine lv_ldc (pc := 8) (v := -1000001) hx hb hown (hts _ kc_L_25) dL_missing_8 ?_
        exact end_i (pc := 10) C hr (by decide) (by decide) h dL_missing_10
    | inr z =>
      cases hf
      refine vxL_ofH (Qc := fun sz => PostU D (kW q0 q cA d) (kW q0 q cA d) sz (some (.int z))) (by decide) (Nat.le_of_ble_eq_true rfl) ?_
      intro p l e s m below meth c ls hl0 C hr htab hXA hN hR0 h hl
      have C : Cx p s m _ meth c cL_missing 4 RL D cA := C
      obtain ⟨hx, hb, hml, hown, hts, hK, hlk⟩ := id C
      replace hl : lv_has ls 4 [(0, .ref (q0 0)), (1, .int x1), (2, .int x2)] := hl
      have hX := hXA.toXG
      replace h : St D (va_A (kW q0 q cA d) s.heap.size) s.heap (sW d.1 q0 q cA d.2.1 d.2.2) s.heap [] := h
      replace hR0 : SR D s.heap (sW d.1 q0 q cA d.2.1 d.2.2) s.heap [] := hR0
      refine lv_aload_n (pc := 0) hx hb dL_missing_0 rfl (lv_at hl 0 rfl) ?_
      refine lv_iload_n (pc := 1) hx hb dL_missing_1 rfl (lv_at hl 1 rfl) ?_
      refine lv_iload_n (pc := 2) hx hb dL_missing_2 rfl (lv_at hl 2 rfl) ?_
      refine call_VR (pc := 3) (As := [.int x1, .int x2]) (rest := []) C h (k_X4_missing hn d.2.1 d.2.2 x1 x2 hq) cw_L_84 0 (sW_c0 ..) rfl (List.range (sW d.1 q0 q cA d.2.1 d.2.2).length) (full_map _) (nd_of _ List.nodup_range) rfl rfl hl.1 (Nat.le_of_ble_eq_true rfl) dL_missing_3 ⟨(Nat.le_of_ble_eq_true rfl), (Nat.le_of_ble_eq_true rfl)⟩ rfl rfl ⟨(Nat.le_of_ble_eq_true rfl), (Nat.le_of_ble_eq_true rfl)⟩ (fun H locs h => ?_)
      refine W.eq (g2 := F0 m 6 ls [.int z]) rfl ?_
      exact end_i (pc := 6) C hr (by decide) (by decide) h dL_missing_6
abbrev rmN_delegateToday : Room := { frames := 8, cells := 0, slots := 0, locals := 125 }
abbrev rmW_delegateToday : Room := { frames := 8, cells := 1, slots := 6, locals := 125 }
def gn_delegateToday (d : Dk) (x1 : Int32) : Option (Int32) := if d.1 ≤ 6 then match f_X4_delegateToday d.1 d.2.1 d.2.2 x1 with | some (.inr z) => some z | _ => none else none
def gm_delegateToday (d : Dk) (x1 : Int32) : Option (Int32) := if d.1 ≤ 6 then match f_X4_delegateToday d.1 d.2.1 d.2.2 x1 with | some (.inr z) => some z | some (.inl E) => some (cE E) | none => none else none
set_option maxHeartbeats 400000 in
set_option maxRecDepth 100000 in
theorem vn_delegateToday {q0 : Nat → Nat} {q : Nat → Nat → Nat} {cA : Nat → ClassId} {D : va_G} (d : Dk) (x1 : Int32) {z : Int32} (hf : gn_delegateToday d x1 = some z) : CtV yL_delegateToday (.codeWith yL_delegateToday cL_delegateToday 3 (some .int) [(0, 5, 6, 23)]) rmN_delegateToday [.ref (q0 0), .int x1] D cA (kW q0 q cA d) (kW q0 q cA d) (.int z) 0 0 := by
  unfold gn_delegateToday at hf
  by_cases hn : d.1 ≤ 6
  rotate_left
  · rw [if_neg hn] at hf
    cases hf
  rw [if_pos hn] at hf
  cases hq : f_X4_delegateToday d.1 d.2.1 d.2.2 x1 with
  | none => rw [hq] at hf; cases hf
  | some y =>
    rw [hq] at hf
    cases y with
    | inl E =>
      cases hf
    | inr z =>
      cases hf
      refine vxL_ofH (Qc := fun sz => PostU D (kW q0 q cA d) (kW q0 q cA d) sz (some (.int z))) (by decide) (Nat.le_of_ble_eq_true rfl) ?_
      intro p l e s m below meth c ls hl0 C hr htab hXA hN hR0 h hl
      have C : Cx p s m _ meth c cL_delegateToday 3 RL D cA := C
      obtain ⟨hx, hb, hml, hown, hts, hK, hlk⟩ := id C
      replace hl : lv_has ls 3 [(0, .ref (q0 0)), (1, .int x1)] := hl
      have hX := hXA.toXG
      replace h : St D (va_A (kW q0 q cA d) s.heap.size) s.heap (sW d.1 q0 q cA d.2.1 d.2.2) s.heap [] := h
      replace hR0 : SR D s.heap (sW d.1 q0 q cA d.2.1 d.2.2) s.heap [] := hR0
      refine lv_aload_n (pc := 0) hx hb dL_delegateToday_0 rfl (lv_at hl 0 rfl) ?_
      refine lv_iload_n (pc := 1) hx hb dL_delegateToday_1 rfl (lv_at hl 1 rfl) ?_
      refine call_VR (pc := 2) (As := [.int x1]) (rest := []) C h (k_X4_delegateToday hn d.2.1 d.2.2 x1 hq) cw_L_60 0 (sW_c0 ..) rfl (List.range (sW d.1 q0 q cA d.2.1 d.2.2).length) (full_map _) (nd_of _ List.nodup_range) rfl rfl hl.1 (Nat.le_of_ble_eq_true rfl) dL_delegateToday_2 ⟨(Nat.le_of_ble_eq_true rfl), (Nat.le_of_ble_eq_true rfl)⟩ rfl rfl ⟨(Nat.le_of_ble_eq_true rfl), (Nat.le_of_ble_eq_true rfl)⟩ (fun H locs h => ?_)
      refine W.eq (g2 := F0 m 5 ls [.int z]) rfl ?_
      exact end_i (pc := 5) C hr (by decide) (by decide) h dL_delegateToday_5
set_option maxHeartbeats 400000 in
set_option maxRecDepth 100000 in
theorem vm_delegateToday {q0 : Nat → Nat} {q : Nat → Nat → Nat} {cA : Nat → ClassId} {D : va_G} (d : Dk) (x1 : Int32) {z : Int32} (hf : gm_delegateToday d x1 = some z) : CtV yL_delegateToday (.codeWith yL_delegateToday cL_delegateToday 3 (some .int) [(0, 5, 6, 23)]) rmW_delegateToday [.ref (q0 0), .int x1] D cA (kW q0 q cA d) (kW q0 q cA d) (.int z) 1 6 := by
  unfold gm_delegateToday at hf
  by_cases hn : d.1 ≤ 6
  rotate_left
  · rw [if_neg hn] at hf
    cases hf
  rw [if_pos hn] at hf
  cases hq : f_X4_delegateToday d.1 d.2.1 d.2.2 x1 with
  | none => rw [hq] at hf; cases hf
  | some y =>
    rw [hq] at hf
    cases y with
    | inl E =>
      cases hf
      rcases E_X4_delegateToday hq with h9
      · subst h9
        rw [show cE IOB = (-1000001 : Int32) from cE_IOB]
        refine vxL_ofH (Qc := fun sz => PostU D (kW q0 q cA d) (kW q0 q cA d) sz (some (.int (-1000001 : Int32)))) (by decide) (Nat.le_of_ble_eq_true rfl) ?_
        intro p l e s m below meth c ls hl0 C hr htab hXA hN hR0 h hl
        have C : Cx p s m _ meth c cL_delegateToday 3 RL D cA := C
        obtain ⟨hx, hb, hml, hown, hts, hK, hlk⟩ := id C
        replace hl : lv_has ls 3 [(0, .ref (q0 0)), (1, .int x1)] := hl
        have hX := hXA.toXG
        replace h : St D (va_A (kW q0 q cA d) s.heap.size) s.heap (sW d.1 q0 q cA d.2.1 d.2.2) s.heap [] := h
        replace hR0 : SR D s.heap (sW d.1 q0 q cA d.2.1 d.2.2) s.heap [] := hR0
        refine lv_aload_n (pc := 0) hx hb dL_delegateToday_0 rfl (lv_at hl 0 rfl) ?_
        refine lv_iload_n (pc := 1) hx hb dL_delegateToday_1 rfl (lv_at hl 1 rfl) ?_
        refine call_C (pc := 2) (hpc := 6) (As := [.int x1]) (rest := []) (E := IOB) C hl0 hX hR0 h (kT_X4_delegateToday hn d.2.1 d.2.2 x1 hq) cw_L_60 0 (sW_c0 ..) rfl (List.range (sW d.1 q0 q cA d.2.1 d.2.2).length) (full_map _) (nd_of _ List.nodup_range) rfl rfl hl.1 (Nat.le_of_ble_eq_true rfl) dL_delegateToday_2 ⟨(Nat.le_of_ble_eq_true rfl), (Nat.le_of_ble_eq_true rfl)⟩ rfl rfl ⟨(Nat.le_of_ble_eq_true rfl), (Nat.le_of_ble_eq_true rfl)⟩ (fun H1 locs1 q9 ce h1 h2 h3 k => vx_catch (name := IOB) hown [] ⟨0, 5, 6, 23⟩ [] (htab.trans rfl) (fun z hz => by cases hz) (by decide) (by decide) (hts _ cl_23) (cast_ok hX.2.1 cs1.1) h1 h2 h3 k) (fun q9 H locs h => ?_)
        refine lv_astore_n (pc := 6) (lv' := [(2, .ref q9), (0, .ref (q0 0)), (1, .int x1)]) hx hb dL_delegateToday_6 rfl hl (by decide) rfl (fun ls hl => ?_)
        refine lv_ldc (pc := 7) (v := -1000001) hx hb hown (hts _ kc_L_25) dL_delegateToday_7 ?_
        exact end_i (pc := 9) C hr (by decide) (by decide) h dL_delegateToday_9
    | inr z =>
      cases hf
      refine vxL_ofH (Qc := fun sz => PostU D (kW q0 q cA d) (kW q0 q cA d) sz (some (.int z))) (by decide) (Nat.le_of_ble_eq_true rfl) ?_
      intro p l e s m below meth c ls hl0 C hr htab hXA hN hR0 h hl
      have C : Cx p s m _ meth c cL_delegateToday 3 RL D cA := C
      obtain ⟨hx, hb, hml, hown, hts, hK, hlk⟩ := id C
      replace hl : lv_has ls 3 [(0, .ref (q0 0)), (1, .int x1)] := hl
      have hX := hXA.toXG
      replace h : St D (va_A (kW q0 q cA d) s.heap.size) s.heap (sW d.1 q0 q cA d.2.1 d.2.2) s.heap [] := h
      replace hR0 : SR D s.heap (sW d.1 q0 q cA d.2.1 d.2.2) s.heap [] := hR0
      refine lv_aload_n (pc := 0) hx hb dL_delegateToday_0 rfl (lv_at hl 0 rfl) ?_
      refine lv_iload_n (pc := 1) hx hb dL_delegateToday_1 rfl (lv_at hl 1 rfl) ?_
      refine call_VR (pc := 2) (As := [.int x1]) (rest := []) C h (k_X4_delegateToday hn d.2.1 d.2.2 x1 hq) cw_L_60 0 (sW_c0 ..) rfl (List.range (sW d.1 q0 q cA d.2.1 d.2.2).length) (full_map _) (nd_of _ List.nodup_range) rfl rfl hl.1 (Nat.le_of_ble_eq_true rfl) dL_delegateToday_2 ⟨(Nat.le_of_ble_eq_true rfl), (Nat.le_of_ble_eq_true rfl)⟩ rfl rfl ⟨(Nat.le_of_ble_eq_true rfl), (Nat.le_of_ble_eq_true rfl)⟩ (fun H locs h => ?_)
      refine W.eq (g2 := F0 m 5 ls [.int z]) rfl ?_
      exact end_i (pc := 5) C hr (by decide) (by decide) h dL_delegateToday_5
abbrev rmN_signedFor : Room := { frames := 8, cells := 0, slots := 0, locals := 125 }
abbrev rmW_signedFor : Room := { frames := 8, cells := 1, slots := 6, locals := 125 }
def gn_signedFor (d : Dk) (x1 : Int32) : Option (Int32) := if d.1 ≤ 6 then match f_X4_signedFor d.1 d.2.1 d.2.2 x1 with | some (.inr z) => some z | _ => none else none
def gm_signedFor (d : Dk) (x1 : Int32) : Option (Int32) := if d.1 ≤ 6 then match f_X4_signedFor d.1 d.2.1 d.2.2 x1 with | some (.inr z) => some z | some (.inl E) => some (cE E) | none => none else none
set_option maxHeartbeats 400000 in
set_option maxRecDepth 100000 in
theorem vn_signedFor {q0 : Nat → Nat} {q : Nat → Nat → Nat} {cA : Nat → ClassId} {D : va_G} (d : Dk) (x1 : Int32) {z : Int32} (hf : gn_signedFor d x1 = some z) : CtV yL_signedFor (.codeWith yL_signedFor cL_signedFor 3 (some .int) [(0, 5, 6, 23)]) rmN_signedFor [.ref (q0 0), .int x1] D cA (kW q0 q cA d) (kW q0 q cA d) (.int z) 0 0 := by
  unfold gn_signedFor at hf
  by_cases hn : d.1 ≤ 6
  rotate_left
  · rw [if_neg hn] at hf
    cases hf
  rw [if_pos hn] at hf
  cases hq : f_X4_signedFor d.1 d.2.1 d.2.2 x1 with
  | none => rw [hq] at hf; cases hf
  | some y =>
    rw [hq] at hf
    cases y with
    | inl E =>
      cases hf
    | inr z =>
      cases hf
      refine vxL_ofH (Qc := fun sz => PostU D (kW q0 q cA d) (kW q0 q cA d) sz (some (.int z))) (by decide) (Nat.le_of_ble_eq_true rfl) ?_
      intro p l e s m below meth c ls hl0 C hr htab hXA hN hR0 h hl
      have C : Cx p s m _ meth c cL_signedFor 3 RL D cA := C
      obtain ⟨hx, hb, hml, hown, hts, hK, hlk⟩ := id C
      replace hl : lv_has ls 3 [(0, .ref (q0 0)), (1, .int x1)] := hl
      have hX := hXA.toXG
      replace h : St D (va_A (kW q0 q cA d) s.heap.size) s.heap (sW d.1 q0 q cA d.2.1 d.2.2) s.heap [] := h
      replace hR0 : SR D s.heap (sW d.1 q0 q cA d.2.1 d.2.2) s.heap [] := hR0
      refine lv_aload_n (pc := 0) hx hb dL_signedFor_0 rfl (lv_at hl 0 rfl) ?_
      refine lv_iload_n (pc := 1) hx hb dL_signedFor_1 rfl (lv_at hl 1 rfl) ?_
      refine call_VR (pc := 2) (As := [.int x1]) (rest := []) C h (k_X4_signedFor hn d.2.1 d.2.2 x1 hq) cw_L_63 0 (sW_c0 ..) rfl (List.range (sW d.1 q0 q cA d.2.1 d.2.2).length) (full_map _) (nd_of _ List.nodup_range) rfl rfl hl.1 (Nat.le_of_ble_eq_true rfl) dL_signedFor_2 ⟨(Nat.le_of_ble_eq_true rfl), (Nat.le_of_ble_eq_true rfl)⟩ rfl rfl ⟨(Nat.le_of_ble_eq_true rfl), (Nat.le_of_ble_eq_true rfl)⟩ (fun H locs h => ?_)
      refine W.eq (g2 := F0 m 5 ls [.int z]) rfl ?_
      exact end_i (pc := 5) C hr (by decide) (by decide) h dL_signedFor_5
set_option maxHeartbeats 400000 in
set_option maxRecDepth 100000 in
theorem vm_signedFor {q0 : Nat → Nat} {q : Nat → Nat → Nat} {cA : Nat → ClassId} {D : va_G} (d : Dk) (x1 : Int32) {z : Int32} (hf : gm_signedFor d x1 = some z) : CtV yL_signedFor (.codeWith yL_signedFor cL_signedFor 3 (some .int) [(0, 5, 6, 23)]) rmW_signedFor [.ref (q0 0), .int x1] D cA (kW q0 q cA d) (kW q0 q cA d) (.int z) 1 6 := by
  unfold gm_signedFor at hf
  by_cases hn : d.1 ≤ 6
  rotate_left
  · rw [if_neg hn] at hf
    cases hf
  rw [if_pos hn] at hf
  cases hq : f_X4_signedFor d.1 d.2.1 d.2.2 x1 with
  | none => rw [hq] at hf; cases hf
  | some y =>
    rw [hq] at hf
    cases y with
    | inl E =>
      cases hf
      rcases E_X4_signedFor hq with h9
      · subst h9
        rw [show cE IOB = (-1000001 : Int32) from cE_IOB]
        refine vxL_ofH (Qc := fun sz => PostU D (kW q0 q cA d) (kW q0 q cA d) sz (some (.int (-1000001 : Int32)))) (by decide) (Nat.le_of_ble_eq_true rfl) ?_
        intro p l e s m below meth c ls hl0 C hr htab hXA hN hR0 h hl
        have C : Cx p s m _ meth c cL_signedFor 3 RL D cA := C
        obtain ⟨hx, hb, hml, hown, hts, hK, hlk⟩ := id C
        replace hl : lv_has ls 3 [(0, .ref (q0 0)), (1, .int x1)] := hl
        have hX := hXA.toXG
        replace h : St D (va_A (kW q0 q cA d) s.heap.size) s.heap (sW d.1 q0 q cA d.2.1 d.2.2) s.heap [] := h
        replace hR0 : SR D s.heap (sW d.1 q0 q cA d.2.1 d.2.2) s.heap [] := hR0
        refine lv_aload_n (pc := 0) hx hb dL_signedFor_0 rfl (lv_at hl 0 rfl) ?_
        refine lv_iload_n (pc := 1) hx hb dL_signedFor_1 rfl (lv_at hl 1 rfl) ?_
        refine call_C (pc := 2) (hpc := 6) (As := [.int x1]) (rest := []) (E := IOB) C hl0 hX hR0 h (kT_X4_signedFor hn d.2.1 d.2.2 x1 hq) cw_L_63 0 (sW_c0 ..) rfl (List.range (sW d.1 q0 q cA d.2.1 d.2.2).length) (full_map _) (nd_of _ List.nodup_range) rfl rfl hl.1 (Nat.le_of_ble_eq_true rfl) dL_signedFor_2 ⟨(Nat.le_of_ble_eq_true rfl), (Nat.le_of_ble_eq_true rfl)⟩ rfl rfl ⟨(Nat.le_of_ble_eq_true rfl), (Nat.le_of_ble_eq_true rfl)⟩ (fun H1 locs1 q9 ce h1 h2 h3 k => vx_catch (name := IOB) hown [] ⟨0, 5, 6, 23⟩ [] (htab.trans rfl) (fun z hz => by cases hz) (by decide) (by decide) (hts _ cl_23) (cast_ok hX.2.1 cs1.1) h1 h2 h3 k) (fun q9 H locs h => ?_)
        refine lv_astore_n (pc := 6) (lv' := [(2, .ref q9), (0, .ref (q0 0)), (1, .int x1)]) hx hb dL_signedFor_6 rfl hl (by decide) rfl (fun ls hl => ?_)
        refine lv_ldc (pc := 7) (v := -1000001) hx hb hown (hts _ kc_L_25) dL_signedFor_7 ?_
        exact end_i (pc := 9) C hr (by decide) (by decide) h dL_signedFor_9
    | inr z =>
      cases hf
      refine vxL_ofH (Qc := fun sz => PostU D (kW q0 q cA d) (kW q0 q cA d) sz (some (.int z))) (by decide) (Nat.le_of_ble_eq_true rfl) ?_
      intro p l e s m below meth c ls hl0 C hr htab hXA hN hR0 h hl
      have C : Cx p s m _ meth c cL_signedFor 3 RL D cA := C
      obtain ⟨hx, hb, hml, hown, hts, hK, hlk⟩ := id C
      replace hl : lv_has ls 3 [(0, .ref (q0 0)), (1, .int x1)] := hl
      have hX := hXA.toXG
      replace h : St D (va_A (kW q0 q cA d) s.heap.size) s.heap (sW d.1 q0 q cA d.2.1 d.2.2) s.heap [] := h
      replace hR0 : SR D s.heap (sW d.1 q0 q cA d.2.1 d.2.2) s.heap [] := hR0
      refine lv_aload_n (pc := 0) hx hb dL_signedFor_0 rfl (lv_at hl 0 rfl) ?_
      refine lv_iload_n (pc := 1) hx hb dL_signedFor_1 rfl (lv_at hl 1 rfl) ?_
      refine call_VR (pc := 2) (As := [.int x1]) (rest := []) C h (k_X4_signedFor hn d.2.1 d.2.2 x1 hq) cw_L_63 0 (sW_c0 ..) rfl (List.range (sW d.1 q0 q cA d.2.1 d.2.2).length) (full_map _) (nd_of _ List.nodup_range) rfl rfl hl.1 (Nat.le_of_ble_eq_true rfl) dL_signedFor_2 ⟨(Nat.le_of_ble_eq_true rfl), (Nat.le_of_ble_eq_true rfl)⟩ rfl rfl ⟨(Nat.le_of_ble_eq_true rfl), (Nat.le_of_ble_eq_true rfl)⟩ (fun H locs h => ?_)
      refine W.eq (g2 := F0 m 5 ls [.int z]) rfl ?_
      exact end_i (pc := 5) C hr (by decide) (by decide) h dL_signedFor_5
abbrev rmN_roundOf : Room := { frames := 8, cells := 0, slots := 0, locals := 127 }
abbrev rmW_roundOf : Room := { frames := 8, cells := 1, slots := 6, locals := 127 }
def gn_roundOf (d : Dk) (x1 x2 : Int32) : Option (Int32) := if d.1 ≤ 6 then match f_X4_roundOf d.1 d.2.1 d.2.2 x1 x2 with | some (.inr z) => some z | _ => none else none
def gm_roundOf (d : Dk) (x1 x2 : Int32) : Option (Int32) := if d.1 ≤ 6 then match f_X4_roundOf d.1 d.2.1 d.2.2 x1 x2 with | some (.inr z) => some z | some (.inl E) => some (cE E) | none => none else none
set_option maxHeartbeats 400000 in
set_option maxRecDepth 100000 in
theorem vn_roundOf {q0 : Nat → Nat} {q : Nat → Nat → Nat} {cA : Nat → ClassId} {D : va_G} (d : Dk) (x1 x2 : Int32) {z : Int32} (hf : gn_roundOf d x1 x2 = some z) : CtV yL_roundOf (.codeWith yL_roundOf cL_roundOf 4 (some .int) [(0, 6, 7, 23)]) rmN_roundOf [.ref (q0 0), .int x1, .int x2] D cA (kW q0 q cA d) (kW q0 q cA d) (.int z) 0 0 := by
  unfold gn_roundOf at hf
  by_cases hn : d.1 ≤ 6
  rotate_left
  · rw [if_neg hn] at hf
    cases hf
  rw [if_pos hn] at hf
  cases hq : f_X4_roundOf d.1 d.2.1 d.2.2 x1 x2 with
  | none => rw [hq] at hf; cases hf
  | some y =>
    rw [hq] at hf
    cases y with
    | inl E =>
      cases hf
    | inr z =>
      cases hf
      refine vxL_ofH (Qc := fun sz => PostU D (kW q0 q cA d) (kW q0 q cA d) sz (some (.int z))) (by decide) (Nat.le_of_ble_eq_true rfl) ?_
      intro p l e s m below meth c ls hl0 C hr htab hXA hN hR0 h hl
      have C : Cx p s m _ meth c cL_roundOf 4 RL D cA := C
      obtain ⟨hx, hb, hml, hown, hts, hK, hlk⟩ := id C
      replace hl : lv_has ls 4 [(0, .ref (q0 0)), (1, .int x1), (2, .int x2)] := hl
      have hX := hXA.toXG
      replace h : St D (va_A (kW q0 q cA d) s.heap.size) s.heap (sW d.1 q0 q cA d.2.1 d.2.2) s.heap [] := h
      replace hR0 : SR D s.heap (sW d.1 q0 q cA d.2.1 d.2.2) s.heap [] := hR0
      refine lv_aload_n (pc := 0) hx hb dL_roundOf_0 rfl (lv_at hl 0 rfl) ?_
      refine lv_iload_n (pc := 1) hx hb dL_roundOf_1 rfl (lv_at hl 1 rfl) ?_
      refine lv_iload_n (pc := 2) hx hb dL_roundOf_2 rfl (lv_at hl 2 rfl) ?_
      refine call_VR (pc := 3) (As := [.int x1, .int x2]) (rest := []) C h (k_X4_roundOf hn d.2.1 d.2.2 x1 x2 hq) cw_L_95 0 (sW_c0 ..) rfl (List.range (sW d.1 q0 q cA d.2.1 d.2.2).length) (full_map _) (nd_of _ List.nodup_range) rfl rfl hl.1 (Nat.le_of_ble_eq_true rfl) dL_roundOf_3 ⟨(Nat.le_of_ble_eq_true rfl), (Nat.le_of_ble_eq_true rfl)⟩ rfl rfl ⟨(Nat.le_of_ble_eq_true rfl), (Nat.le_of_ble_eq_true rfl)⟩ (fun H locs h => ?_)
      refine W.eq (g2 := F0 m 6 ls [.int z]) rfl ?_
      exact end_i (pc := 6) C hr (by decide) (by decide) h dL_roundOf_6
set_option maxHeartbeats 400000 in
set_option maxRecDepth 100000 in
theorem vm_roundOf {q0 : Nat → Nat} {q : Nat → Nat → Nat} {cA : Nat → ClassId} {D : va_G} (d : Dk) (x1 x2 : Int32) {z : Int32} (hf : gm_roundOf d x1 x2 = some z) : CtV yL_roundOf (.codeWith yL_roundOf cL_roundOf 4 (some .int) [(0, 6, 7, 23)]) rmW_roundOf [.ref (q0 0), .int x1, .int x2] D cA (kW q0 q cA d) (kW q0 q cA d) (.int z) 1 6 := by
  unfold gm_roundOf at hf
  by_cases hn : d.1 ≤ 6
  rotate_left
  · rw [if_neg hn] at hf
    cases hf
  rw [if_pos hn] at hf
  cases hq : f_X4_roundOf d.1 d.2.1 d.2.2 x1 x2 with
  | none => rw [hq] at hf; cases hf
  | some y =>
    rw [hq] at hf
    cases y with
    | inl E =>
      cases hf
      rcases E_X4_roundOf hq with h9
      · subst h9
        rw [show cE IOB = (-1000001 : Int32) from cE_IOB]
        refine vxL_ofH (Qc := fun sz => PostU D (kW q0 q cA d) (kW q0 q cA d) sz (some (.int (-1000001 : Int32)))) (by decide) (Nat.le_of_ble_eq_true rfl) ?_
        intro p l e s m below meth c ls hl0 C hr htab hXA hN hR0 h hl
        have C : Cx p s m _ meth c cL_roundOf 4 RL D cA := C
        obtain ⟨hx, hb, hml, hown, hts, hK, hlk⟩ := id C
        replace hl : lv_has ls 4 [(0, .ref (q0 0)), (1, .int x1), (2, .int x2)] := hl
        have hX := hXA.toXG
        replace h : St D (va_A (kW q0 q cA d) s.heap.size) s.heap (sW d.1 q0 q cA d.2.1 d.2.2) s.heap [] := h
        replace hR0 : SR D s.heap (sW d.1 q0 q cA d.2.1 d.2.2) s.heap [] := hR0
        refine lv_aload_n (pc := 0) hx hb dL_roundOf_0 rfl (lv_at hl 0 rfl) ?_
        refine lv_iload_n (pc := 1) hx hb dL_roundOf_1 rfl (lv_at hl 1 rfl) ?_
        refine lv_iload_n (pc := 2) hx hb dL_roundOf_2 rfl (lv_at hl 2 rfl) ?_
        refine call_C (pc := 3) (hpc := 7) (As := [.int x1, .int x2]) (rest := []) (E := IOB) C hl0 hX hR0 h (kT_X4_roundOf hn d.2.1 d.2.2 x1 x2 hq) cw_L_95 0 (sW_c0 ..) rfl (List.range (sW d.1 q0 q cA d.2.1 d.2.2).length) (full_map _) (nd_of _ List.nodup_range) rfl rfl hl.1 (Nat.le_of_ble_eq_true rfl) dL_roundOf_3 ⟨(Nat.le_of_ble_eq_true rfl), (Nat.le_of_ble_eq_true rfl)⟩ rfl rfl ⟨(Nat.le_of_ble_eq_true rfl), (Nat.le_of_ble_eq_true rfl)⟩ (fun H1 locs1 q9 ce h1 h2 h3 k => vx_catch (name := IOB) hown [] ⟨0, 6, 7, 23⟩ [] (htab.trans rfl) (fun z hz => by cases hz) (by decide) (by decide) (hts _ cl_23) (cast_ok hX.2.1 cs1.1) h1 h2 h3 k) (fun q9 H locs h => ?_)
        refine lv_astore_n (pc := 7) (lv' := [(3, .ref q9), (0, .ref (q0 0)), (1, .int x1), (2, .int x2)]) hx hb dL_roundOf_7 rfl hl (by decide) rfl (fun ls hl => ?_)
        refine lv_ldc (pc := 8) (v := -1000001) hx hb hown (hts _ kc_L_25) dL_roundOf_8 ?_
        exact end_i (pc := 10) C hr (by decide) (by decide) h dL_roundOf_10
    | inr z =>
      cases hf
      refine vxL_ofH (Qc := fun sz => PostU D (kW q0 q cA d) (kW q0 q cA d) sz (some (.int z))) (by decide) (Nat.le_of_ble_eq_true rfl) ?_
      intro p l e s m below meth c ls hl0 C hr htab hXA hN hR0 h hl
      have C : Cx p s m _ meth c cL_roundOf 4 RL D cA := C
      obtain ⟨hx, hb, hml, hown, hts, hK, hlk⟩ := id C
      replace hl : lv_has ls 4 [(0, .ref (q0 0)), (1, .int x1), (2, .int x2)] := hl
      have hX := hXA.toXG
      replace h : St D (va_A (kW q0 q cA d) s.heap.size) s.heap (sW d.1 q0 q cA d.2.1 d.2.2) s.heap [] := h
      replace hR0 : SR D s.heap (sW d.1 q0 q cA d.2.1 d.2.2) s.heap [] := hR0
      refine lv_aload_n (pc := 0) hx hb dL_roundOf_0 rfl (lv_at hl 0 rfl) ?_
      refine lv_iload_n (pc := 1) hx hb dL_roundOf_1 rfl (lv_at hl 1 rfl) ?_
      refine lv_iload_n (pc := 2) hx hb dL_roundOf_2 rfl (lv_at hl 2 rfl) ?_
      refine call_VR (pc := 3) (As := [.int x1, .int x2]) (rest := []) C h (k_X4_roundOf hn d.2.1 d.2.2 x1 x2 hq) cw_L_95 0 (sW_c0 ..) rfl (List.range (sW d.1 q0 q cA d.2.1 d.2.2).length) (full_map _) (nd_of _ List.nodup_range) rfl rfl hl.1 (Nat.le_of_ble_eq_true rfl) dL_roundOf_3 ⟨(Nat.le_of_ble_eq_true rfl), (Nat.le_of_ble_eq_true rfl)⟩ rfl rfl ⟨(Nat.le_of_ble_eq_true rfl), (Nat.le_of_ble_eq_true rfl)⟩ (fun H locs h => ?_)
      refine W.eq (g2 := F0 m 6 ls [.int z]) rfl ?_
      exact end_i (pc := 6) C hr (by decide) (by decide) h dL_roundOf_6
abbrev rmN_ahead : Room := { frames := 8, cells := 0, slots := 0, locals := 127 }
abbrev rmW_ahead : Room := { frames := 8, cells := 1, slots := 6, locals := 127 }
def gn_ahead (d : Dk) (x1 x2 : Int32) : Option (Int32) := if d.1 ≤ 6 then match f_X4_ahead d.1 d.2.1 d.2.2 x1 x2 with | some (.inr z) => some z | _ => none else none
def gm_ahead (d : Dk) (x1 x2 : Int32) : Option (Int32) := if d.1 ≤ 6 then match f_X4_ahead d.1 d.2.1 d.2.2 x1 x2 with | some (.inr z) => some z | some (.inl E) => some (cE E) | none => none else none
set_option maxHeartbeats 400000 in
set_option maxRecDepth 100000 in
theorem vn_ahead {q0 : Nat → Nat} {q : Nat → Nat → Nat} {cA : Nat → ClassId} {D : va_G} (d : Dk) (x1 x2 : Int32) {z : Int32} (hf : gn_ahead d x1 x2 = some z) : CtV yL_ahead (.codeWith yL_ahead cL_ahead 4 (some .int) [(0, 6, 7, 23)]) rmN_ahead [.ref (q0 0), .int x1, .int x2] D cA (kW q0 q cA d) (kW q0 q cA d) (.int z) 0 0 := by
  unfold gn_ahead at hf
  by_cases hn : d.1 ≤ 6
  rotate_left
  · rw [if_neg hn] at hf
    cases hf
  rw [if_pos hn] at hf
  cases hq : f_X4_ahead d.1 d.2.1 d.2.2 x1 x2 with
  | none => rw [hq] at hf; cases hf
  | some y =>
    rw [hq] at hf
    cases y with
    | inl E =>
      cases hf
    | inr z =>
      cases hf
      refine vxL_ofH (Qc := fun sz => PostU D (kW q0 q cA d) (kW q0 q cA d) sz (some (.int z))) (by decide) (Nat.le_of_ble_eq_true rfl) ?_
      intro p l e s m below meth c ls hl0 C hr htab hXA hN hR0 h hl
      have C : Cx p s m _ meth c cL_ahead 4 RL D cA := C
      obtain ⟨hx, hb, hml, hown, hts, hK, hlk⟩ := id C
      replace hl : lv_has ls 4 [(0, .ref (q0 0)), (1, .int x1), (2, .int x2)] := hl
      have hX := hXA.toXG
      replace h : St D (va_A (kW q0 q cA d) s.heap.size) s.heap (sW d.1 q0 q cA d.2.1 d.2.2) s.heap [] := h
      replace hR0 : SR D s.heap (sW d.1 q0 q cA d.2.1 d.2.2) s.heap [] := hR0
      refine lv_aload_n (pc := 0) hx hb dL_ahead_0 rfl (lv_at hl 0 rfl) ?_
      refine lv_iload_n (pc := 1) hx hb dL_ahead_1 rfl (lv_at hl 1 rfl) ?_
      refine lv_iload_n (pc := 2) hx hb dL_ahead_2 rfl (lv_at hl 2 rfl) ?_
      refine call_VR (pc := 3) (As := [.int x1, .int x2]) (rest := []) C h (k_X4_ahead hn d.2.1 d.2.2 x1 x2 hq) cw_L_92 0 (sW_c0 ..) rfl (List.range (sW d.1 q0 q cA d.2.1 d.2.2).length) (full_map _) (nd_of _ List.nodup_range) rfl rfl hl.1 (Nat.le_of_ble_eq_true rfl) dL_ahead_3 ⟨(Nat.le_of_ble_eq_true rfl), (Nat.le_of_ble_eq_true rfl)⟩ rfl rfl ⟨(Nat.le_of_ble_eq_true rfl), (Nat.le_of_ble_eq_true rfl)⟩ (fun H locs h => ?_)
      refine W.eq (g2 := F0 m 6 ls [.int z]) rfl ?_
      exact end_i (pc := 6) C hr (by decide) (by decide) h dL_ahead_6
set_option maxHeartbeats 400000 in
set_option maxRecDepth 100000 in
theorem vm_ahead {q0 : Nat → Nat} {q : Nat → Nat → Nat} {cA : Nat → ClassId} {D : va_G} (d : Dk) (x1 x2 : Int32) {z : Int32} (hf : gm_ahead d x1 x2 = some z) : CtV yL_ahead (.codeWith yL_ahead cL_ahead 4 (some .int) [(0, 6, 7, 23)]) rmW_ahead [.ref (q0 0), .int x1, .int x2] D cA (kW q0 q cA d) (kW q0 q cA d) (.int z) 1 6 := by
  unfold gm_ahead at hf
  by_cases hn : d.1 ≤ 6
  rotate_left
  · rw [if_neg hn] at hf
    cases hf
  rw [if_pos hn] at hf
  cases hq : f_X4_ahead d.1 d.2.1 d.2.2 x1 x2 with
  | none => rw [hq] at hf; cases hf
  | some y =>
    rw [hq] at hf
    cases y with
    | inl E =>
      cases hf
      rcases E_X4_ahead hq with h9
      · subst h9
        rw [show cE IOB = (-1000001 : Int32) from cE_IOB]
        refine vxL_ofH (Qc := fun sz => PostU D (kW q0 q cA d) (kW q0 q cA d) sz (some (.int (-1000001 : Int32)))) (by decide) (Nat.le_of_ble_eq_true rfl) ?_
        intro p l e s m below meth c ls hl0 C hr htab hXA hN hR0 h hl
        have C : Cx p s m _ meth c cL_ahead 4 RL D cA := C
        obtain ⟨hx, hb, hml, hown, hts, hK, hlk⟩ := id C
        replace hl : lv_has ls 4 [(0, .ref (q0 0)), (1, .int x1), (2, .int x2)] := hl
        have hX := hXA.toXG
        replace h : St D (va_A (kW q0 q cA d) s.heap.size) s.heap (sW d.1 q0 q cA d.2.1 d.2.2) s.heap [] := h
        replace hR0 : SR D s.heap (sW d.1 q0 q cA d.2.1 d.2.2) s.heap [] := hR0
        refine lv_aload_n (pc := 0) hx hb dL_ahead_0 rfl (lv_at hl 0 rfl) ?_
        refine lv_iload_n (pc := 1) hx hb dL_ahead_1 rfl (lv_at hl 1 rfl) ?_
        refine lv_iload_n (pc := 2) hx hb dL_ahead_2 rfl (lv_at hl 2 rfl) ?_
        refine call_C (pc := 3) (hpc := 7) (As := [.int x1, .int x2]) (rest := []) (E := IOB) C hl0 hX hR0 h (kT_X4_ahead hn d.2.1 d.2.2 x1 x2 hq) cw_L_92 0 (sW_c0 ..) rfl (List.range (sW d.1 q0 q cA d.2.1 d.2.2).length) (full_map _) (nd_of _ List.nodup_range) rfl rfl hl.1 (Nat.le_of_ble_eq_true rfl) dL_ahead_3 ⟨(Nat.le_of_ble_eq_true rfl), (Nat.le_of_ble_eq_true rfl)⟩ rfl rfl ⟨(Nat.le_of_ble_eq_true rfl), (Nat.le_of_ble_eq_true rfl)⟩ (fun H1 locs1 q9 ce h1 h2 h3 k => vx_catch (name := IOB) hown [] ⟨0, 6, 7, 23⟩ [] (htab.trans rfl) (fun z hz => by cases hz) (by decide) (by decide) (hts _ cl_23) (cast_ok hX.2.1 cs1.1) h1 h2 h3 k) (fun q9 H locs h => ?_)
        refine lv_astore_n (pc := 7) (lv' := [(3, .ref q9), (0, .ref (q0 0)), (1, .int x1), (2, .int x2)]) hx hb dL_ahead_7 rfl hl (by decide) rfl (fun ls hl => ?_)
        refine lv_ldc (pc := 8) (v := -1000001) hx hb hown (hts _ kc_L_25) dL_ahead_8 ?_
        exact end_i (pc := 10) C hr (by decide) (by decide) h dL_ahead_10
    | inr z =>
      cases hf
      refine vxL_ofH (Qc := fun sz => PostU D (kW q0 q cA d) (kW q0 q cA d) sz (some (.int z))) (by decide) (Nat.le_of_ble_eq_true rfl) ?_
      intro p l e s m below meth c ls hl0 C hr htab hXA hN hR0 h hl
      have C : Cx p s m _ meth c cL_ahead 4 RL D cA := C
      obtain ⟨hx, hb, hml, hown, hts, hK, hlk⟩ := id C
      replace hl : lv_has ls 4 [(0, .ref (q0 0)), (1, .int x1), (2, .int x2)] := hl
      have hX := hXA.toXG
      replace h : St D (va_A (kW q0 q cA d) s.heap.size) s.heap (sW d.1 q0 q cA d.2.1 d.2.2) s.heap [] := h
      replace hR0 : SR D s.heap (sW d.1 q0 q cA d.2.1 d.2.2) s.heap [] := hR0
      refine lv_aload_n (pc := 0) hx hb dL_ahead_0 rfl (lv_at hl 0 rfl) ?_
      refine lv_iload_n (pc := 1) hx hb dL_ahead_1 rfl (lv_at hl 1 rfl) ?_
      refine lv_iload_n (pc := 2) hx hb dL_ahead_2 rfl (lv_at hl 2 rfl) ?_
      refine call_VR (pc := 3) (As := [.int x1, .int x2]) (rest := []) C h (k_X4_ahead hn d.2.1 d.2.2 x1 x2 hq) cw_L_92 0 (sW_c0 ..) rfl (List.range (sW d.1 q0 q cA d.2.1 d.2.2).length) (full_map _) (nd_of _ List.nodup_range) rfl rfl hl.1 (Nat.le_of_ble_eq_true rfl) dL_ahead_3 ⟨(Nat.le_of_ble_eq_true rfl), (Nat.le_of_ble_eq_true rfl)⟩ rfl rfl ⟨(Nat.le_of_ble_eq_true rfl), (Nat.le_of_ble_eq_true rfl)⟩ (fun H locs h => ?_)
      refine W.eq (g2 := F0 m 6 ls [.int z]) rfl ?_
      exact end_i (pc := 6) C hr (by decide) (by decide) h dL_ahead_6
abbrev rmN_openBehind : Room := { frames := 8, cells := 0, slots := 0, locals := 127 }
abbrev rmW_openBehind : Room := { frames := 8, cells := 1, slots := 6, locals := 127 }
def gn_openBehind (d : Dk) (x1 x2 : Int32) : Option (Int32) := if d.1 ≤ 6 then match f_X4_openBehind d.1 d.2.1 d.2.2 x1 x2 with | some (.inr z) => some z | _ => none else none
def gm_openBehind (d : Dk) (x1 x2 : Int32) : Option (Int32) := if d.1 ≤ 6 then match f_X4_openBehind d.1 d.2.1 d.2.2 x1 x2 with | some (.inr z) => some z | some (.inl E) => some (cE E) | none => none else none
set_option maxHeartbeats 400000 in
set_option maxRecDepth 100000 in
theorem vn_openBehind {q0 : Nat → Nat} {q : Nat → Nat → Nat} {cA : Nat → ClassId} {D : va_G} (d : Dk) (x1 x2 : Int32) {z : Int32} (hf : gn_openBehind d x1 x2 = some z) : CtV yL_openBehind (.codeWith yL_openBehind cL_openBehind 4 (some .int) [(0, 6, 7, 23)]) rmN_openBehind [.ref (q0 0), .int x1, .int x2] D cA (kW q0 q cA d) (kW q0 q cA d) (.int z) 0 0 := by
  unfold gn_openBehind at hf
  by_cases hn : d.1 ≤ 6
  rotate_left
  · rw [if_neg hn] at hf
    cases hf
  rw [if_pos hn] at hf
  cases hq : f_X4_openBehind d.1 d.2.1 d.2.2 x1 x2 with
  | none => rw [hq] at hf; cases hf
  | some y =>
    rw [hq] at hf
    cases y with
    | inl E =>
      cases hf
    | inr z =>
      cases hf
      refine vxL_ofH (Qc := fun sz => PostU D (kW q0 q cA d) (kW q0 q cA d) sz (some (.int z))) (by decide) (Nat.le_of_ble_eq_true rfl) ?_
      intro p l e s m below meth c ls hl0 C hr htab hXA hN hR0 h hl
      have C : Cx p s m _ meth c cL_openBehind 4 RL D cA := C
      obtain ⟨hx, hb, hml, hown, hts, hK, hlk⟩ := id C
      replace hl : lv_has ls 4 [(0, .ref (q0 0)), (1, .int x1), (2, .int x2)] := hl
      have hX := hXA.toXG
      replace h : St D (va_A (kW q0 q cA d) s.heap.size) s.heap (sW d.1 q0 q cA d.2.1 d.2.2) s.heap [] := h
      replace hR0 : SR D s.heap (sW d.1 q0 q cA d.2.1 d.2.2) s.heap [] := hR0
      refine lv_aload_n (pc := 0) hx hb dL_openBehind_0 rfl (lv_at hl 0 rfl) ?_
      refine lv_iload_n (pc := 1) hx hb dL_openBehind_1 rfl (lv_at hl 1 rfl) ?_
      refine lv_iload_n (pc := 2) hx hb dL_openBehind_2 rfl (lv_at hl 2 rfl) ?_
      refine call_VR (pc := 3) (As := [.int x1, .int x2]) (rest := []) C h (k_X4_openBehind hn d.2.1 d.2.2 x1 x2 hq) cw_L_125 0 (sW_c0 ..) rfl (List.range (sW d.1 q0 q cA d.2.1 d.2.2).length) (full_map _) (nd_of _ List.nodup_range) rfl rfl hl.1 (Nat.le_of_ble_eq_true rfl) dL_openBehind_3 ⟨(Nat.le_of_ble_eq_true rfl), (Nat.le_of_ble_eq_true rfl)⟩ rfl rfl ⟨(Nat.le_of_ble_eq_true rfl), (Nat.le_of_ble_eq_true rfl)⟩ (fun H locs h => ?_)
      refine W.eq (g2 := F0 m 6 ls [.int z]) rfl ?_
      exact end_i (pc := 6) C hr (by decide) (by decide) h dL_openBehind_6
set_option maxHeartbeats 400000 in
set_option maxRecDepth 100000 in
theorem vm_openBehind {q0 : Nat → Nat} {q : Nat → Nat → Nat} {cA : Nat → ClassId} {D : va_G} (d : Dk) (x1 x2 : Int32) {z : Int32} (hf : gm_openBehind d x1 x2 = some z) : CtV yL_openBehind (.codeWith yL_openBehind cL_openBehind 4 (some .int) [(0, 6, 7, 23)]) rmW_openBehind [.ref (q0 0), .int x1, .int x2] D cA (kW q0 q cA d) (kW q0 q cA d) (.int z) 1 6 := by
  unfold gm_openBehind at hf
  by_cases hn : d.1 ≤ 6
  rotate_left
  · rw [if_neg hn] at hf
    cases hf
  rw [if_pos hn] at hf
  cases hq : f_X4_openBehind d.1 d.2.1 d.2.2 x1 x2 with
  | none => rw [hq] at hf; cases hf
  | some y =>
    rw [hq] at hf
    cases y with
    | inl E =>
      cases hf
      rcases E_X4_openBehind hq with h9
      · subst h9
        rw [show cE IOB = (-1000001 : Int32) from cE_IOB]
        refine vxL_ofH (Qc := fun sz => PostU D (kW q0 q cA d) (kW q0 q cA d) sz (some (.int (-1000001 : Int32)))) (by decide) (Nat.le_of_ble_eq_true rfl) ?_
        intro p l e s m below meth c ls hl0 C hr htab hXA hN hR0 h hl
        have C : Cx p s m _ meth c cL_openBehind 4 RL D cA := C
        obtain ⟨hx, hb, hml, hown, hts, hK, hlk⟩ := id C
        replace hl : lv_has ls 4 [(0, .ref (q0 0)), (1, .int x1), (2, .int x2)] := hl
        have hX := hXA.toXG
        replace h : St D (va_A (kW q0 q cA d) s.heap.size) s.heap (sW d.1 q0 q cA d.2.1 d.2.2) s.heap [] := h
        replace hR0 : SR D s.heap (sW d.1 q0 q cA d.2.1 d.2.2) s.heap [] := hR0
        refine lv_aload_n (pc := 0) hx hb dL_openBehind_0 rfl (lv_at hl 0 rfl) ?_
        refine lv_iload_n (pc := 1) hx hb dL_openBehind_1 rfl (lv_at hl 1 rfl) ?_
        refine lv_iload_n (pc := 2) hx hb dL_openBehind_2 rfl (lv_at hl 2 rfl) ?_
        refine call_C (pc := 3) (hpc := 7) (As := [.int x1, .int x2]) (rest := []) (E := IOB) C hl0 hX hR0 h (kT_X4_openBehind hn d.2.1 d.2.2 x1 x2 hq) cw_L_125 0 (sW_c0 ..) rfl (List.range (sW d.1 q0 q cA d.2.1 d.2.2).length) (full_map _) (nd_of _ List.nodup_range) rfl rfl hl.1 (Nat.le_of_ble_eq_true rfl) dL_openBehind_3 ⟨(Nat.le_of_ble_eq_true rfl), (Nat.le_of_ble_eq_true rfl)⟩ rfl rfl ⟨(Nat.le_of_ble_eq_true rfl), (Nat.le_of_ble_eq_true rfl)⟩ (fun H1 locs1 q9 ce h1 h2 h3 k => vx_catch (name := IOB) hown [] ⟨0, 6, 7, 23⟩ [] (htab.trans rfl) (fun z hz => by cases hz) (by decide) (by decide) (hts _ cl_23) (cast_ok hX.2.1 cs1.1) h1 h2 h3 k) (fun q9 H locs h => ?_)
        refine lv_astore_n (pc := 7) (lv' := [(3, .ref q9), (0, .ref (q0 0)), (1, .int x1), (2, .int x2)]) hx hb dL_openBehind_7 rfl hl (by decide) rfl (fun ls hl => ?_)
        refine lv_ldc (pc := 8) (v := -1000001) hx hb hown (hts _ kc_L_25) dL_openBehind_8 ?_
        exact end_i (pc := 10) C hr (by decide) (by decide) h dL_openBehind_10
    | inr z =>
      cases hf
      refine vxL_ofH (Qc := fun sz => PostU D (kW q0 q cA d) (kW q0 q cA d) sz (some (.int z))) (by decide) (Nat.le_of_ble_eq_true rfl) ?_
      intro p l e s m below meth c ls hl0 C hr htab hXA hN hR0 h hl
      have C : Cx p s m _ meth c cL_openBehind 4 RL D cA := C
      obtain ⟨hx, hb, hml, hown, hts, hK, hlk⟩ := id C
      replace hl : lv_has ls 4 [(0, .ref (q0 0)), (1, .int x1), (2, .int x2)] := hl
      have hX := hXA.toXG
      replace h : St D (va_A (kW q0 q cA d) s.heap.size) s.heap (sW d.1 q0 q cA d.2.1 d.2.2) s.heap [] := h
      replace hR0 : SR D s.heap (sW d.1 q0 q cA d.2.1 d.2.2) s.heap [] := hR0
      refine lv_aload_n (pc := 0) hx hb dL_openBehind_0 rfl (lv_at hl 0 rfl) ?_
      refine lv_iload_n (pc := 1) hx hb dL_openBehind_1 rfl (lv_at hl 1 rfl) ?_
      refine lv_iload_n (pc := 2) hx hb dL_openBehind_2 rfl (lv_at hl 2 rfl) ?_
      refine call_VR (pc := 3) (As := [.int x1, .int x2]) (rest := []) C h (k_X4_openBehind hn d.2.1 d.2.2 x1 x2 hq) cw_L_125 0 (sW_c0 ..) rfl (List.range (sW d.1 q0 q cA d.2.1 d.2.2).length) (full_map _) (nd_of _ List.nodup_range) rfl rfl hl.1 (Nat.le_of_ble_eq_true rfl) dL_openBehind_3 ⟨(Nat.le_of_ble_eq_true rfl), (Nat.le_of_ble_eq_true rfl)⟩ rfl rfl ⟨(Nat.le_of_ble_eq_true rfl), (Nat.le_of_ble_eq_true rfl)⟩ (fun H locs h => ?_)
      refine W.eq (g2 := F0 m 6 ls [.int z]) rfl ?_
      exact end_i (pc := 6) C hr (by decide) (by decide) h dL_openBehind_6
abbrev rmN_stateBehind : Room := { frames := 8, cells := 0, slots := 0, locals := 127 }
abbrev rmW_stateBehind : Room := { frames := 8, cells := 1, slots := 6, locals := 127 }
def gn_stateBehind (d : Dk) (x1 x2 : Int32) : Option (Int32) := if d.1 ≤ 6 then match f_X4_stateBehind d.1 d.2.1 d.2.2 x1 x2 with | some (.inr z) => some z | _ => none else none
def gm_stateBehind (d : Dk) (x1 x2 : Int32) : Option (Int32) := if d.1 ≤ 6 then match f_X4_stateBehind d.1 d.2.1 d.2.2 x1 x2 with | some (.inr z) => some z | some (.inl E) => some (cE E) | none => none else none
set_option maxHeartbeats 400000 in
set_option maxRecDepth 100000 in
theorem vn_stateBehind {q0 : Nat → Nat} {q : Nat → Nat → Nat} {cA : Nat → ClassId} {D : va_G} (d : Dk) (x1 x2 : Int32) {z : Int32} (hf : gn_stateBehind d x1 x2 = some z) : CtV yL_stateBehind (.codeWith yL_stateBehind cL_stateBehind 4 (some .int) [(0, 6, 7, 23)]) rmN_stateBehind [.ref (q0 0), .int x1, .int x2] D cA (kW q0 q cA d) (kW q0 q cA d) (.int z) 0 0 := by
  unfold gn_stateBehind at hf
  by_cases hn : d.1 ≤ 6
  rotate_left
  · rw [if_neg hn] at hf
    cases hf
  rw [if_pos hn] at hf
  cases hq : f_X4_stateBehind d.1 d.2.1 d.2.2 x1 x2 with
  | none => rw [hq] at hf; cases hf
  | some y =>
    rw [hq] at hf
    cases y with
    | inl E =>
      cases hf
    | inr z =>
      cases hf
      refine vxL_ofH (Qc := fun sz => PostU D (kW q0 q cA d) (kW q0 q cA d) sz (some (.int z))) (by decide) (Nat.le_of_ble_eq_true rfl) ?_
      intro p l e s m below meth c ls hl0 C hr htab hXA hN hR0 h hl
      have C : Cx p s m _ meth c cL_stateBehind 4 RL D cA := C
      obtain ⟨hx, hb, hml, hown, hts, hK, hlk⟩ := id C
      replace hl : lv_has ls 4 [(0, .ref (q0 0)), (1, .int x1), (2, .int x2)] := hl
      have hX := hXA.toXG
      replace h : St D (va_A (kW q0 q cA d) s.heap.size) s.heap (sW d.1 q0 q cA d.2.1 d.2.2) s.heap [] := h
      replace hR0 : SR D s.heap (sW d.1 q0 q cA d.2.1 d.2.2) s.heap [] := hR0
      refine lv_aload_n (pc := 0) hx hb dL_stateBehind_0 rfl (lv_at hl 0 rfl) ?_
      refine lv_iload_n (pc := 1) hx hb dL_stateBehind_1 rfl (lv_at hl 1 rfl) ?_
      refine lv_iload_n (pc := 2) hx hb dL_stateBehind_2 rfl (lv_at hl 2 rfl) ?_
      refine call_VR (pc := 3) (As := [.int x1, .int x2]) (rest := []) C h (k_X4_stateBehind hn d.2.1 d.2.2 x1 x2 hq) cw_L_122 0 (sW_c0 ..) rfl (List.range (sW d.1 q0 q cA d.2.1 d.2.2).length) (full_map _) (nd_of _ List.nodup_range) rfl rfl hl.1 (Nat.le_of_ble_eq_true rfl) dL_stateBehind_3 ⟨(Nat.le_of_ble_eq_true rfl), (Nat.le_of_ble_eq_true rfl)⟩ rfl rfl ⟨(Nat.le_of_ble_eq_true rfl), (Nat.le_of_ble_eq_true rfl)⟩ (fun H locs h => ?_)
      refine W.eq (g2 := F0 m 6 ls [.int z]) rfl ?_
      exact end_i (pc := 6) C hr (by decide) (by decide) h dL_stateBehind_6
set_option maxHeartbeats 400000 in
set_option maxRecDepth 100000 in
theorem vm_stateBehind {q0 : Nat → Nat} {q : Nat → Nat → Nat} {cA : Nat → ClassId} {D : va_G} (d : Dk) (x1 x2 : Int32) {z : Int32} (hf : gm_stateBehind d x1 x2 = some z) : CtV yL_stateBehind (.codeWith yL_stateBehind cL_stateBehind 4 (some .int) [(0, 6, 7, 23)]) rmW_stateBehind [.ref (q0 0), .int x1, .int x2] D cA (kW q0 q cA d) (kW q0 q cA d) (.int z) 1 6 := by
  unfold gm_stateBehind at hf
  by_cases hn : d.1 ≤ 6
  rotate_left
  · rw [if_neg hn] at hf
    cases hf
  rw [if_pos hn] at hf
  cases hq : f_X4_stateBehind d.1 d.2.1 d.2.2 x1 x2 with
  | none => rw [hq] at hf; cases hf
  | some y =>
    rw [hq] at hf
    cases y with
    | inl E =>
      cases hf
      rcases E_X4_stateBehind hq with h9
      · subst h9
        rw [show cE IOB = (-1000001 : Int32) from cE_IOB]
        refine vxL_ofH (Qc := fun sz => PostU D (kW q0 q cA d) (kW q0 q cA d) sz (some (.int (-1000001 : Int32)))) (by decide) (Nat.le_of_ble_eq_true rfl) ?_
        intro p l e s m below meth c ls hl0 C hr htab hXA hN hR0 h hl
        have C : Cx p s m _ meth c cL_stateBehind 4 RL D cA := C
        obtain ⟨hx, hb, hml, hown, hts, hK, hlk⟩ := id C
        replace hl : lv_has ls 4 [(0, .ref (q0 0)), (1, .int x1), (2, .int x2)] := hl
        have hX := hXA.toXG
        replace h : St D (va_A (kW q0 q cA d) s.heap.size) s.heap (sW d.1 q0 q cA d.2.1 d.2.2) s.heap [] := h
        replace hR0 : SR D s.heap (sW d.1 q0 q cA d.2.1 d.2.2) s.heap [] := hR0
        refine lv_aload_n (pc := 0) hx hb dL_stateBehind_0 rfl (lv_at hl 0 rfl) ?_
        refine lv_iload_n (pc := 1) hx hb dL_stateBehind_1 rfl (lv_at hl 1 rfl) ?_
        refine lv_iload_n (pc := 2) hx hb dL_stateBehind_2 rfl (lv_at hl 2 rfl) ?_
        refine call_C (pc := 3) (hpc := 7) (As := [.int x1, .int x2]) (rest := []) (E := IOB) C hl0 hX hR0 h (kT_X4_stateBehind hn d.2.1 d.2.2 x1 x2 hq) cw_L_122 0 (sW_c0 ..) rfl (List.range (sW d.1 q0 q cA d.2.1 d.2.2).length) (full_map _) (nd_of _ List.nodup_range) rfl rfl hl.1 (Nat.le_of_ble_eq_true rfl) dL_stateBehind_3 ⟨(Nat.le_of_ble_eq_true rfl), (Nat.le_of_ble_eq_true rfl)⟩ rfl rfl ⟨(Nat.le_of_ble_eq_true rfl), (Nat.le_of_ble_eq_true rfl)⟩ (fun H1 locs1 q9 ce h1 h2 h3 k => vx_catch (name := IOB) hown [] ⟨0, 6, 7, 23⟩ [] (htab.trans rfl) (fun z hz => by cases hz) (by decide) (by decide) (hts _ cl_23) (cast_ok hX.2.1 cs1.1) h1 h2 h3 k) (fun q9 H locs h => ?_)
        refine lv_astore_n (pc := 7) (lv' := [(3, .ref q9), (0, .ref (q0 0)), (1, .int x1), (2, .int x2)]) hx hb dL_stateBehind_7 rfl hl (by decide) rfl (fun ls hl => ?_)
        refine lv_ldc (pc := 8) (v := -1000001) hx hb hown (hts _ kc_L_25) dL_stateBehind_8 ?_
        exact end_i (pc := 10) C hr (by decide) (by decide) h dL_stateBehind_10
    | inr z =>
      cases hf
      refine vxL_ofH (Qc := fun sz => PostU D (kW q0 q cA d) (kW q0 q cA d) sz (some (.int z))) (by decide) (Nat.le_of_ble_eq_true rfl) ?_
      intro p l e s m below meth c ls hl0 C hr htab hXA hN hR0 h hl
      have C : Cx p s m _ meth c cL_stateBehind 4 RL D cA := C
      obtain ⟨hx, hb, hml, hown, hts, hK, hlk⟩ := id C
      replace hl : lv_has ls 4 [(0, .ref (q0 0)), (1, .int x1), (2, .int x2)] := hl
      have hX := hXA.toXG
      replace h : St D (va_A (kW q0 q cA d) s.heap.size) s.heap (sW d.1 q0 q cA d.2.1 d.2.2) s.heap [] := h
      replace hR0 : SR D s.heap (sW d.1 q0 q cA d.2.1 d.2.2) s.heap [] := hR0
      refine lv_aload_n (pc := 0) hx hb dL_stateBehind_0 rfl (lv_at hl 0 rfl) ?_
      refine lv_iload_n (pc := 1) hx hb dL_stateBehind_1 rfl (lv_at hl 1 rfl) ?_
      refine lv_iload_n (pc := 2) hx hb dL_stateBehind_2 rfl (lv_at hl 2 rfl) ?_
      refine call_VR (pc := 3) (As := [.int x1, .int x2]) (rest := []) C h (k_X4_stateBehind hn d.2.1 d.2.2 x1 x2 hq) cw_L_122 0 (sW_c0 ..) rfl (List.range (sW d.1 q0 q cA d.2.1 d.2.2).length) (full_map _) (nd_of _ List.nodup_range) rfl rfl hl.1 (Nat.le_of_ble_eq_true rfl) dL_stateBehind_3 ⟨(Nat.le_of_ble_eq_true rfl), (Nat.le_of_ble_eq_true rfl)⟩ rfl rfl ⟨(Nat.le_of_ble_eq_true rfl), (Nat.le_of_ble_eq_true rfl)⟩ (fun H locs h => ?_)
      refine W.eq (g2 := F0 m 6 ls [.int z]) rfl ?_
      exact end_i (pc := 6) C hr (by decide) (by decide) h dL_stateBehind_6
abbrev rmN_share : Room := { frames := 8, cells := 0, slots := 0, locals := 126 }
abbrev rmW_share : Room := { frames := 8, cells := 1, slots := 6, locals := 126 }
def gn_share (d : Dk) (x1 : Int32) : Option (UInt32) := if d.1 ≤ 6 then match f_X4_share d.1 d.2.1 d.2.2 x1 with | some (.inr z) => some z | _ => none else none
set_option maxHeartbeats 400000 in
set_option maxRecDepth 100000 in
theorem vn_share {q0 : Nat → Nat} {q : Nat → Nat → Nat} {cA : Nat → ClassId} {D : va_G} (d : Dk) (x1 : Int32) {z : UInt32} (hf : gn_share d x1 = some z) : CtV yL_share (.codeWith yL_share cL_share 3 (some .float) [(0, 5, 6, 23)]) rmN_share [.ref (q0 0), .int x1] D cA (kW q0 q cA d) (kW q0 q cA d) (.float z) 0 0 := by
  unfold gn_share at hf
  by_cases hn : d.1 ≤ 6
  rotate_left
  · rw [if_neg hn] at hf
    cases hf
  rw [if_pos hn] at hf
  cases hq : f_X4_share d.1 d.2.1 d.2.2 x1 with
  | none => rw [hq] at hf; cases hf
  | some y =>
    rw [hq] at hf
    cases y with
    | inl E =>
      cases hf
    | inr z =>
      cases hf
      refine vxL_ofH (Qc := fun sz => PostU D (kW q0 q cA d) (kW q0 q cA d) sz (some (.float z))) (by decide) (Nat.le_of_ble_eq_true rfl) ?_
      intro p l e s m below meth c ls hl0 C hr htab hXA hN hR0 h hl
      have C : Cx p s m _ meth c cL_share 3 RL D cA := C
      obtain ⟨hx, hb, hml, hown, hts, hK, hlk⟩ := id C
      replace hl : lv_has ls 3 [(0, .ref (q0 0)), (1, .int x1)] := hl
      have hX := hXA.toXG
      replace h : St D (va_A (kW q0 q cA d) s.heap.size) s.heap (sW d.1 q0 q cA d.2.1 d.2.2) s.heap [] := h
      replace hR0 : SR D s.heap (sW d.1 q0 q cA d.2.1 d.2.2) s.heap [] := hR0
      refine lv_aload_n (pc := 0) hx hb dL_share_0 rfl (lv_at hl 0 rfl) ?_
      refine lv_iload_n (pc := 1) hx hb dL_share_1 rfl (lv_at hl 1 rfl) ?_
      refine call_VR (pc := 2) (As := [.int x1]) (rest := []) C h (k_X4_share hn d.2.1 d.2.2 x1 hq) cw_L_87 0 (sW_c0 ..) rfl (List.range (sW d.1 q0 q cA d.2.1 d.2.2).length) (full_map _) (nd_of _ List.nodup_range) rfl rfl hl.1 (Nat.le_of_ble_eq_true rfl) dL_share_2 ⟨(Nat.le_of_ble_eq_true rfl), (Nat.le_of_ble_eq_true rfl)⟩ rfl rfl ⟨(Nat.le_of_ble_eq_true rfl), (Nat.le_of_ble_eq_true rfl)⟩ (fun H locs h => ?_)
      refine W.eq (g2 := F0 m 5 ls [.float z]) rfl ?_
      exact end_f (pc := 5) C hr (by decide) (by decide) h dL_share_5
abbrev rmN_kindOf : Room := { frames := 8, cells := 0, slots := 0, locals := 127 }
abbrev rmW_kindOf : Room := { frames := 8, cells := 1, slots := 6, locals := 127 }
def gn_kindOf (d : Dk) (x1 x2 : Int32) : Option (Int32) := if d.1 ≤ 6 then match f_X4_kindOf d.1 d.2.1 d.2.2 x1 x2 with | some (.inr z) => some z | _ => none else none
def gm_kindOf (d : Dk) (x1 x2 : Int32) : Option (Int32) := if d.1 ≤ 6 then match f_X4_kindOf d.1 d.2.1 d.2.2 x1 x2 with | some (.inr z) => some z | some (.inl E) => some (cE E) | none => none else none
set_option maxHeartbeats 400000 in
set_option maxRecDepth 100000 in
theorem vn_kindOf {q0 : Nat → Nat} {q : Nat → Nat → Nat} {cA : Nat → ClassId} {D : va_G} (d : Dk) (x1 x2 : Int32) {z : Int32} (hf : gn_kindOf d x1 x2 = some z) : CtV yL_kindOf (.codeWith yL_kindOf cL_kindOf 4 (some .int) [(0, 6, 7, 23)]) rmN_kindOf [.ref (q0 0), .int x1, .int x2] D cA (kW q0 q cA d) (kW q0 q cA d) (.int z) 0 0 := by
  unfold gn_kindOf at hf
  by_cases hn : d.1 ≤ 6
  rotate_left
  · rw [if_neg hn] at hf
    cases hf
  rw [if_pos hn] at hf
  cases hq : f_X4_kindOf d.1 d.2.1 d.2.2 x1 x2 with
  | none => rw [hq] at hf; cases hf
  | some y =>
    rw [hq] at hf
    cases y with
    | inl E =>
      cases hf
    | inr z =>
      cases hf
      refine vxL_ofH (Qc := fun sz => PostU D (kW q0 q cA d) (kW q0 q cA d) sz (some (.int z))) (by decide) (Nat.le_of_ble_eq_true rfl) ?_
      intro p l e s m below meth c ls hl0 C hr htab hXA hN hR0 h hl
      have C : Cx p s m _ meth c cL_kindOf 4 RL D cA := C
      obtain ⟨hx, hb, hml, hown, hts, hK, hlk⟩ := id C
      replace hl : lv_has ls 4 [(0, .ref (q0 0)), (1, .int x1), (2, .int x2)] := hl
      have hX := hXA.toXG
      replace h : St D (va_A (kW q0 q cA d) s.heap.size) s.heap (sW d.1 q0 q cA d.2.1 d.2.2) s.heap [] := h
      replace hR0 : SR D s.heap (sW d.1 q0 q cA d.2.1 d.2.2) s.heap [] := hR0
      refine lv_aload_n (pc := 0) hx hb dL_kindOf_0 rfl (lv_at hl 0 rfl) ?_
      refine lv_iload_n (pc := 1) hx hb dL_kindOf_1 rfl (lv_at hl 1 rfl) ?_
      refine lv_iload_n (pc := 2) hx hb dL_kindOf_2 rfl (lv_at hl 2 rfl) ?_
      refine call_VR (pc := 3) (As := [.int x1, .int x2]) (rest := []) C h (k_X4_kindOf hn d.2.1 d.2.2 x1 x2 hq) cw_L_110 0 (sW_c0 ..) rfl (List.range (sW d.1 q0 q cA d.2.1 d.2.2).length) (full_map _) (nd_of _ List.nodup_range) rfl rfl hl.1 (Nat.le_of_ble_eq_true rfl) dL_kindOf_3 ⟨(Nat.le_of_ble_eq_true rfl), (Nat.le_of_ble_eq_true rfl)⟩ rfl rfl ⟨(Nat.le_of_ble_eq_true rfl), (Nat.le_of_ble_eq_true rfl)⟩ (fun H locs h => ?_)
      refine W.eq (g2 := F0 m 6 ls [.int z]) rfl ?_
      exact end_i (pc := 6) C hr (by decide) (by decide) h dL_kindOf_6
set_option maxHeartbeats 400000 in
set_option maxRecDepth 100000 in
theorem vm_kindOf {q0 : Nat → Nat} {q : Nat → Nat → Nat} {cA : Nat → ClassId} {D : va_G} (d : Dk) (x1 x2 : Int32) {z : Int32} (hf : gm_kindOf d x1 x2 = some z) : CtV yL_kindOf (.codeWith yL_kindOf cL_kindOf 4 (some .int) [(0, 6, 7, 23)]) rmW_kindOf [.ref (q0 0), .int x1, .int x2] D cA (kW q0 q cA d) (kW q0 q cA d) (.int z) 1 6 := by
  unfold gm_kindOf at hf
  by_cases hn : d.1 ≤ 6
  rotate_left
  · rw [if_neg hn] at hf
    cases hf
  rw [if_pos hn] at hf
  cases hq : f_X4_kindOf d.1 d.2.1 d.2.2 x1 x2 with
  | none => rw [hq] at hf; cases hf
  | some y =>
    rw [hq] at hf
    cases y with
    | inl E =>
      cases hf
      rcases E_X4_kindOf hq with h9
      · subst h9
        rw [show cE IOB = (-1000001 : Int32) from cE_IOB]
        refine vxL_ofH (Qc := fun sz => PostU D (kW q0 q cA d) (kW q0 q cA d) sz (some (.int (-1000001 : Int32)))) (by decide) (Nat.le_of_ble_eq_true rfl) ?_
        intro p l e s m below meth c ls hl0 C hr htab hXA hN hR0 h hl
        have C : Cx p s m _ meth c cL_kindOf 4 RL D cA := C
        obtain ⟨hx, hb, hml, hown, hts, hK, hlk⟩ := id C
        replace hl : lv_has ls 4 [(0, .ref (q0 0)), (1, .int x1), (2, .int x2)] := hl
        have hX := hXA.toXG
        replace h : St D (va_A (kW q0 q cA d) s.heap.size) s.heap (sW d.1 q0 q cA d.2.1 d.2.2) s.heap [] := h
        replace hR0 : SR D s.heap (sW d.1 q0 q cA d.2.1 d.2.2) s.heap [] := hR0
        refine lv_aload_n (pc := 0) hx hb dL_kindOf_0 rfl (lv_at hl 0 rfl) ?_
        refine lv_iload_n (pc := 1) hx hb dL_kindOf_1 rfl (lv_at hl 1 rfl) ?_
        refine lv_iload_n (pc := 2) hx hb dL_kindOf_2 rfl (lv_at hl 2 rfl) ?_
        refine call_C (pc := 3) (hpc := 7) (As := [.int x1, .int x2]) (rest := []) (E := IOB) C hl0 hX hR0 h (kT_X4_kindOf hn d.2.1 d.2.2 x1 x2 hq) cw_L_110 0 (sW_c0 ..) rfl (List.range (sW d.1 q0 q cA d.2.1 d.2.2).length) (full_map _) (nd_of _ List.nodup_range) rfl rfl hl.1 (Nat.le_of_ble_eq_true rfl) dL_kindOf_3 ⟨(Nat.le_of_ble_eq_true rfl), (Nat.le_of_ble_eq_true rfl)⟩ rfl rfl ⟨(Nat.le_of_ble_eq_true rfl), (Nat.le_of_ble_eq_true rfl)⟩ (fun H1 locs1 q9 ce h1 h2 h3 k => vx_catch (name := IOB) hown [] ⟨0, 6, 7, 23⟩ [] (htab.trans rfl) (fun z hz => by cases hz) (by decide) (by decide) (hts _ cl_23) (cast_ok hX.2.1 cs1.1) h1 h2 h3 k) (fun q9 H locs h => ?_)
        refine lv_astore_n (pc := 7) (lv' := [(3, .ref q9), (0, .ref (q0 0)), (1, .int x1), (2, .int x2)]) hx hb dL_kindOf_7 rfl hl (by decide) rfl (fun ls hl => ?_)
        refine lv_ldc (pc := 8) (v := -1000001) hx hb hown (hts _ kc_L_25) dL_kindOf_8 ?_
        exact end_i (pc := 10) C hr (by decide) (by decide) h dL_kindOf_10
    | inr z =>
      cases hf
      refine vxL_ofH (Qc := fun sz => PostU D (kW q0 q cA d) (kW q0 q cA d) sz (some (.int z))) (by decide) (Nat.le_of_ble_eq_true rfl) ?_
      intro p l e s m below meth c ls hl0 C hr htab hXA hN hR0 h hl
      have C : Cx p s m _ meth c cL_kindOf 4 RL D cA := C
      obtain ⟨hx, hb, hml, hown, hts, hK, hlk⟩ := id C
      replace hl : lv_has ls 4 [(0, .ref (q0 0)), (1, .int x1), (2, .int x2)] := hl
      have hX := hXA.toXG
      replace h : St D (va_A (kW q0 q cA d) s.heap.size) s.heap (sW d.1 q0 q cA d.2.1 d.2.2) s.heap [] := h
      replace hR0 : SR D s.heap (sW d.1 q0 q cA d.2.1 d.2.2) s.heap [] := hR0
      refine lv_aload_n (pc := 0) hx hb dL_kindOf_0 rfl (lv_at hl 0 rfl) ?_
      refine lv_iload_n (pc := 1) hx hb dL_kindOf_1 rfl (lv_at hl 1 rfl) ?_
      refine lv_iload_n (pc := 2) hx hb dL_kindOf_2 rfl (lv_at hl 2 rfl) ?_
      refine call_VR (pc := 3) (As := [.int x1, .int x2]) (rest := []) C h (k_X4_kindOf hn d.2.1 d.2.2 x1 x2 hq) cw_L_110 0 (sW_c0 ..) rfl (List.range (sW d.1 q0 q cA d.2.1 d.2.2).length) (full_map _) (nd_of _ List.nodup_range) rfl rfl hl.1 (Nat.le_of_ble_eq_true rfl) dL_kindOf_3 ⟨(Nat.le_of_ble_eq_true rfl), (Nat.le_of_ble_eq_true rfl)⟩ rfl rfl ⟨(Nat.le_of_ble_eq_true rfl), (Nat.le_of_ble_eq_true rfl)⟩ (fun H locs h => ?_)
      refine W.eq (g2 := F0 m 6 ls [.int z]) rfl ?_
      exact end_i (pc := 6) C hr (by decide) (by decide) h dL_kindOf_6
abbrev rmN_personOf : Room := { frames := 8, cells := 0, slots := 0, locals := 127 }
abbrev rmW_personOf : Room := { frames := 8, cells := 1, slots := 6, locals := 127 }
def gn_personOf (d : Dk) (x1 x2 : Int32) : Option (Int32) := if d.1 ≤ 6 then match f_X4_personOf d.1 d.2.1 d.2.2 x1 x2 with | some (.inr z) => some z | _ => none else none
def gm_personOf (d : Dk) (x1 x2 : Int32) : Option (Int32) := if d.1 ≤ 6 then match f_X4_personOf d.1 d.2.1 d.2.2 x1 x2 with | some (.inr z) => some z | some (.inl E) => some (cE E) | none => none else none
set_option maxHeartbeats 400000 in
set_option maxRecDepth 100000 in
theorem vn_personOf {q0 : Nat → Nat} {q : Nat → Nat → Nat} {cA : Nat → ClassId} {D : va_G} (d : Dk) (x1 x2 : Int32) {z : Int32} (hf : gn_personOf d x1 x2 = some z) : CtV yL_personOf (.codeWith yL_personOf cL_personOf 4 (some .int) [(0, 6, 7, 23)]) rmN_personOf [.ref (q0 0), .int x1, .int x2] D cA (kW q0 q cA d) (kW q0 q cA d) (.int z) 0 0 := by
  unfold gn_personOf at hf
  by_cases hn : d.1 ≤ 6
  rotate_left
  · rw [if_neg hn] at hf
    cases hf
  rw [if_pos hn] at hf
  cases hq : f_X4_personOf d.1 d.2.1 d.2.2 x1 x2 with
  | none => rw [hq] at hf; cases hf
  | some y =>
    rw [hq] at hf
    cases y with
    | inl E =>
      cases hf
    | inr z =>
      cases hf
      refine vxL_ofH (Qc := fun sz => PostU D (kW q0 q cA d) (kW q0 q cA d) sz (some (.int z))) (by decide) (Nat.le_of_ble_eq_true rfl) ?_
      intro p l e s m below meth c ls hl0 C hr htab hXA hN hR0 h hl
      have C : Cx p s m _ meth c cL_personOf 4 RL D cA := C
      obtain ⟨hx, hb, hml, hown, hts, hK, hlk⟩ := id C
      replace hl : lv_has ls 4 [(0, .ref (q0 0)), (1, .int x1), (2, .int x2)] := hl
      have hX := hXA.toXG
      replace h : St D (va_A (kW q0 q cA d) s.heap.size) s.heap (sW d.1 q0 q cA d.2.1 d.2.2) s.heap [] := h
      replace hR0 : SR D s.heap (sW d.1 q0 q cA d.2.1 d.2.2) s.heap [] := hR0
      refine lv_aload_n (pc := 0) hx hb dL_personOf_0 rfl (lv_at hl 0 rfl) ?_
      refine lv_iload_n (pc := 1) hx hb dL_personOf_1 rfl (lv_at hl 1 rfl) ?_
      refine lv_iload_n (pc := 2) hx hb dL_personOf_2 rfl (lv_at hl 2 rfl) ?_
      refine call_VR (pc := 3) (As := [.int x1, .int x2]) (rest := []) C h (k_X4_personOf hn d.2.1 d.2.2 x1 x2 hq) cw_L_113 0 (sW_c0 ..) rfl (List.range (sW d.1 q0 q cA d.2.1 d.2.2).length) (full_map _) (nd_of _ List.nodup_range) rfl rfl hl.1 (Nat.le_of_ble_eq_true rfl) dL_personOf_3 ⟨(Nat.le_of_ble_eq_true rfl), (Nat.le_of_ble_eq_true rfl)⟩ rfl rfl ⟨(Nat.le_of_ble_eq_true rfl), (Nat.le_of_ble_eq_true rfl)⟩ (fun H locs h => ?_)
      refine W.eq (g2 := F0 m 6 ls [.int z]) rfl ?_
      exact end_i (pc := 6) C hr (by decide) (by decide) h dL_personOf_6
set_option maxHeartbeats 400000 in
set_option maxRecDepth 100000 in
theorem vm_personOf {q0 : Nat → Nat} {q : Nat → Nat → Nat} {cA : Nat → ClassId} {D : va_G} (d : Dk) (x1 x2 : Int32) {z : Int32} (hf : gm_personOf d x1 x2 = some z) : CtV yL_personOf (.codeWith yL_personOf cL_personOf 4 (some .int) [(0, 6, 7, 23)]) rmW_personOf [.ref (q0 0), .int x1, .int x2] D cA (kW q0 q cA d) (kW q0 q cA d) (.int z) 1 6 := by
  unfold gm_personOf at hf
  by_cases hn : d.1 ≤ 6
  rotate_left
  · rw [if_neg hn] at hf
    cases hf
  rw [if_pos hn] at hf
  cases hq : f_X4_personOf d.1 d.2.1 d.2.2 x1 x2 with
  | none => rw [hq] at hf; cases hf
  | some y =>
    rw [hq] at hf
    cases y with
    | inl E =>
      cases hf
      rcases E_X4_personOf hq with h9
      · subst h9
        rw [show cE IOB = (-1000001 : Int32) from cE_IOB]
        refine vxL_ofH (Qc := fun sz => PostU D (kW q0 q cA d) (kW q0 q cA d) sz (some (.int (-1000001 : Int32)))) (by decide) (Nat.le_of_ble_eq_true rfl) ?_
        intro p l e s m below meth c ls hl0 C hr htab hXA hN hR0 h hl
        have C : Cx p s m _ meth c cL_personOf 4 RL D cA := C
        obtain ⟨hx, hb, hml, hown, hts, hK, hlk⟩ := id C
        replace hl : lv_has ls 4 [(0, .ref (q0 0)), (1, .int x1), (2, .int x2)] := hl
        have hX := hXA.toXG
        replace h : St D (va_A (kW q0 q cA d) s.heap.size) s.heap (sW d.1 q0 q cA d.2.1 d.2.2) s.heap [] := h
        replace hR0 : SR D s.heap (sW d.1 q0 q cA d.2.1 d.2.2) s.heap [] := hR0
        refine lv_aload_n (pc := 0) hx hb dL_personOf_0 rfl (lv_at hl 0 rfl) ?_
        refine lv_iload_n (pc := 1) hx hb dL_personOf_1 rfl (lv_at hl 1 rfl) ?_
        refine lv_iload_n (pc := 2) hx hb dL_personOf_2 rfl (lv_at hl 2 rfl) ?_
        refine call_C (pc := 3) (hpc := 7) (As := [.int x1, .int x2]) (rest := []) (E := IOB) C hl0 hX hR0 h (kT_X4_personOf hn d.2.1 d.2.2 x1 x2 hq) cw_L_113 0 (sW_c0 ..) rfl (List.range (sW d.1 q0 q cA d.2.1 d.2.2).length) (full_map _) (nd_of _ List.nodup_range) rfl rfl hl.1 (Nat.le_of_ble_eq_true rfl) dL_personOf_3 ⟨(Nat.le_of_ble_eq_true rfl), (Nat.le_of_ble_eq_true rfl)⟩ rfl rfl ⟨(Nat.le_of_ble_eq_true rfl), (Nat.le_of_ble_eq_true rfl)⟩ (fun H1 locs1 q9 ce h1 h2 h3 k => vx_catch (name := IOB) hown [] ⟨0, 6, 7, 23⟩ [] (htab.trans rfl) (fun z hz => by cases hz) (by decide) (by decide) (hts _ cl_23) (cast_ok hX.2.1 cs1.1) h1 h2 h3 k) (fun q9 H locs h => ?_)
        refine lv_astore_n (pc := 7) (lv' := [(3, .ref q9), (0, .ref (q0 0)), (1, .int x1), (2, .int x2)]) hx hb dL_personOf_7 rfl hl (by decide) rfl (fun ls hl => ?_)
        refine lv_ldc (pc := 8) (v := -1000001) hx hb hown (hts _ kc_L_25) dL_personOf_8 ?_
        exact end_i (pc := 10) C hr (by decide) (by decide) h dL_personOf_10
    | inr z =>
      cases hf
      refine vxL_ofH (Qc := fun sz => PostU D (kW q0 q cA d) (kW q0 q cA d) sz (some (.int z))) (by decide) (Nat.le_of_ble_eq_true rfl) ?_
      intro p l e s m below meth c ls hl0 C hr htab hXA hN hR0 h hl
      have C : Cx p s m _ meth c cL_personOf 4 RL D cA := C
      obtain ⟨hx, hb, hml, hown, hts, hK, hlk⟩ := id C
      replace hl : lv_has ls 4 [(0, .ref (q0 0)), (1, .int x1), (2, .int x2)] := hl
      have hX := hXA.toXG
      replace h : St D (va_A (kW q0 q cA d) s.heap.size) s.heap (sW d.1 q0 q cA d.2.1 d.2.2) s.heap [] := h
      replace hR0 : SR D s.heap (sW d.1 q0 q cA d.2.1 d.2.2) s.heap [] := hR0
      refine lv_aload_n (pc := 0) hx hb dL_personOf_0 rfl (lv_at hl 0 rfl) ?_
      refine lv_iload_n (pc := 1) hx hb dL_personOf_1 rfl (lv_at hl 1 rfl) ?_
      refine lv_iload_n (pc := 2) hx hb dL_personOf_2 rfl (lv_at hl 2 rfl) ?_
      refine call_VR (pc := 3) (As := [.int x1, .int x2]) (rest := []) C h (k_X4_personOf hn d.2.1 d.2.2 x1 x2 hq) cw_L_113 0 (sW_c0 ..) rfl (List.range (sW d.1 q0 q cA d.2.1 d.2.2).length) (full_map _) (nd_of _ List.nodup_range) rfl rfl hl.1 (Nat.le_of_ble_eq_true rfl) dL_personOf_3 ⟨(Nat.le_of_ble_eq_true rfl), (Nat.le_of_ble_eq_true rfl)⟩ rfl rfl ⟨(Nat.le_of_ble_eq_true rfl), (Nat.le_of_ble_eq_true rfl)⟩ (fun H locs h => ?_)
      refine W.eq (g2 := F0 m 6 ls [.int z]) rfl ?_
      exact end_i (pc := 6) C hr (by decide) (by decide) h dL_personOf_6
abbrev rmN_dayOf : Room := { frames := 8, cells := 0, slots := 0, locals := 127 }
abbrev rmW_dayOf : Room := { frames := 8, cells := 1, slots := 6, locals := 127 }
def gn_dayOf (d : Dk) (x1 x2 : Int32) : Option (Int32) := if d.1 ≤ 6 then match f_X4_dayOf d.1 d.2.1 d.2.2 x1 x2 with | some (.inr z) => some z | _ => none else none
def gm_dayOf (d : Dk) (x1 x2 : Int32) : Option (Int32) := if d.1 ≤ 6 then match f_X4_dayOf d.1 d.2.1 d.2.2 x1 x2 with | some (.inr z) => some z | some (.inl E) => some (cE E) | none => none else none
set_option maxHeartbeats 400000 in
set_option maxRecDepth 100000 in
theorem vn_dayOf {q0 : Nat → Nat} {q : Nat → Nat → Nat} {cA : Nat → ClassId} {D : va_G} (d : Dk) (x1 x2 : Int32) {z : Int32} (hf : gn_dayOf d x1 x2 = some z) : CtV yL_dayOf (.codeWith yL_dayOf cL_dayOf 4 (some .int) [(0, 6, 7, 23)]) rmN_dayOf [.ref (q0 0), .int x1, .int x2] D cA (kW q0 q cA d) (kW q0 q cA d) (.int z) 0 0 := by
  unfold gn_dayOf at hf
  by_cases hn : d.1 ≤ 6
  rotate_left
  · rw [if_neg hn] at hf
    cases hf
  rw [if_pos hn] at hf
  cases hq : f_X4_dayOf d.1 d.2.1 d.2.2 x1 x2 with
  | none => rw [hq] at hf; cases hf
  | some y =>
    rw [hq] at hf
    cases y with
    | inl E =>
      cases hf
    | inr z =>
      cases hf
      refine vxL_ofH (Qc := fun sz => PostU D (kW q0 q cA d) (kW q0 q cA d) sz (some (.int z))) (by decide) (Nat.le_of_ble_eq_true rfl) ?_
      intro p l e s m below meth c ls hl0 C hr htab hXA hN hR0 h hl
      have C : Cx p s m _ meth c cL_dayOf 4 RL D cA := C
      obtain ⟨hx, hb, hml, hown, hts, hK, hlk⟩ := id C
      replace hl : lv_has ls 4 [(0, .ref (q0 0)), (1, .int x1), (2, .int x2)] := hl
      have hX := hXA.toXG
      replace h : St D (va_A (kW q0 q cA d) s.heap.size) s.heap (sW d.1 q0 q cA d.2.1 d.2.2) s.heap [] := h
      replace hR0 : SR D s.heap (sW d.1 q0 q cA d.2.1 d.2.2) s.heap [] := hR0
      refine lv_aload_n (pc := 0) hx hb dL_dayOf_0 rfl (lv_at hl 0 rfl) ?_
      refine lv_iload_n (pc := 1) hx hb dL_dayOf_1 rfl (lv_at hl 1 rfl) ?_
      refine lv_iload_n (pc := 2) hx hb dL_dayOf_2 rfl (lv_at hl 2 rfl) ?_
      refine call_VR (pc := 3) (As := [.int x1, .int x2]) (rest := []) C h (k_X4_dayOf hn d.2.1 d.2.2 x1 x2 hq) cw_L_116 0 (sW_c0 ..) rfl (List.range (sW d.1 q0 q cA d.2.1 d.2.2).length) (full_map _) (nd_of _ List.nodup_range) rfl rfl hl.1 (Nat.le_of_ble_eq_true rfl) dL_dayOf_3 ⟨(Nat.le_of_ble_eq_true rfl), (Nat.le_of_ble_eq_true rfl)⟩ rfl rfl ⟨(Nat.le_of_ble_eq_true rfl), (Nat.le_of_ble_eq_true rfl)⟩ (fun H locs h => ?_)
      refine W.eq (g2 := F0 m 6 ls [.int z]) rfl ?_
      exact end_i (pc := 6) C hr (by decide) (by decide) h dL_dayOf_6
set_option maxHeartbeats 400000 in
set_option maxRecDepth 100000 in
theorem vm_dayOf {q0 : Nat → Nat} {q : Nat → Nat → Nat} {cA : Nat → ClassId} {D : va_G} (d : Dk) (x1 x2 : Int32) {z : Int32} (hf : gm_dayOf d x1 x2 = some z) : CtV yL_dayOf (.codeWith yL_dayOf cL_dayOf 4 (some .int) [(0, 6, 7, 23)]) rmW_dayOf [.ref (q0 0), .int x1, .int x2] D cA (kW q0 q cA d) (kW q0 q cA d) (.int z) 1 6 := by
  unfold gm_dayOf at hf
  by_cases hn : d.1 ≤ 6
  rotate_left
  · rw [if_neg hn] at hf
    cases hf
  rw [if_pos hn] at hf
  cases hq : f_X4_dayOf d.1 d.2.1 d.2.2 x1 x2 with
  | none => rw [hq] at hf; cases hf
  | some y =>
    rw [hq] at hf
    cases y with
    | inl E =>
      cases hf
      rcases E_X4_dayOf hq with h9
      · subst h9
        rw [show cE IOB = (-1000001 : Int32) from cE_IOB]
        refine vxL_ofH (Qc := fun sz => PostU D (kW q0 q cA d) (kW q0 q cA d) sz (some (.int (-1000001 : Int32)))) (by decide) (Nat.le_of_ble_eq_true rfl) ?_
        intro p l e s m below meth c ls hl0 C hr htab hXA hN hR0 h hl
        have C : Cx p s m _ meth c cL_dayOf 4 RL D cA := C
        obtain ⟨hx, hb, hml, hown, hts, hK, hlk⟩ := id C
        replace hl : lv_has ls 4 [(0, .ref (q0 0)), (1, .int x1), (2, .int x2)] := hl
        have hX := hXA.toXG
        replace h : St D (va_A (kW q0 q cA d) s.heap.size) s.heap (sW d.1 q0 q cA d.2.1 d.2.2) s.heap [] := h
        replace hR0 : SR D s.heap (sW d.1 q0 q cA d.2.1 d.2.2) s.heap [] := hR0
        refine lv_aload_n (pc := 0) hx hb dL_dayOf_0 rfl (lv_at hl 0 rfl) ?_
        refine lv_iload_n (pc := 1) hx hb dL_dayOf_1 rfl (lv_at hl 1 rfl) ?_
        refine lv_iload_n (pc := 2) hx hb dL_dayOf_2 rfl (lv_at hl 2 rfl) ?_
        refine call_C (pc := 3) (hpc := 7) (As := [.int x1, .int x2]) (rest := []) (E := IOB) C hl0 hX hR0 h (kT_X4_dayOf hn d.2.1 d.2.2 x1 x2 hq) cw_L_116 0 (sW_c0 ..) rfl (List.range (sW d.1 q0 q cA d.2.1 d.2.2).length) (full_map _) (nd_of _ List.nodup_range) rfl rfl hl.1 (Nat.le_of_ble_eq_true rfl) dL_dayOf_3 ⟨(Nat.le_of_ble_eq_true rfl), (Nat.le_of_ble_eq_true rfl)⟩ rfl rfl ⟨(Nat.le_of_ble_eq_true rfl), (Nat.le_of_ble_eq_true rfl)⟩ (fun H1 locs1 q9 ce h1 h2 h3 k => vx_catch (name := IOB) hown [] ⟨0, 6, 7, 23⟩ [] (htab.trans rfl) (fun z hz => by cases hz) (by decide) (by decide) (hts _ cl_23) (cast_ok hX.2.1 cs1.1) h1 h2 h3 k) (fun q9 H locs h => ?_)
        refine lv_astore_n (pc := 7) (lv' := [(3, .ref q9), (0, .ref (q0 0)), (1, .int x1), (2, .int x2)]) hx hb dL_dayOf_7 rfl hl (by decide) rfl (fun ls hl => ?_)
        refine lv_ldc (pc := 8) (v := -1000001) hx hb hown (hts _ kc_L_25) dL_dayOf_8 ?_
        exact end_i (pc := 10) C hr (by decide) (by decide) h dL_dayOf_10
    | inr z =>
      cases hf
      refine vxL_ofH (Qc := fun sz => PostU D (kW q0 q cA d) (kW q0 q cA d) sz (some (.int z))) (by decide) (Nat.le_of_ble_eq_true rfl) ?_
      intro p l e s m below meth c ls hl0 C hr htab hXA hN hR0 h hl
      have C : Cx p s m _ meth c cL_dayOf 4 RL D cA := C
      obtain ⟨hx, hb, hml, hown, hts, hK, hlk⟩ := id C
      replace hl : lv_has ls 4 [(0, .ref (q0 0)), (1, .int x1), (2, .int x2)] := hl
      have hX := hXA.toXG
      replace h : St D (va_A (kW q0 q cA d) s.heap.size) s.heap (sW d.1 q0 q cA d.2.1 d.2.2) s.heap [] := h
      replace hR0 : SR D s.heap (sW d.1 q0 q cA d.2.1 d.2.2) s.heap [] := hR0
      refine lv_aload_n (pc := 0) hx hb dL_dayOf_0 rfl (lv_at hl 0 rfl) ?_
      refine lv_iload_n (pc := 1) hx hb dL_dayOf_1 rfl (lv_at hl 1 rfl) ?_
      refine lv_iload_n (pc := 2) hx hb dL_dayOf_2 rfl (lv_at hl 2 rfl) ?_
      refine call_VR (pc := 3) (As := [.int x1, .int x2]) (rest := []) C h (k_X4_dayOf hn d.2.1 d.2.2 x1 x2 hq) cw_L_116 0 (sW_c0 ..) rfl (List.range (sW d.1 q0 q cA d.2.1 d.2.2).length) (full_map _) (nd_of _ List.nodup_range) rfl rfl hl.1 (Nat.le_of_ble_eq_true rfl) dL_dayOf_3 ⟨(Nat.le_of_ble_eq_true rfl), (Nat.le_of_ble_eq_true rfl)⟩ rfl rfl ⟨(Nat.le_of_ble_eq_true rfl), (Nat.le_of_ble_eq_true rfl)⟩ (fun H locs h => ?_)
      refine W.eq (g2 := F0 m 6 ls [.int z]) rfl ?_
      exact end_i (pc := 6) C hr (by decide) (by decide) h dL_dayOf_6
abbrev rmN_orders : Room := { frames := 8, cells := 0, slots := 0, locals := 125 }
abbrev rmW_orders : Room := { frames := 8, cells := 1, slots := 6, locals := 125 }
noncomputable def gn_orders (d : Dk) (x1 : Int32) : Option (Int32 × Dk) := if d.1 ≤ 6 then match f_X4_orders d.1 d.2.1 d.2.2 x1 with | some (.inr z) => @ite _ (∀ k c, c < 17 → z.2.2 k c = d.2.2 k c) (Classical.propDecidable _) (some (z.1, d.1, z.2.1, d.2.2)) none | _ => none else none
set_option maxHeartbeats 400000 in
set_option maxRecDepth 100000 in
theorem vn_orders {q0 : Nat → Nat} {q : Nat → Nat → Nat} {cA : Nat → ClassId} {D : va_G} (d : Dk) (x1 : Int32) {z : Int32 × Dk} (hf : gn_orders d x1 = some z) : CtV yL_orders (.codeWith yL_orders cL_orders 3 (some .int) [(0, 5, 6, 23)]) rmN_orders [.ref (q0 0), .int x1] D cA (kW q0 q cA d) (kW q0 q cA z.2) (.int z.1) 0 0 := by
  unfold gn_orders at hf
  by_cases hn : d.1 ≤ 6
  rotate_left
  · rw [if_neg hn] at hf
    cases hf
  rw [if_pos hn] at hf
  cases hq : f_X4_orders d.1 d.2.1 d.2.2 x1 with
  | none => rw [hq] at hf; cases hf
  | some y =>
    rw [hq] at hf
    cases y with
    | inl E =>
      cases hf
    | inr z =>
      obtain ⟨hC, hf⟩ := ifS hf
      cases hf
      refine vxL_ofH (Qc := fun sz => PostU D (kW q0 q cA d) (kW q0 q cA (d.1, z.2.1, d.2.2)) sz (some (.int z.1))) (by decide) (Nat.le_of_ble_eq_true rfl) ?_
      intro p l e s m below meth c ls hl0 C hr htab hXA hN hR0 h hl
      have C : Cx p s m _ meth c cL_orders 3 RL D cA := C
      obtain ⟨hx, hb, hml, hown, hts, hK, hlk⟩ := id C
      replace hl : lv_has ls 3 [(0, .ref (q0 0)), (1, .int x1)] := hl
      have hX := hXA.toXG
      replace h : St D (va_A (kW q0 q cA d) s.heap.size) s.heap (sW d.1 q0 q cA d.2.1 d.2.2) s.heap [] := h
      replace hR0 : SR D s.heap (sW d.1 q0 q cA d.2.1 d.2.2) s.heap [] := hR0
      refine lv_aload_n (pc := 0) hx hb dL_orders_0 rfl (lv_at hl 0 rfl) ?_
      refine lv_iload_n (pc := 1) hx hb dL_orders_1 rfl (lv_at hl 1 rfl) ?_
      refine call_VUs (pc := 2) (As := [.int x1]) (rest := []) (ws' := (sW d.1 q0 q cA z.2.1 z.2.2)) C h (k_X4_orders hn d.2.1 d.2.2 x1 hq) cw_L_98 0 (sW_c0 ..) rfl (sW_fst ..) rfl rfl hl.1 (Nat.le_of_ble_eq_true rfl) dL_orders_2 ⟨(Nat.le_of_ble_eq_true rfl), (Nat.le_of_ble_eq_true rfl)⟩ rfl rfl ⟨(Nat.le_of_ble_eq_true rfl), (Nat.le_of_ble_eq_true rfl)⟩ (fun H locs h => ?_)
      refine W.eq (g2 := F0 m 5 ls [.int z.1]) rfl ?_
      replace h : St D (va_A (kW q0 q cA d) s.heap.size) s.heap (kW q0 q cA (d.1, z.2.1, d.2.2)) H locs := by rw [← kW_cong q0 q cA (d := (d.1, z.2.1, z.2.2)) (d' := (d.1, z.2.1, d.2.2)) rfl rfl hC]; exact h
      exact end_i (pc := 5) C hr (by decide) (by decide) h dL_orders_5
abbrev rmN_ordersLeft : Room := { frames := 8, cells := 0, slots := 0, locals := 126 }
abbrev rmW_ordersLeft : Room := { frames := 8, cells := 1, slots := 6, locals := 126 }
noncomputable def gn_ordersLeft (d : Dk) (x1 : Int32) : Option (Int32 × Dk) := if d.1 ≤ 6 then match f_X4_ordersLeft d.1 d.2.1 d.2.2 x1 with | some (.inr z) => @ite _ (∀ k c, c < 17 → z.2.2 k c = d.2.2 k c) (Classical.propDecidable _) (some (z.1, d.1, z.2.1, d.2.2)) none | _ => none else none
set_option maxHeartbeats 400000 in
set_option maxRecDepth 100000 in
theorem vn_ordersLeft {q0 : Nat → Nat} {q : Nat → Nat → Nat} {cA : Nat → ClassId} {D : va_G} (d : Dk) (x1 : Int32) {z : Int32 × Dk} (hf : gn_ordersLeft d x1 = some z) : CtV yL_ordersLeft (.codeWith yL_ordersLeft cL_ordersLeft 3 (some .int) [(0, 5, 6, 23)]) rmN_ordersLeft [.ref (q0 0), .int x1] D cA (kW q0 q cA d) (kW q0 q cA z.2) (.int z.1) 0 0 := by
  unfold gn_ordersLeft at hf
  by_cases hn : d.1 ≤ 6
  rotate_left
  · rw [if_neg hn] at hf
    cases hf
  rw [if_pos hn] at hf
  cases hq : f_X4_ordersLeft d.1 d.2.1 d.2.2 x1 with
  | none => rw [hq] at hf; cases hf
  | some y =>
    rw [hq] at hf
    cases y with
    | inl E =>
      cases hf
    | inr z =>
      obtain ⟨hC, hf⟩ := ifS hf
      cases hf
      refine vxL_ofH (Qc := fun sz => PostU D (kW q0 q cA d) (kW q0 q cA (d.1, z.2.1, d.2.2)) sz (some (.int z.1))) (by decide) (Nat.le_of_ble_eq_true rfl) ?_
      intro p l e s m below meth c ls hl0 C hr htab hXA hN hR0 h hl
      have C : Cx p s m _ meth c cL_ordersLeft 3 RL D cA := C
      obtain ⟨hx, hb, hml, hown, hts, hK, hlk⟩ := id C
      replace hl : lv_has ls 3 [(0, .ref (q0 0)), (1, .int x1)] := hl
      have hX := hXA.toXG
      replace h : St D (va_A (kW q0 q cA d) s.heap.size) s.heap (sW d.1 q0 q cA d.2.1 d.2.2) s.heap [] := h
      replace hR0 : SR D s.heap (sW d.1 q0 q cA d.2.1 d.2.2) s.heap [] := hR0
      refine lv_aload_n (pc := 0) hx hb dL_ordersLeft_0 rfl (lv_at hl 0 rfl) ?_
      refine lv_iload_n (pc := 1) hx hb dL_ordersLeft_1 rfl (lv_at hl 1 rfl) ?_
      refine call_VUs (pc := 2) (As := [.int x1]) (rest := []) (ws' := (sW d.1 q0 q cA z.2.1 z.2.2)) C h (k_X4_ordersLeft hn d.2.1 d.2.2 x1 hq) cw_L_104 0 (sW_c0 ..) rfl (sW_fst ..) rfl rfl hl.1 (Nat.le_of_ble_eq_true rfl) dL_ordersLeft_2 ⟨(Nat.le_of_ble_eq_true rfl), (Nat.le_of_ble_eq_true rfl)⟩ rfl rfl ⟨(Nat.le_of_ble_eq_true rfl), (Nat.le_of_ble_eq_true rfl)⟩ (fun H locs h => ?_)
      refine W.eq (g2 := F0 m 5 ls [.int z.1]) rfl ?_
      replace h : St D (va_A (kW q0 q cA d) s.heap.size) s.heap (kW q0 q cA (d.1, z.2.1, d.2.2)) H locs := by rw [← kW_cong q0 q cA (d := (d.1, z.2.1, z.2.2)) (d' := (d.1, z.2.1, d.2.2)) rfl rfl hC]; exact h
      exact end_i (pc := 5) C hr (by decide) (by decide) h dL_ordersLeft_5
abbrev rmN_ordersByAll : Room := { frames := 16, cells := 0, slots := 0, locals := 390 }
abbrev rmW_ordersByAll : Room := { frames := 16, cells := 1, slots := 6, locals := 390 }
def gn_ordersByAll (d : Dk) (x1 : Int32) : Option (Int32) := if d.1 ≤ 6 then match f_X4_ordersByAll d.1 d.2.1 d.2.2 x1 with | some (.inr z) => some z | _ => none else none
def gm_ordersByAll (d : Dk) (x1 : Int32) : Option (Int32) := if d.1 ≤ 6 then match f_X4_ordersByAll d.1 d.2.1 d.2.2 x1 with | some (.inr z) => some z | some (.inl E) => some (cE E) | none => none else none
set_option maxHeartbeats 400000 in
set_option maxRecDepth 100000 in
theorem vn_ordersByAll {q0 : Nat → Nat} {q : Nat → Nat → Nat} {cA : Nat → ClassId} {D : va_G} (d : Dk) (x1 : Int32) {z : Int32} (hf : gn_ordersByAll d x1 = some z) : CtV yL_ordersByAll (.codeWith yL_ordersByAll cL_ordersByAll 3 (some .int) [(0, 5, 6, 23)]) rmN_ordersByAll [.ref (q0 0), .int x1] D cA (kW q0 q cA d) (kW q0 q cA d) (.int z) 0 0 := by
  unfold gn_ordersByAll at hf
  by_cases hn : d.1 ≤ 6
  rotate_left
  · rw [if_neg hn] at hf
    cases hf
  rw [if_pos hn] at hf
  cases hq : f_X4_ordersByAll d.1 d.2.1 d.2.2 x1 with
  | none => rw [hq] at hf; cases hf
  | some y =>
    rw [hq] at hf
    cases y with
    | inl E =>
      cases hf
    | inr z =>
      cases hf
      refine vxL_ofH (Qc := fun sz => PostU D (kW q0 q cA d) (kW q0 q cA d) sz (some (.int z))) (by decide) (Nat.le_of_ble_eq_true rfl) ?_
      intro p l e s m below meth c ls hl0 C hr htab hXA hN hR0 h hl
      have C : Cx p s m _ meth c cL_ordersByAll 3 RL D cA := C
      obtain ⟨hx, hb, hml, hown, hts, hK, hlk⟩ := id C
      replace hl : lv_has ls 3 [(0, .ref (q0 0)), (1, .int x1)] := hl
      have hX := hXA.toXG
      replace h : St D (va_A (kW q0 q cA d) s.heap.size) s.heap (sW d.1 q0 q cA d.2.1 d.2.2) s.heap [] := h
      replace hR0 : SR D s.heap (sW d.1 q0 q cA d.2.1 d.2.2) s.heap [] := hR0
      refine lv_aload_n (pc := 0) hx hb dL_ordersByAll_0 rfl (lv_at hl 0 rfl) ?_
      refine lv_iload_n (pc := 1) hx hb dL_ordersByAll_1 rfl (lv_at hl 1 rfl) ?_
      refine call_VR (pc := 2) (As := [.int x1]) (rest := []) C h (k_X4_ordersByAll hn d.2.1 d.2.2 x1 hq) cw_L_101 0 (sW_c0 ..) rfl (List.range (sW d.1 q0 q cA d.2.1 d.2.2).length) (full_map _) (nd_of _ List.nodup_range) rfl rfl hl.1 (Nat.le_of_ble_eq_true rfl) dL_ordersByAll_2 ⟨(Nat.le_of_ble_eq_true rfl), (Nat.le_of_ble_eq_true rfl)⟩ rfl rfl ⟨(Nat.le_of_ble_eq_true rfl), (Nat.le_of_ble_eq_true rfl)⟩ (fun H locs h => ?_)
      refine W.eq (g2 := F0 m 5 ls [.int z]) rfl ?_
      exact end_i (pc := 5) C hr (by decide) (by decide) h dL_ordersByAll_5
set_option maxHeartbeats 400000 in
set_option maxRecDepth 100000 in
theorem vm_ordersByAll {q0 : Nat → Nat} {q : Nat → Nat → Nat} {cA : Nat → ClassId} {D : va_G} (d : Dk) (x1 : Int32) {z : Int32} (hf : gm_ordersByAll d x1 = some z) : CtV yL_ordersByAll (.codeWith yL_ordersByAll cL_ordersByAll 3 (some .int) [(0, 5, 6, 23)]) rmW_ordersByAll [.ref (q0 0), .int x1] D cA (kW q0 q cA d) (kW q0 q cA d) (.int z) 1 6 := by
  unfold gm_ordersByAll at hf
  by_cases hn : d.1 ≤ 6
  rotate_left
  · rw [if_neg hn] at hf
    cases hf
  rw [if_pos hn] at hf
  cases hq : f_X4_ordersByAll d.1 d.2.1 d.2.2 x1 with
  | none => rw [hq] at hf; cases hf
  | some y =>
    rw [hq] at hf
    cases y with
    | inl E =>
      cases hf
      rcases E_X4_ordersByAll hq with h9
      · subst h9
        rw [show cE IOB = (-1000001 : Int32) from cE_IOB]
        refine vxL_ofH (Qc := fun sz => PostU D (kW q0 q cA d) (kW q0 q cA d) sz (some (.int (-1000001 : Int32)))) (by decide) (Nat.le_of_ble_eq_true rfl) ?_
        intro p l e s m below meth c ls hl0 C hr htab hXA hN hR0 h hl
        have C : Cx p s m _ meth c cL_ordersByAll 3 RL D cA := C
        obtain ⟨hx, hb, hml, hown, hts, hK, hlk⟩ := id C
        replace hl : lv_has ls 3 [(0, .ref (q0 0)), (1, .int x1)] := hl
        have hX := hXA.toXG
        replace h : St D (va_A (kW q0 q cA d) s.heap.size) s.heap (sW d.1 q0 q cA d.2.1 d.2.2) s.heap [] := h
        replace hR0 : SR D s.heap (sW d.1 q0 q cA d.2.1 d.2.2) s.heap [] := hR0
        refine lv_aload_n (pc := 0) hx hb dL_ordersByAll_0 rfl (lv_at hl 0 rfl) ?_
        refine lv_iload_n (pc := 1) hx hb dL_ordersByAll_1 rfl (lv_at hl 1 rfl) ?_
        refine call_C (pc := 2) (hpc := 6) (As := [.int x1]) (rest := []) (E := IOB) C hl0 hX hR0 h (kT_X4_ordersByAll hn d.2.1 d.2.2 x1 hq) cw_L_101 0 (sW_c0 ..) rfl (List.range (sW d.1 q0 q cA d.2.1 d.2.2).length) (full_map _) (nd_of _ List.nodup_range) rfl rfl hl.1 (Nat.le_of_ble_eq_true rfl) dL_ordersByAll_2 ⟨(Nat.le_of_ble_eq_true rfl), (Nat.le_of_ble_eq_true rfl)⟩ rfl rfl ⟨(Nat.le_of_ble_eq_true rfl), (Nat.le_of_ble_eq_true rfl)⟩ (fun H1 locs1 q9 ce h1 h2 h3 k => vx_catch (name := IOB) hown [] ⟨0, 5, 6, 23⟩ [] (htab.trans rfl) (fun z hz => by cases hz) (by decide) (by decide) (hts _ cl_23) (cast_ok hX.2.1 cs1.1) h1 h2 h3 k) (fun q9 H locs h => ?_)
        refine lv_astore_n (pc := 6) (lv' := [(2, .ref q9), (0, .ref (q0 0)), (1, .int x1)]) hx hb dL_ordersByAll_6 rfl hl (by decide) rfl (fun ls hl => ?_)
        refine lv_ldc (pc := 7) (v := -1000001) hx hb hown (hts _ kc_L_25) dL_ordersByAll_7 ?_
        exact end_i (pc := 9) C hr (by decide) (by decide) h dL_ordersByAll_9
    | inr z =>
      cases hf
      refine vxL_ofH (Qc := fun sz => PostU D (kW q0 q cA d) (kW q0 q cA d) sz (some (.int z))) (by decide) (Nat.le_of_ble_eq_true rfl) ?_
      intro p l e s m below meth c ls hl0 C hr htab hXA hN hR0 h hl
      have C : Cx p s m _ meth c cL_ordersByAll 3 RL D cA := C
      obtain ⟨hx, hb, hml, hown, hts, hK, hlk⟩ := id C
      replace hl : lv_has ls 3 [(0, .ref (q0 0)), (1, .int x1)] := hl
      have hX := hXA.toXG
      replace h : St D (va_A (kW q0 q cA d) s.heap.size) s.heap (sW d.1 q0 q cA d.2.1 d.2.2) s.heap [] := h
      replace hR0 : SR D s.heap (sW d.1 q0 q cA d.2.1 d.2.2) s.heap [] := hR0
      refine lv_aload_n (pc := 0) hx hb dL_ordersByAll_0 rfl (lv_at hl 0 rfl) ?_
      refine lv_iload_n (pc := 1) hx hb dL_ordersByAll_1 rfl (lv_at hl 1 rfl) ?_
      refine call_VR (pc := 2) (As := [.int x1]) (rest := []) C h (k_X4_ordersByAll hn d.2.1 d.2.2 x1 hq) cw_L_101 0 (sW_c0 ..) rfl (List.range (sW d.1 q0 q cA d.2.1 d.2.2).length) (full_map _) (nd_of _ List.nodup_range) rfl rfl hl.1 (Nat.le_of_ble_eq_true rfl) dL_ordersByAll_2 ⟨(Nat.le_of_ble_eq_true rfl), (Nat.le_of_ble_eq_true rfl)⟩ rfl rfl ⟨(Nat.le_of_ble_eq_true rfl), (Nat.le_of_ble_eq_true rfl)⟩ (fun H locs h => ?_)
      refine W.eq (g2 := F0 m 5 ls [.int z]) rfl ?_
      exact end_i (pc := 5) C hr (by decide) (by decide) h dL_ordersByAll_5
abbrev rmW_draft : Room := { frames := 7, cells := 20, slots := 263, locals := 104 }
def gm_draft (d : Dk) : Option (Int32 × Dk) := if d.1 < 6 then some (nI d.1, d.1 + 1, d.2.1, va_up d.2.2 d.1 (fun _ _ => 0)) else if d.1 = 6 then some (-1000003, d) else none
theorem up_selfq (q : Nat → Nat → Nat) (n : Nat) : va_up q n (q n) = q := by
  funext i
  by_cases hi : i = n
  · subst hi; exact if_pos rfl
  · exact if_neg hi
set_option maxHeartbeats 400000 in
set_option maxRecDepth 100000 in
theorem vm_draft {q0 : Nat → Nat} {q : Nat → Nat → Nat} {cA : Nat → ClassId} {D : va_G} (d : Dk) {z : Int32 × Dk} (hf : gm_draft d = some z) : CtE (α := Nat → Nat) yL_draft (.codeWith yL_draft cL_draft 2 (some .int) [(0, 4, 5, 16)]) rmW_draft [.ref (q0 0)] D cA (kW q0 q cA d) (fun qe => kW q0 (va_up q d.1 qe) cA z.2) (.int z.1) 20 263 := by
  unfold gm_draft at hf
  by_cases hn : d.1 < 6
  · rw [if_pos hn] at hf
    cases hf
    refine vxL_ofH (Qc := fun sz => PostE D (kW q0 q cA d) (fun qe : Nat → Nat => kW q0 (va_up q d.1 qe) cA (d.1 + 1, d.2.1, va_up d.2.2 d.1 (fun _ _ => 0))) sz (.int (nI d.1))) (by decide) (Nat.le_of_ble_eq_true rfl) ?_
    intro p l e s m below meth c ls hl0 C hr htab hXA hN hR0 h hl
    have C : Cx p s m _ meth c cL_draft 2 RL D cA := C
    obtain ⟨hx, hb, hml, hown, hts, hK, hlk⟩ := id C
    replace hl : lv_has ls 2 [(0, .ref (q0 0))] := hl
    have hX := hXA.toXG
    replace h : St D (va_A (kW q0 q cA d) s.heap.size) s.heap (sW d.1 q0 q cA d.2.1 d.2.2) s.heap [] := h
    replace hR0 : SR D s.heap (sW d.1 q0 q cA d.2.1 d.2.2) s.heap [] := hR0
    refine lv_aload_n (pc := 0) hx hb dL_draft_0 rfl (lv_at hl 0 rfl) ?_
    refine run_E (pc := 1) (v := some (.int (nI d.1))) (rest := []) (wc := (sW d.1 q0 q cA d.2.1 d.2.2)) (wr := []) (W' := fun qe => sW (d.1 + 1) q0 (va_up q d.1 qe) cA d.2.1 (va_up d.2.2 d.1 (fun _ _ => 0))) (fun st oc t h => h) (va_runV (rest := []) (As := []) ⟨hx, hb, hml, hown, hts⟩ (k_X4_draft hn (q0 := q0) (q := q) (D := D) (cA := cA) d.2.1 d.2.2 l s.heap.size) (CWv.use cw_L_10 hts rfl rfl ⟨(Nat.le_of_ble_eq_true rfl), (Nat.le_of_ble_eq_true rfl)⟩) ⟨PreC.blind, recv_ok C h.1 0 (sW_c0 ..) rfl, pre_ok C (sub_P h.1 (isC := (List.range (sW d.1 q0 q cA d.2.1 d.2.2).length)) (full_map _)) (sub_D hR0.2.1 (isC := (List.range (sW d.1 q0 q cA d.2.1 d.2.2).length)) (full_map _) (nd_of _ List.nodup_range))⟩ rfl rfl hl.1 rfl (lv_room (Nat.le_of_ble_eq_true rfl)) dL_draft_1 ⟨(Nat.le_of_ble_eq_true rfl), (Nat.le_of_ble_eq_true rfl)⟩) (St_perm (kW_self q0 q cA d) h) (fun qe H locs h => ?_)
    refine W.eq (g2 := F0 m 4 ls [.int (nI d.1)]) rfl ?_
    replace h := St_perm (kW_self q0 (va_up q d.1 qe) cA (d.1 + 1, d.2.1, va_up d.2.2 d.1 (fun _ _ => 0))).symm h
    exact end_iE (pc := 4) qe C hr (by decide) (by decide) h dL_draft_4
  · rw [if_neg hn] at hf
    by_cases hn6 : d.1 = 6
    rotate_left
    · rw [if_neg hn6] at hf
      cases hf
    rw [if_pos hn6] at hf
    cases hf
    refine vxL_ofH (Qc := fun sz => PostE D (kW q0 q cA d) (fun qe : Nat → Nat => kW q0 (va_up q d.1 qe) cA d) sz (.int (-1000003))) (by decide) (Nat.le_of_ble_eq_true rfl) ?_
    intro p l e s m below meth c ls hl0 C hr htab hXA hN hR0 h hl
    have C : Cx p s m _ meth c cL_draft 2 RL D cA := C
    obtain ⟨hx, hb, hml, hown, hts, hK, hlk⟩ := id C
    replace hl : lv_has ls 2 [(0, .ref (q0 0))] := hl
    have hX := hXA.toXG
    replace h : St D (va_A (kW q0 q cA d) s.heap.size) s.heap (sW d.1 q0 q cA d.2.1 d.2.2) s.heap [] := h
    replace hR0 : SR D s.heap (sW d.1 q0 q cA d.2.1 d.2.2) s.heap [] := hR0
    refine lv_aload_n (pc := 0) hx hb dL_draft_0 rfl (lv_at hl 0 rfl) ?_
    refine call_C (pc := 1) (hpc := 5) (As := []) (rest := []) (E := ISE) C hl0 hX hR0 h (kT_X4_draft hn6 d.2.1 d.2.2) cw_L_10 0 (sW_c0 ..) rfl (List.range (sW d.1 q0 q cA d.2.1 d.2.2).length) (full_map _) (nd_of _ List.nodup_range) rfl rfl hl.1 (Nat.le_of_ble_eq_true rfl) dL_draft_1 ⟨(Nat.le_of_ble_eq_true rfl), (Nat.le_of_ble_eq_true rfl)⟩ rfl rfl ⟨(Nat.le_of_ble_eq_true rfl), (Nat.le_of_ble_eq_true rfl)⟩ (fun H1 locs1 q9 ce h1 h2 h3 k => vx_catch (name := ISE) hown [] ⟨0, 4, 5, 16⟩ [] (htab.trans rfl) (fun z hz => by cases hz) (by decide) (by decide) (hts _ cl_16) (cast_ok hX.2.1 cs1.2.2) h1 h2 h3 k) (fun q9 H locs h => ?_)
    refine lv_astore_n (pc := 5) (lv' := [(1, .ref q9), (0, .ref (q0 0))]) hx hb dL_draft_5 rfl hl (by decide) rfl (fun ls hl => ?_)
    refine lv_ldc (pc := 6) (v := -1000003) hx hb hown (hts _ kc_L_18) dL_draft_6 ?_
    exact end_iE (pc := 8) (q d.1) C hr (by decide) (by decide) (by rw [up_selfq]; exact h) dL_draft_8
abbrev rmN_addSlot : Room := { frames := 8, cells := 0, slots := 0, locals := 128 }
abbrev rmW_addSlot : Room := { frames := 8, cells := 1, slots := 6, locals := 128 }
def gn_addSlot (d : Dk) (x1 x2 x3 : Int32) : Option (Int32 × Dk) := if d.1 ≤ 6 then match f_X4_addSlot d.1 d.2.1 d.2.2 x1 x2 x3 with | some (.inr z) => some (z.1, d.1, z.2.1, z.2.2) | _ => none else none
def gm_addSlot (d : Dk) (x1 x2 x3 : Int32) : Option (Int32 × Dk) := if d.1 ≤ 6 then match f_X4_addSlot d.1 d.2.1 d.2.2 x1 x2 x3 with | some (.inr z) => some (z.1, d.1, z.2.1, z.2.2) | some (.inl E) => some (cE E, d) | none => none else none
set_option maxHeartbeats 400000 in
set_option maxRecDepth 100000 in
theorem vn_addSlot {q0 : Nat → Nat} {q : Nat → Nat → Nat} {cA : Nat → ClassId} {D : va_G} (d : Dk) (x1 x2 x3 : Int32) {z : Int32 × Dk} (hf : gn_addSlot d x1 x2 x3 = some z) : CtV yL_addSlot (.codeWith yL_addSlot cL_addSlot 5 (some .int) [(0, 7, 8, 23), (0, 7, 13, 26), (0, 7, 18, 16)]) rmN_addSlot [.ref (q0 0), .int x1, .int x2, .int x3] D cA (kW q0 q cA d) (kW q0 q cA z.2) (.int z.1) 0 0 := by
  unfold gn_addSlot at hf
  by_cases hn : d.1 ≤ 6
  rotate_left
  · rw [if_neg hn] at hf
    cases hf
  rw [if_pos hn] at hf
  cases hq : f_X4_addSlot d.1 d.2.1 d.2.2 x1 x2 x3 with
  | none => rw [hq] at hf; cases hf
  | some y =>
    rw [hq] at hf
    cases y with
    | inl E =>
      cases hf
    | inr z =>
      cases hf
      refine vxL_ofH (Qc := fun sz => PostU D (kW q0 q cA d) (kW q0 q cA (d.1, z.2.1, z.2.2)) sz (some (.int z.1))) (by decide) (Nat.le_of_ble_eq_true rfl) ?_
      intro p l e s m below meth c ls hl0 C hr htab hXA hN hR0 h hl
      have C : Cx p s m _ meth c cL_addSlot 5 RL D cA := C
      obtain ⟨hx, hb, hml, hown, hts, hK, hlk⟩ := id C
      replace hl : lv_has ls 5 [(0, .ref (q0 0)), (1, .int x1), (2, .int x2), (3, .int x3)] := hl
      have hX := hXA.toXG
      replace h : St D (va_A (kW q0 q cA d) s.heap.size) s.heap (sW d.1 q0 q cA d.2.1 d.2.2) s.heap [] := h
      replace hR0 : SR D s.heap (sW d.1 q0 q cA d.2.1 d.2.2) s.heap [] := hR0
      refine lv_aload_n (pc := 0) hx hb dL_addSlot_0 rfl (lv_at hl 0 rfl) ?_
      refine lv_iload_n (pc := 1) hx hb dL_addSlot_1 rfl (lv_at hl 1 rfl) ?_
      refine lv_iload_n (pc := 2) hx hb dL_addSlot_2 rfl (lv_at hl 2 rfl) ?_
      refine lv_iload_n (pc := 3) hx hb dL_addSlot_3 rfl (lv_at hl 3 rfl) ?_
      refine call_VUs (pc := 4) (As := [.int x1, .int x2, .int x3]) (rest := []) (ws' := (sW d.1 q0 q cA z.2.1 z.2.2)) C h (k_X4_addSlot hn d.2.1 d.2.2 x1 x2 x3 hq) cw_L_19 0 (sW_c0 ..) rfl (sW_fst ..) rfl rfl hl.1 (Nat.le_of_ble_eq_true rfl) dL_addSlot_4 ⟨(Nat.le_of_ble_eq_true rfl), (Nat.le_of_ble_eq_true rfl)⟩ rfl rfl ⟨(Nat.le_of_ble_eq_true rfl), (Nat.le_of_ble_eq_true rfl)⟩ (fun H locs h => ?_)
      refine W.eq (g2 := F0 m 7 ls [.int z.1]) rfl ?_
      exact end_i (pc := 7) C hr (by decide) (by decide) h dL_addSlot_7
set_option maxHeartbeats 400000 in
set_option maxRecDepth 100000 in
theorem vm_addSlot {q0 : Nat → Nat} {q : Nat → Nat → Nat} {cA : Nat → ClassId} {D : va_G} (d : Dk) (x1 x2 x3 : Int32) {z : Int32 × Dk} (hf : gm_addSlot d x1 x2 x3 = some z) : CtV yL_addSlot (.codeWith yL_addSlot cL_addSlot 5 (some .int) [(0, 7, 8, 23), (0, 7, 13, 26), (0, 7, 18, 16)]) rmW_addSlot [.ref (q0 0), .int x1, .int x2, .int x3] D cA (kW q0 q cA d) (kW q0 q cA z.2) (.int z.1) 1 6 := by
  unfold gm_addSlot at hf
  by_cases hn : d.1 ≤ 6
  rotate_left
  · rw [if_neg hn] at hf
    cases hf
  rw [if_pos hn] at hf
  cases hq : f_X4_addSlot d.1 d.2.1 d.2.2 x1 x2 x3 with
  | none => rw [hq] at hf; cases hf
  | some y =>
    rw [hq] at hf
    cases y with
    | inl E =>
      cases hf
      rcases E_X4_addSlot hq with h9 | h9 | h9
      · subst h9
        rw [show (cE IAE, d).1 = (-1000002 : Int32) from cE_IAE]
        refine vxL_ofH (Qc := fun sz => PostU D (kW q0 q cA d) (kW q0 q cA d) sz (some (.int (-1000002 : Int32)))) (by decide) (Nat.le_of_ble_eq_true rfl) ?_
        intro p l e s m below meth c ls hl0 C hr htab hXA hN hR0 h hl
        have C : Cx p s m _ meth c cL_addSlot 5 RL D cA := C
        obtain ⟨hx, hb, hml, hown, hts, hK, hlk⟩ := id C
        replace hl : lv_has ls 5 [(0, .ref (q0 0)), (1, .int x1), (2, .int x2), (3, .int x3)] := hl
        have hX := hXA.toXG
        replace h : St D (va_A (kW q0 q cA d) s.heap.size) s.heap (sW d.1 q0 q cA d.2.1 d.2.2) s.heap [] := h
        replace hR0 : SR D s.heap (sW d.1 q0 q cA d.2.1 d.2.2) s.heap [] := hR0
        refine lv_aload_n (pc := 0) hx hb dL_addSlot_0 rfl (lv_at hl 0 rfl) ?_
        refine lv_iload_n (pc := 1) hx hb dL_addSlot_1 rfl (lv_at hl 1 rfl) ?_
        refine lv_iload_n (pc := 2) hx hb dL_addSlot_2 rfl (lv_at hl 2 rfl) ?_
        refine lv_iload_n (pc := 3) hx hb dL_addSlot_3 rfl (lv_at hl 3 rfl) ?_
        refine call_C (pc := 4) (hpc := 13) (As := [.int x1, .int x2, .int x3]) (rest := []) (E := IAE) C hl0 hX hR0 h (kT_X4_addSlot hn d.2.1 d.2.2 x1 x2 x3 hq) cw_L_19 0 (sW_c0 ..) rfl (List.range (sW d.1 q0 q cA d.2.1 d.2.2).length) (full_map _) (nd_of _ List.nodup_range) rfl rfl hl.1 (Nat.le_of_ble_eq_true rfl) dL_addSlot_4 ⟨(Nat.le_of_ble_eq_true rfl), (Nat.le_of_ble_eq_true rfl)⟩ rfl rfl ⟨(Nat.le_of_ble_eq_true rfl), (Nat.le_of_ble_eq_true rfl)⟩ (fun H1 locs1 q9 ce h1 h2 h3 k => vx_catch (name := IAE) hown [⟨0, 7, 8, 23⟩] ⟨0, 7, 13, 26⟩ [⟨0, 7, 18, 16⟩] (htab.trans rfl) (fun z hz => by
            rcases List.mem_cons.mp hz with rfl | hz
            · exact Or.inr ⟨by decide, IOB, hts _ cl_23, hN (IAE, IOB) (by decide +kernel)⟩
            cases hz) (by decide) (by decide) (hts _ cl_26) (cast_ok hX.2.1 cs1.2.1) h1 h2 h3 k) (fun q9 H locs h => ?_)
        refine lv_astore (pc := 13) (lv' := [(4, .ref q9), (0, .ref (q0 0)), (1, .int x1), (2, .int x2), (3, .int x3)]) hx hb dL_addSlot_13 hl (by decide) rfl (fun ls hl => ?_)
        refine lv_ldc (pc := 15) (v := -1000002) hx hb hown (hts _ kc_L_28) dL_addSlot_15 ?_
        exact end_i (pc := 17) C hr (by decide) (by decide) h dL_addSlot_17
      · subst h9
        rw [show (cE IOB, d).1 = (-1000001 : Int32) from cE_IOB]
        refine vxL_ofH (Qc := fun sz => PostU D (kW q0 q cA d) (kW q0 q cA d) sz (some (.int (-1000001 : Int32)))) (by decide) (Nat.le_of_ble_eq_true rfl) ?_
        intro p l e s m below meth c ls hl0 C hr htab hXA hN hR0 h hl
        have C : Cx p s m _ meth c cL_addSlot 5 RL D cA := C
        obtain ⟨hx, hb, hml, hown, hts, hK, hlk⟩ := id C
        replace hl : lv_has ls 5 [(0, .ref (q0 0)), (1, .int x1), (2, .int x2), (3, .int x3)] := hl
        have hX := hXA.toXG
        replace h : St D (va_A (kW q0 q cA d) s.heap.size) s.heap (sW d.1 q0 q cA d.2.1 d.2.2) s.heap [] := h
        replace hR0 : SR D s.heap (sW d.1 q0 q cA d.2.1 d.2.2) s.heap [] := hR0
        refine lv_aload_n (pc := 0) hx hb dL_addSlot_0 rfl (lv_at hl 0 rfl) ?_
        refine lv_iload_n (pc := 1) hx hb dL_addSlot_1 rfl (lv_at hl 1 rfl) ?_
        refine lv_iload_n (pc := 2) hx hb dL_addSlot_2 rfl (lv_at hl 2 rfl) ?_
        refine lv_iload_n (pc := 3) hx hb dL_addSlot_3 rfl (lv_at hl 3 rfl) ?_
        refine call_C (pc := 4) (hpc := 8) (As := [.int x1, .int x2, .int x3]) (rest := []) (E := IOB) C hl0 hX hR0 h (kT_X4_addSlot hn d.2.1 d.2.2 x1 x2 x3 hq) cw_L_19 0 (sW_c0 ..) rfl (List.range (sW d.1 q0 q cA d.2.1 d.2.2).length) (full_map _) (nd_of _ List.nodup_range) rfl rfl hl.1 (Nat.le_of_ble_eq_true rfl) dL_addSlot_4 ⟨(Nat.le_of_ble_eq_true rfl), (Nat.le_of_ble_eq_true rfl)⟩ rfl rfl ⟨(Nat.le_of_ble_eq_true rfl), (Nat.le_of_ble_eq_true rfl)⟩ (fun H1 locs1 q9 ce h1 h2 h3 k => vx_catch (name := IOB) hown [] ⟨0, 7, 8, 23⟩ [⟨0, 7, 13, 26⟩, ⟨0, 7, 18, 16⟩] (htab.trans rfl) (fun z hz => by cases hz) (by decide) (by decide) (hts _ cl_23) (cast_ok hX.2.1 cs1.1) h1 h2 h3 k) (fun q9 H locs h => ?_)
        refine lv_astore (pc := 8) (lv' := [(4, .ref q9), (0, .ref (q0 0)), (1, .int x1), (2, .int x2), (3, .int x3)]) hx hb dL_addSlot_8 hl (by decide) rfl (fun ls hl => ?_)
        refine lv_ldc (pc := 10) (v := -1000001) hx hb hown (hts _ kc_L_25) dL_addSlot_10 ?_
        exact end_i (pc := 12) C hr (by decide) (by decide) h dL_addSlot_12
      · subst h9
        rw [show (cE ISE, d).1 = (-1000003 : Int32) from cE_ISE]
        refine vxL_ofH (Qc := fun sz => PostU D (kW q0 q cA d) (kW q0 q cA d) sz (some (.int (-1000003 : Int32)))) (by decide) (Nat.le_of_ble_eq_true rfl) ?_
        intro p l e s m below meth c ls hl0 C hr htab hXA hN hR0 h hl
        have C : Cx p s m _ meth c cL_addSlot 5 RL D cA := C
        obtain ⟨hx, hb, hml, hown, hts, hK, hlk⟩ := id C
        replace hl : lv_has ls 5 [(0, .ref (q0 0)), (1, .int x1), (2, .int x2), (3, .int x3)] := hl
        have hX := hXA.toXG
        replace h : St D (va_A (kW q0 q cA d) s.heap.size) s.heap (sW d.1 q0 q cA d.2.1 d.2.2) s.heap [] := h
        replace hR0 : SR D s.heap (sW d.1 q0 q cA d.2.1 d.2.2) s.heap [] := hR0
        refine lv_aload_n (pc := 0) hx hb dL_addSlot_0 rfl (lv_at hl 0 rfl) ?_
        refine lv_iload_n (pc := 1) hx hb dL_addSlot_1 rfl (lv_at hl 1 rfl) ?_
        refine lv_iload_n (pc := 2) hx hb dL_addSlot_2 rfl (lv_at hl 2 rfl) ?_
        refine lv_iload_n (pc := 3) hx hb dL_addSlot_3 rfl (lv_at hl 3 rfl) ?_
        refine call_C (pc := 4) (hpc := 18) (As := [.int x1, .int x2, .int x3]) (rest := []) (E := ISE) C hl0 hX hR0 h (kT_X4_addSlot hn d.2.1 d.2.2 x1 x2 x3 hq) cw_L_19 0 (sW_c0 ..) rfl (List.range (sW d.1 q0 q cA d.2.1 d.2.2).length) (full_map _) (nd_of _ List.nodup_range) rfl rfl hl.1 (Nat.le_of_ble_eq_true rfl) dL_addSlot_4 ⟨(Nat.le_of_ble_eq_true rfl), (Nat.le_of_ble_eq_true rfl)⟩ rfl rfl ⟨(Nat.le_of_ble_eq_true rfl), (Nat.le_of_ble_eq_true rfl)⟩ (fun H1 locs1 q9 ce h1 h2 h3 k => vx_catch (name := ISE) hown [⟨0, 7, 8, 23⟩, ⟨0, 7, 13, 26⟩] ⟨0, 7, 18, 16⟩ [] (htab.trans rfl) (fun z hz => by
            rcases List.mem_cons.mp hz with rfl | hz
            · exact Or.inr ⟨by decide, IOB, hts _ cl_23, hN (ISE, IOB) (by decide +kernel)⟩
            rcases List.mem_cons.mp hz with rfl | hz
            · exact Or.inr ⟨by decide, IAE, hts _ cl_26, hN (ISE, IAE) (by decide +kernel)⟩
            cases hz) (by decide) (by decide) (hts _ cl_16) (cast_ok hX.2.1 cs1.2.2) h1 h2 h3 k) (fun q9 H locs h => ?_)
        refine lv_astore (pc := 18) (lv' := [(4, .ref q9), (0, .ref (q0 0)), (1, .int x1), (2, .int x2), (3, .int x3)]) hx hb dL_addSlot_18 hl (by decide) rfl (fun ls hl => ?_)
        refine lv_ldc (pc := 20) (v := -1000003) hx hb hown (hts _ kc_L_18) dL_addSlot_20 ?_
        exact end_i (pc := 22) C hr (by decide) (by decide) h dL_addSlot_22
    | inr z =>
      cases hf
      refine vxL_ofH (Qc := fun sz => PostU D (kW q0 q cA d) (kW q0 q cA (d.1, z.2.1, z.2.2)) sz (some (.int z.1))) (by decide) (Nat.le_of_ble_eq_true rfl) ?_
      intro p l e s m below meth c ls hl0 C hr htab hXA hN hR0 h hl
      have C : Cx p s m _ meth c cL_addSlot 5 RL D cA := C
      obtain ⟨hx, hb, hml, hown, hts, hK, hlk⟩ := id C
      replace hl : lv_has ls 5 [(0, .ref (q0 0)), (1, .int x1), (2, .int x2), (3, .int x3)] := hl
      have hX := hXA.toXG
      replace h : St D (va_A (kW q0 q cA d) s.heap.size) s.heap (sW d.1 q0 q cA d.2.1 d.2.2) s.heap [] := h
      replace hR0 : SR D s.heap (sW d.1 q0 q cA d.2.1 d.2.2) s.heap [] := hR0
      refine lv_aload_n (pc := 0) hx hb dL_addSlot_0 rfl (lv_at hl 0 rfl) ?_
      refine lv_iload_n (pc := 1) hx hb dL_addSlot_1 rfl (lv_at hl 1 rfl) ?_
      refine lv_iload_n (pc := 2) hx hb dL_addSlot_2 rfl (lv_at hl 2 rfl) ?_
      refine lv_iload_n (pc := 3) hx hb dL_addSlot_3 rfl (lv_at hl 3 rfl) ?_
      refine call_VUs (pc := 4) (As := [.int x1, .int x2, .int x3]) (rest := []) (ws' := (sW d.1 q0 q cA z.2.1 z.2.2)) C h (k_X4_addSlot hn d.2.1 d.2.2 x1 x2 x3 hq) cw_L_19 0 (sW_c0 ..) rfl (sW_fst ..) rfl rfl hl.1 (Nat.le_of_ble_eq_true rfl) dL_addSlot_4 ⟨(Nat.le_of_ble_eq_true rfl), (Nat.le_of_ble_eq_true rfl)⟩ rfl rfl ⟨(Nat.le_of_ble_eq_true rfl), (Nat.le_of_ble_eq_true rfl)⟩ (fun H locs h => ?_)
      refine W.eq (g2 := F0 m 7 ls [.int z.1]) rfl ?_
      exact end_i (pc := 7) C hr (by decide) (by decide) h dL_addSlot_7
abbrev rmN_addRound : Room := { frames := 8, cells := 0, slots := 0, locals := 129 }
abbrev rmW_addRound : Room := { frames := 8, cells := 1, slots := 6, locals := 129 }
def gn_addRound (d : Dk) (x1 x2 : Int32) : Option (Int32 × Dk) := if d.1 ≤ 6 then match f_X4_addRound d.1 d.2.1 d.2.2 x1 x2 with | some (.inr z) => some (z.1, d.1, z.2.1, z.2.2) | _ => none else none
def gm_addRound (d : Dk) (x1 x2 : Int32) : Option (Int32 × Dk) := if d.1 ≤ 6 then match f_X4_addRound d.1 d.2.1 d.2.2 x1 x2 with | some (.inr z) => some (z.1, d.1, z.2.1, z.2.2) | some (.inl E) => some (cE E, d) | none => none else none
set_option maxHeartbeats 400000 in
set_option maxRecDepth 100000 in
theorem vn_addRound {q0 : Nat → Nat} {q : Nat → Nat → Nat} {cA : Nat → ClassId} {D : va_G} (d : Dk) (x1 x2 : Int32) {z : Int32 × Dk} (hf : gn_addRound d x1 x2 = some z) : CtV yL_addRound (.codeWith yL_addRound cL_addRound 4 (some .int) [(0, 6, 7, 23), (0, 6, 11, 26), (0, 6, 15, 16)]) rmN_addRound [.ref (q0 0), .int x1, .int x2] D cA (kW q0 q cA d) (kW q0 q cA z.2) (.int z.1) 0 0 := by
  unfold gn_addRound at hf
  by_cases hn : d.1 ≤ 6
  rotate_left
  · rw [if_neg hn] at hf
    cases hf
  rw [if_pos hn] at hf
  cases hq : f_X4_addRound d.1 d.2.1 d.2.2 x1 x2 with
  | none => rw [hq] at hf; cases hf
  | some y =>
    rw [hq] at hf
    cases y with
    | inl E =>
      cases hf
    | inr z =>
      cases hf
      refine vxL_ofH (Qc := fun sz => PostU D (kW q0 q cA d) (kW q0 q cA (d.1, z.2.1, z.2.2)) sz (some (.int z.1))) (by decide) (Nat.le_of_ble_eq_true rfl) ?_
      intro p l e s m below meth c ls hl0 C hr htab hXA hN hR0 h hl
      have C : Cx p s m _ meth c cL_addRound 4 RL D cA := C
      obtain ⟨hx, hb, hml, hown, hts, hK, hlk⟩ := id C
      replace hl : lv_has ls 4 [(0, .ref (q0 0)), (1, .int x1), (2, .int x2)] := hl
      have hX := hXA.toXG
      replace h : St D (va_A (kW q0 q cA d) s.heap.size) s.heap (sW d.1 q0 q cA d.2.1 d.2.2) s.heap [] := h
      replace hR0 : SR D s.heap (sW d.1 q0 q cA d.2.1 d.2.2) s.heap [] := hR0
      refine lv_aload_n (pc := 0) hx hb dL_addRound_0 rfl (lv_at hl 0 rfl) ?_
      refine lv_iload_n (pc := 1) hx hb dL_addRound_1 rfl (lv_at hl 1 rfl) ?_
      refine lv_iload_n (pc := 2) hx hb dL_addRound_2 rfl (lv_at hl 2 rfl) ?_
      refine call_VUs (pc := 3) (As := [.int x1, .int x2]) (rest := []) (ws' := (sW d.1 q0 q cA z.2.1 z.2.2)) C h (k_X4_addRound hn d.2.1 d.2.2 x1 x2 hq) cw_L_29 0 (sW_c0 ..) rfl (sW_fst ..) rfl rfl hl.1 (Nat.le_of_ble_eq_true rfl) dL_addRound_3 ⟨(Nat.le_of_ble_eq_true rfl), (Nat.le_of_ble_eq_true rfl)⟩ rfl rfl ⟨(Nat.le_of_ble_eq_true rfl), (Nat.le_of_ble_eq_true rfl)⟩ (fun H locs h => ?_)
      refine W.eq (g2 := F0 m 6 ls [.int z.1]) rfl ?_
      exact end_i (pc := 6) C hr (by decide) (by decide) h dL_addRound_6
set_option maxHeartbeats 400000 in
set_option maxRecDepth 100000 in
theorem vm_addRound {q0 : Nat → Nat} {q : Nat → Nat → Nat} {cA : Nat → ClassId} {D : va_G} (d : Dk) (x1 x2 : Int32) {z : Int32 × Dk} (hf : gm_addRound d x1 x2 = some z) : CtV yL_addRound (.codeWith yL_addRound cL_addRound 4 (some .int) [(0, 6, 7, 23), (0, 6, 11, 26), (0, 6, 15, 16)]) rmW_addRound [.ref (q0 0), .int x1, .int x2] D cA (kW q0 q cA d) (kW q0 q cA z.2) (.int z.1) 1 6 := by
  unfold gm_addRound at hf
  by_cases hn : d.1 ≤ 6
  rotate_left
  · rw [if_neg hn] at hf
    cases hf
  rw [if_pos hn] at hf
  cases hq : f_X4_addRound d.1 d.2.1 d.2.2 x1 x2 with
  | none => rw [hq] at hf; cases hf
  | some y =>
    rw [hq] at hf
    cases y with
    | inl E =>
      cases hf
      rcases E_X4_addRound hq with h9 | h9 | h9
      · subst h9
        rw [show (cE IAE, d).1 = (-1000002 : Int32) from cE_IAE]
        refine vxL_ofH (Qc := fun sz => PostU D (kW q0 q cA d) (kW q0 q cA d) sz (some (.int (-1000002 : Int32)))) (by decide) (Nat.le_of_ble_eq_true rfl) ?_
        intro p l e s m below meth c ls hl0 C hr htab hXA hN hR0 h hl
        have C : Cx p s m _ meth c cL_addRound 4 RL D cA := C
        obtain ⟨hx, hb, hml, hown, hts, hK, hlk⟩ := id C
        replace hl : lv_has ls 4 [(0, .ref (q0 0)), (1, .int x1), (2, .int x2)] := hl
        have hX := hXA.toXG
        replace h : St D (va_A (kW q0 q cA d) s.heap.size) s.heap (sW d.1 q0 q cA d.2.1 d.2.2) s.heap [] := h
        replace hR0 : SR D s.heap (sW d.1 q0 q cA d.2.1 d.2.2) s.heap [] := hR0
        refine lv_aload_n (pc := 0) hx hb dL_addRound_0 rfl (lv_at hl 0 rfl) ?_
        refine lv_iload_n (pc := 1) hx hb dL_addRound_1 rfl (lv_at hl 1 rfl) ?_
        refine lv_iload_n (pc := 2) hx hb dL_addRound_2 rfl (lv_at hl 2 rfl) ?_
        refine call_C (pc := 3) (hpc := 11) (As := [.int x1, .int x2]) (rest := []) (E := IAE) C hl0 hX hR0 h (kT_X4_addRound hn d.2.1 d.2.2 x1 x2 hq) cw_L_29 0 (sW_c0 ..) rfl (List.range (sW d.1 q0 q cA d.2.1 d.2.2).length) (full_map _) (nd_of _ List.nodup_range) rfl rfl hl.1 (Nat.le_of_ble_eq_true rfl) dL_addRound_3 ⟨(Nat.le_of_ble_eq_true rfl), (Nat.le_of_ble_eq_true rfl)⟩ rfl rfl ⟨(Nat.le_of_ble_eq_true rfl), (Nat.le_of_ble_eq_true rfl)⟩ (fun H1 locs1 q9 ce h1 h2 h3 k => vx_catch (name := IAE) hown [⟨0, 6, 7, 23⟩] ⟨0, 6, 11, 26⟩ [⟨0, 6, 15, 16⟩] (htab.trans rfl) (fun z hz => by
            rcases List.mem_cons.mp hz with rfl | hz
            · exact Or.inr ⟨by decide, IOB, hts _ cl_23, hN (IAE, IOB) (by decide +kernel)⟩
            cases hz) (by decide) (by decide) (hts _ cl_26) (cast_ok hX.2.1 cs1.2.1) h1 h2 h3 k) (fun q9 H locs h => ?_)
        refine lv_astore_n (pc := 11) (lv' := [(3, .ref q9), (0, .ref (q0 0)), (1, .int x1), (2, .int x2)]) hx hb dL_addRound_11 rfl hl (by decide) rfl (fun ls hl => ?_)
        refine lv_ldc (pc := 12) (v := -1000002) hx hb hown (hts _ kc_L_28) dL_addRound_12 ?_
        exact end_i (pc := 14) C hr (by decide) (by decide) h dL_addRound_14
      · subst h9
        rw [show (cE IOB, d).1 = (-1000001 : Int32) from cE_IOB]
        refine vxL_ofH (Qc := fun sz => PostU D (kW q0 q cA d) (kW q0 q cA d) sz (some (.int (-1000001 : Int32)))) (by decide) (Nat.le_of_ble_eq_true rfl) ?_
        intro p l e s m below meth c ls hl0 C hr htab hXA hN hR0 h hl
        have C : Cx p s m _ meth c cL_addRound 4 RL D cA := C
        obtain ⟨hx, hb, hml, hown, hts, hK, hlk⟩ := id C
        replace hl : lv_has ls 4 [(0, .ref (q0 0)), (1, .int x1), (2, .int x2)] := hl
        have hX := hXA.toXG
        replace h : St D (va_A (kW q0 q cA d) s.heap.size) s.heap (sW d.1 q0 q cA d.2.1 d.2.2) s.heap [] := h
        replace hR0 : SR D s.heap (sW d.1 q0 q cA d.2.1 d.2.2) s.heap [] := hR0
        refine lv_aload_n (pc := 0) hx hb dL_addRound_0 rfl (lv_at hl 0 rfl) ?_
        refine lv_iload_n (pc := 1) hx hb dL_addRound_1 rfl (lv_at hl 1 rfl) ?_
        refine lv_iload_n (pc := 2) hx hb dL_addRound_2 rfl (lv_at hl 2 rfl) ?_
        refine call_C (pc := 3) (hpc := 7) (As := [.int x1, .int x2]) (rest := []) (E := IOB) C hl0 hX hR0 h (kT_X4_addRound hn d.2.1 d.2.2 x1 x2 hq) cw_L_29 0 (sW_c0 ..) rfl (List.range (sW d.1 q0 q cA d.2.1 d.2.2).length) (full_map _) (nd_of _ List.nodup_range) rfl rfl hl.1 (Nat.le_of_ble_eq_true rfl) dL_addRound_3 ⟨(Nat.le_of_ble_eq_true rfl), (Nat.le_of_ble_eq_true rfl)⟩ rfl rfl ⟨(Nat.le_of_ble_eq_true rfl), (Nat.le_of_ble_eq_true rfl)⟩ (fun H1 locs1 q9 ce h1 h2 h3 k => vx_catch (name := IOB) hown [] ⟨0, 6, 7, 23⟩ [⟨0, 6, 11, 26⟩, ⟨0, 6, 15, 16⟩] (htab.trans rfl) (fun z hz => by cases hz) (by decide) (by decide) (hts _ cl_23) (cast_ok hX.2.1 cs1.1) h1 h2 h3 k) (fun q9 H locs h => ?_)
        refine lv_astore_n (pc := 7) (lv' := [(3, .ref q9), (0, .ref (q0 0)), (1, .int x1), (2, .int x2)]) hx hb dL_addRound_7 rfl hl (by decide) rfl (fun ls hl => ?_)
        refine lv_ldc (pc := 8) (v := -1000001) hx hb hown (hts _ kc_L_25) dL_addRound_8 ?_
        exact end_i (pc := 10) C hr (by decide) (by decide) h dL_addRound_10
      · subst h9
        rw [show (cE ISE, d).1 = (-1000003 : Int32) from cE_ISE]
        refine vxL_ofH (Qc := fun sz => PostU D (kW q0 q cA d) (kW q0 q cA d) sz (some (.int (-1000003 : Int32)))) (by decide) (Nat.le_of_ble_eq_true rfl) ?_
        intro p l e s m below meth c ls hl0 C hr htab hXA hN hR0 h hl
        have C : Cx p s m _ meth c cL_addRound 4 RL D cA := C
        obtain ⟨hx, hb, hml, hown, hts, hK, hlk⟩ := id C
        replace hl : lv_has ls 4 [(0, .ref (q0 0)), (1, .int x1), (2, .int x2)] := hl
        have hX := hXA.toXG
        replace h : St D (va_A (kW q0 q cA d) s.heap.size) s.heap (sW d.1 q0 q cA d.2.1 d.2.2) s.heap [] := h
        replace hR0 : SR D s.heap (sW d.1 q0 q cA d.2.1 d.2.2) s.heap [] := hR0
        refine lv_aload_n (pc := 0) hx hb dL_addRound_0 rfl (lv_at hl 0 rfl) ?_
        refine lv_iload_n (pc := 1) hx hb dL_addRound_1 rfl (lv_at hl 1 rfl) ?_
        refine lv_iload_n (pc := 2) hx hb dL_addRound_2 rfl (lv_at hl 2 rfl) ?_
        refine call_C (pc := 3) (hpc := 15) (As := [.int x1, .int x2]) (rest := []) (E := ISE) C hl0 hX hR0 h (kT_X4_addRound hn d.2.1 d.2.2 x1 x2 hq) cw_L_29 0 (sW_c0 ..) rfl (List.range (sW d.1 q0 q cA d.2.1 d.2.2).length) (full_map _) (nd_of _ List.nodup_range) rfl rfl hl.1 (Nat.le_of_ble_eq_true rfl) dL_addRound_3 ⟨(Nat.le_of_ble_eq_true rfl), (Nat.le_of_ble_eq_true rfl)⟩ rfl rfl ⟨(Nat.le_of_ble_eq_true rfl), (Nat.le_of_ble_eq_true rfl)⟩ (fun H1 locs1 q9 ce h1 h2 h3 k => vx_catch (name := ISE) hown [⟨0, 6, 7, 23⟩, ⟨0, 6, 11, 26⟩] ⟨0, 6, 15, 16⟩ [] (htab.trans rfl) (fun z hz => by
            rcases List.mem_cons.mp hz with rfl | hz
            · exact Or.inr ⟨by decide, IOB, hts _ cl_23, hN (ISE, IOB) (by decide +kernel)⟩
            rcases List.mem_cons.mp hz with rfl | hz
            · exact Or.inr ⟨by decide, IAE, hts _ cl_26, hN (ISE, IAE) (by decide +kernel)⟩
            cases hz) (by decide) (by decide) (hts _ cl_16) (cast_ok hX.2.1 cs1.2.2) h1 h2 h3 k) (fun q9 H locs h => ?_)
        refine lv_astore_n (pc := 15) (lv' := [(3, .ref q9), (0, .ref (q0 0)), (1, .int x1), (2, .int x2)]) hx hb dL_addRound_15 rfl hl (by decide) rfl (fun ls hl => ?_)
        refine lv_ldc (pc := 16) (v := -1000003) hx hb hown (hts _ kc_L_18) dL_addRound_16 ?_
        exact end_i (pc := 18) C hr (by decide) (by decide) h dL_addRound_18
    | inr z =>
      cases hf
      refine vxL_ofH (Qc := fun sz => PostU D (kW q0 q cA d) (kW q0 q cA (d.1, z.2.1, z.2.2)) sz (some (.int z.1))) (by decide) (Nat.le_of_ble_eq_true rfl) ?_
      intro p l e s m below meth c ls hl0 C hr htab hXA hN hR0 h hl
      have C : Cx p s m _ meth c cL_addRound 4 RL D cA := C
      obtain ⟨hx, hb, hml, hown, hts, hK, hlk⟩ := id C
      replace hl : lv_has ls 4 [(0, .ref (q0 0)), (1, .int x1), (2, .int x2)] := hl
      have hX := hXA.toXG
      replace h : St D (va_A (kW q0 q cA d) s.heap.size) s.heap (sW d.1 q0 q cA d.2.1 d.2.2) s.heap [] := h
      replace hR0 : SR D s.heap (sW d.1 q0 q cA d.2.1 d.2.2) s.heap [] := hR0
      refine lv_aload_n (pc := 0) hx hb dL_addRound_0 rfl (lv_at hl 0 rfl) ?_
      refine lv_iload_n (pc := 1) hx hb dL_addRound_1 rfl (lv_at hl 1 rfl) ?_
      refine lv_iload_n (pc := 2) hx hb dL_addRound_2 rfl (lv_at hl 2 rfl) ?_
      refine call_VUs (pc := 3) (As := [.int x1, .int x2]) (rest := []) (ws' := (sW d.1 q0 q cA z.2.1 z.2.2)) C h (k_X4_addRound hn d.2.1 d.2.2 x1 x2 hq) cw_L_29 0 (sW_c0 ..) rfl (sW_fst ..) rfl rfl hl.1 (Nat.le_of_ble_eq_true rfl) dL_addRound_3 ⟨(Nat.le_of_ble_eq_true rfl), (Nat.le_of_ble_eq_true rfl)⟩ rfl rfl ⟨(Nat.le_of_ble_eq_true rfl), (Nat.le_of_ble_eq_true rfl)⟩ (fun H locs h => ?_)
      refine W.eq (g2 := F0 m 6 ls [.int z.1]) rfl ?_
      exact end_i (pc := 6) C hr (by decide) (by decide) h dL_addRound_6
abbrev rmN_setTimes : Room := { frames := 8, cells := 0, slots := 0, locals := 128 }
abbrev rmW_setTimes : Room := { frames := 8, cells := 1, slots := 6, locals := 128 }
def gn_setTimes (d : Dk) (x1 x2 x3 : Int32) : Option (Int32 × Dk) := if d.1 ≤ 6 then match f_X4_setTimes d.1 d.2.1 d.2.2 x1 x2 x3 with | some (.inr z) => some (0, d.1, z.1, z.2) | _ => none else none
def gm_setTimes (d : Dk) (x1 x2 x3 : Int32) : Option (Int32 × Dk) := if d.1 ≤ 6 then match f_X4_setTimes d.1 d.2.1 d.2.2 x1 x2 x3 with | some (.inr z) => some (0, d.1, z.1, z.2) | some (.inl E) => some (cE E, d) | none => none else none
set_option maxHeartbeats 400000 in
set_option maxRecDepth 100000 in
theorem vn_setTimes {q0 : Nat → Nat} {q : Nat → Nat → Nat} {cA : Nat → ClassId} {D : va_G} (d : Dk) (x1 x2 x3 : Int32) {z : Int32 × Dk} (hf : gn_setTimes d x1 x2 x3 = some z) : CtV yL_setTimes (.codeWith yL_setTimes cL_setTimes 5 (some .int) [(0, 8, 9, 23), (0, 8, 14, 26), (0, 8, 19, 16)]) rmN_setTimes [.ref (q0 0), .int x1, .int x2, .int x3] D cA (kW q0 q cA d) (kW q0 q cA z.2) (.int z.1) 0 0 := by
  unfold gn_setTimes at hf
  by_cases hn : d.1 ≤ 6
  rotate_left
  · rw [if_neg hn] at hf
    cases hf
  rw [if_pos hn] at hf
  cases hq : f_X4_setTimes d.1 d.2.1 d.2.2 x1 x2 x3 with
  | none => rw [hq] at hf; cases hf
  | some y =>
    rw [hq] at hf
    cases y with
    | inl E =>
      cases hf
    | inr z =>
      cases hf
      refine vxL_ofH (Qc := fun sz => PostU D (kW q0 q cA d) (kW q0 q cA (d.1, z.1, z.2)) sz (some (.int 0))) (by decide) (Nat.le_of_ble_eq_true rfl) ?_
      intro p l e s m below meth c ls hl0 C hr htab hXA hN hR0 h hl
      have C : Cx p s m _ meth c cL_setTimes 5 RL D cA := C
      obtain ⟨hx, hb, hml, hown, hts, hK, hlk⟩ := id C
      replace hl : lv_has ls 5 [(0, .ref (q0 0)), (1, .int x1), (2, .int x2), (3, .int x3)] := hl
      have hX := hXA.toXG
      replace h : St D (va_A (kW q0 q cA d) s.heap.size) s.heap (sW d.1 q0 q cA d.2.1 d.2.2) s.heap [] := h
      replace hR0 : SR D s.heap (sW d.1 q0 q cA d.2.1 d.2.2) s.heap [] := hR0
      refine lv_aload_n (pc := 0) hx hb dL_setTimes_0 rfl (lv_at hl 0 rfl) ?_
      refine lv_iload_n (pc := 1) hx hb dL_setTimes_1 rfl (lv_at hl 1 rfl) ?_
      refine lv_iload_n (pc := 2) hx hb dL_setTimes_2 rfl (lv_at hl 2 rfl) ?_
      refine lv_iload_n (pc := 3) hx hb dL_setTimes_3 rfl (lv_at hl 3 rfl) ?_
      refine call_VUs (pc := 4) (As := [.int x1, .int x2, .int x3]) (rest := []) (ws' := (sW d.1 q0 q cA z.1 z.2)) C h (k_X4_setTimes hn d.2.1 d.2.2 x1 x2 x3 hq) cw_L_33 0 (sW_c0 ..) rfl (sW_fst ..) rfl rfl hl.1 (Nat.le_of_ble_eq_true rfl) dL_setTimes_4 ⟨(Nat.le_of_ble_eq_true rfl), (Nat.le_of_ble_eq_true rfl)⟩ rfl rfl ⟨(Nat.le_of_ble_eq_true rfl), (Nat.le_of_ble_eq_true rfl)⟩ (fun H locs h => ?_)
      refine W.eq (g2 := F0 m 7 ls []) rfl ?_
      refine lv_iconst (pc := 7) (v := 0) hx hb dL_setTimes_7 (by decide) ?_
      exact end_i (pc := 8) C hr (by decide) (by decide) h dL_setTimes_8
set_option maxHeartbeats 400000 in
set_option maxRecDepth 100000 in
theorem vm_setTimes {q0 : Nat → Nat} {q : Nat → Nat → Nat} {cA : Nat → ClassId} {D : va_G} (d : Dk) (x1 x2 x3 : Int32) {z : Int32 × Dk} (hf : gm_setTimes d x1 x2 x3 = some z) : CtV yL_setTimes (.codeWith yL_setTimes cL_setTimes 5 (some .int) [(0, 8, 9, 23), (0, 8, 14, 26), (0, 8, 19, 16)]) rmW_setTimes [.ref (q0 0), .int x1, .int x2, .int x3] D cA (kW q0 q cA d) (kW q0 q cA z.2) (.int z.1) 1 6 := by
  unfold gm_setTimes at hf
  by_cases hn : d.1 ≤ 6
  rotate_left
  · rw [if_neg hn] at hf
    cases hf
  rw [if_pos hn] at hf
  cases hq : f_X4_setTimes d.1 d.2.1 d.2.2 x1 x2 x3 with
  | none => rw [hq] at hf; cases hf
  | some y =>
    rw [hq] at hf
    cases y with
    | inl E =>
      cases hf
      rcases E_X4_setTimes hq with h9 | h9 | h9
      · subst h9
        rw [show (cE IAE, d).1 = (-1000002 : Int32) from cE_IAE]
        refine vxL_ofH (Qc := fun sz => PostU D (kW q0 q cA d) (kW q0 q cA d) sz (some (.int (-1000002 : Int32)))) (by decide) (Nat.le_of_ble_eq_true rfl) ?_
        intro p l e s m below meth c ls hl0 C hr htab hXA hN hR0 h hl
        have C : Cx p s m _ meth c cL_setTimes 5 RL D cA := C
        obtain ⟨hx, hb, hml, hown, hts, hK, hlk⟩ := id C
        replace hl : lv_has ls 5 [(0, .ref (q0 0)), (1, .int x1), (2, .int x2), (3, .int x3)] := hl
        have hX := hXA.toXG
        replace h : St D (va_A (kW q0 q cA d) s.heap.size) s.heap (sW d.1 q0 q cA d.2.1 d.2.2) s.heap [] := h
        replace hR0 : SR D s.heap (sW d.1 q0 q cA d.2.1 d.2.2) s.heap [] := hR0
        refine lv_aload_n (pc := 0) hx hb dL_setTimes_0 rfl (lv_at hl 0 rfl) ?_
        refine lv_iload_n (pc := 1) hx hb dL_setTimes_1 rfl (lv_at hl 1 rfl) ?_
        refine lv_iload_n (pc := 2) hx hb dL_setTimes_2 rfl (lv_at hl 2 rfl) ?_
        refine lv_iload_n (pc := 3) hx hb dL_setTimes_3 rfl (lv_at hl 3 rfl) ?_
        refine call_C (pc := 4) (hpc := 14) (As := [.int x1, .int x2, .int x3]) (rest := []) (E := IAE) C hl0 hX hR0 h (kT_X4_setTimes hn d.2.1 d.2.2 x1 x2 x3 hq) cw_L_33 0 (sW_c0 ..) rfl (List.range (sW d.1 q0 q cA d.2.1 d.2.2).length) (full_map _) (nd_of _ List.nodup_range) rfl rfl hl.1 (Nat.le_of_ble_eq_true rfl) dL_setTimes_4 ⟨(Nat.le_of_ble_eq_true rfl), (Nat.le_of_ble_eq_true rfl)⟩ rfl rfl ⟨(Nat.le_of_ble_eq_true rfl), (Nat.le_of_ble_eq_true rfl)⟩ (fun H1 locs1 q9 ce h1 h2 h3 k => vx_catch (name := IAE) hown [⟨0, 8, 9, 23⟩] ⟨0, 8, 14, 26⟩ [⟨0, 8, 19, 16⟩] (htab.trans rfl) (fun z hz => by
            rcases List.mem_cons.mp hz with rfl | hz
            · exact Or.inr ⟨by decide, IOB, hts _ cl_23, hN (IAE, IOB) (by decide +kernel)⟩
            cases hz) (by decide) (by decide) (hts _ cl_26) (cast_ok hX.2.1 cs1.2.1) h1 h2 h3 k) (fun q9 H locs h => ?_)
        refine lv_astore (pc := 14) (lv' := [(4, .ref q9), (0, .ref (q0 0)), (1, .int x1), (2, .int x2), (3, .int x3)]) hx hb dL_setTimes_14 hl (by decide) rfl (fun ls hl => ?_)
        refine lv_ldc (pc := 16) (v := -1000002) hx hb hown (hts _ kc_L_28) dL_setTimes_16 ?_
        exact end_i (pc := 18) C hr (by decide) (by decide) h dL_setTimes_18
      · subst h9
        rw [show (cE IOB, d).1 = (-1000001 : Int32) from cE_IOB]
        refine vxL_ofH (Qc := fun sz => PostU D (kW q0 q cA d) (kW q0 q cA d) sz (some (.int (-1000001 : Int32)))) (by decide) (Nat.le_of_ble_eq_true rfl) ?_
        intro p l e s m below meth c ls hl0 C hr htab hXA hN hR0 h hl
        have C : Cx p s m _ meth c cL_setTimes 5 RL D cA := C
        obtain ⟨hx, hb, hml, hown, hts, hK, hlk⟩ := id C
        replace hl : lv_has ls 5 [(0, .ref (q0 0)), (1, .int x1), (2, .int x2), (3, .int x3)] := hl
        have hX := hXA.toXG
        replace h : St D (va_A (kW q0 q cA d) s.heap.size) s.heap (sW d.1 q0 q cA d.2.1 d.2.2) s.heap [] := h
        replace hR0 : SR D s.heap (sW d.1 q0 q cA d.2.1 d.2.2) s.heap [] := hR0
        refine lv_aload_n (pc := 0) hx hb dL_setTimes_0 rfl (lv_at hl 0 rfl) ?_
        refine lv_iload_n (pc := 1) hx hb dL_setTimes_1 rfl (lv_at hl 1 rfl) ?_
        refine lv_iload_n (pc := 2) hx hb dL_setTimes_2 rfl (lv_at hl 2 rfl) ?_
        refine lv_iload_n (pc := 3) hx hb dL_setTimes_3 rfl (lv_at hl 3 rfl) ?_
        refine call_C (pc := 4) (hpc := 9) (As := [.int x1, .int x2, .int x3]) (rest := []) (E := IOB) C hl0 hX hR0 h (kT_X4_setTimes hn d.2.1 d.2.2 x1 x2 x3 hq) cw_L_33 0 (sW_c0 ..) rfl (List.range (sW d.1 q0 q cA d.2.1 d.2.2).length) (full_map _) (nd_of _ List.nodup_range) rfl rfl hl.1 (Nat.le_of_ble_eq_true rfl) dL_setTimes_4 ⟨(Nat.le_of_ble_eq_true rfl), (Nat.le_of_ble_eq_true rfl)⟩ rfl rfl ⟨(Nat.le_of_ble_eq_true rfl), (Nat.le_of_ble_eq_true rfl)⟩ (fun H1 locs1 q9 ce h1 h2 h3 k => vx_catch (name := IOB) hown [] ⟨0, 8, 9, 23⟩ [⟨0, 8, 14, 26⟩, ⟨0, 8, 19, 16⟩] (htab.trans rfl) (fun z hz => by cases hz) (by decide) (by decide) (hts _ cl_23) (cast_ok hX.2.1 cs1.1) h1 h2 h3 k) (fun q9 H locs h => ?_)
        refine lv_astore (pc := 9) (lv' := [(4, .ref q9), (0, .ref (q0 0)), (1, .int x1), (2, .int x2), (3, .int x3)]) hx hb dL_setTimes_9 hl (by decide) rfl (fun ls hl => ?_)
        refine lv_ldc (pc := 11) (v := -1000001) hx hb hown (hts _ kc_L_25) dL_setTimes_11 ?_
        exact end_i (pc := 13) C hr (by decide) (by decide) h dL_setTimes_13
      · subst h9
        rw [show (cE ISE, d).1 = (-1000003 : Int32) from cE_ISE]
        refine vxL_ofH (Qc := fun sz => PostU D (kW q0 q cA d) (kW q0 q cA d) sz (some (.int (-1000003 : Int32)))) (by decide) (Nat.le_of_ble_eq_true rfl) ?_
        intro p l e s m below meth c ls hl0 C hr htab hXA hN hR0 h hl
        have C : Cx p s m _ meth c cL_setTimes 5 RL D cA := C
        obtain ⟨hx, hb, hml, hown, hts, hK, hlk⟩ := id C
        replace hl : lv_has ls 5 [(0, .ref (q0 0)), (1, .int x1), (2, .int x2), (3, .int x3)] := hl
        have hX := hXA.toXG
        replace h : St D (va_A (kW q0 q cA d) s.heap.size) s.heap (sW d.1 q0 q cA d.2.1 d.2.2) s.heap [] := h
        replace hR0 : SR D s.heap (sW d.1 q0 q cA d.2.1 d.2.2) s.heap [] := hR0
        refine lv_aload_n (pc := 0) hx hb dL_setTimes_0 rfl (lv_at hl 0 rfl) ?_
        refine lv_iload_n (pc := 1) hx hb dL_setTimes_1 rfl (lv_at hl 1 rfl) ?_
        refine lv_iload_n (pc := 2) hx hb dL_setTimes_2 rfl (lv_at hl 2 rfl) ?_
        refine lv_iload_n (pc := 3) hx hb dL_setTimes_3 rfl (lv_at hl 3 rfl) ?_
        refine call_C (pc := 4) (hpc := 19) (As := [.int x1, .int x2, .int x3]) (rest := []) (E := ISE) C hl0 hX hR0 h (kT_X4_setTimes hn d.2.1 d.2.2 x1 x2 x3 hq) cw_L_33 0 (sW_c0 ..) rfl (List.range (sW d.1 q0 q cA d.2.1 d.2.2).length) (full_map _) (nd_of _ List.nodup_range) rfl rfl hl.1 (Nat.le_of_ble_eq_true rfl) dL_setTimes_4 ⟨(Nat.le_of_ble_eq_true rfl), (Nat.le_of_ble_eq_true rfl)⟩ rfl rfl ⟨(Nat.le_of_ble_eq_true rfl), (Nat.le_of_ble_eq_true rfl)⟩ (fun H1 locs1 q9 ce h1 h2 h3 k => vx_catch (name := ISE) hown [⟨0, 8, 9, 23⟩, ⟨0, 8, 14, 26⟩] ⟨0, 8, 19, 16⟩ [] (htab.trans rfl) (fun z hz => by
            rcases List.mem_cons.mp hz with rfl | hz
            · exact Or.inr ⟨by decide, IOB, hts _ cl_23, hN (ISE, IOB) (by decide +kernel)⟩
            rcases List.mem_cons.mp hz with rfl | hz
            · exact Or.inr ⟨by decide, IAE, hts _ cl_26, hN (ISE, IAE) (by decide +kernel)⟩
            cases hz) (by decide) (by decide) (hts _ cl_16) (cast_ok hX.2.1 cs1.2.2) h1 h2 h3 k) (fun q9 H locs h => ?_)
        refine lv_astore (pc := 19) (lv' := [(4, .ref q9), (0, .ref (q0 0)), (1, .int x1), (2, .int x2), (3, .int x3)]) hx hb dL_setTimes_19 hl (by decide) rfl (fun ls hl => ?_)
        refine lv_ldc (pc := 21) (v := -1000003) hx hb hown (hts _ kc_L_18) dL_setTimes_21 ?_
        exact end_i (pc := 23) C hr (by decide) (by decide) h dL_setTimes_23
    | inr z =>
      cases hf
      refine vxL_ofH (Qc := fun sz => PostU D (kW q0 q cA d) (kW q0 q cA (d.1, z.1, z.2)) sz (some (.int 0))) (by decide) (Nat.le_of_ble_eq_true rfl) ?_
      intro p l e s m below meth c ls hl0 C hr htab hXA hN hR0 h hl
      have C : Cx p s m _ meth c cL_setTimes 5 RL D cA := C
      obtain ⟨hx, hb, hml, hown, hts, hK, hlk⟩ := id C
      replace hl : lv_has ls 5 [(0, .ref (q0 0)), (1, .int x1), (2, .int x2), (3, .int x3)] := hl
      have hX := hXA.toXG
      replace h : St D (va_A (kW q0 q cA d) s.heap.size) s.heap (sW d.1 q0 q cA d.2.1 d.2.2) s.heap [] := h
      replace hR0 : SR D s.heap (sW d.1 q0 q cA d.2.1 d.2.2) s.heap [] := hR0
      refine lv_aload_n (pc := 0) hx hb dL_setTimes_0 rfl (lv_at hl 0 rfl) ?_
      refine lv_iload_n (pc := 1) hx hb dL_setTimes_1 rfl (lv_at hl 1 rfl) ?_
      refine lv_iload_n (pc := 2) hx hb dL_setTimes_2 rfl (lv_at hl 2 rfl) ?_
      refine lv_iload_n (pc := 3) hx hb dL_setTimes_3 rfl (lv_at hl 3 rfl) ?_
      refine call_VUs (pc := 4) (As := [.int x1, .int x2, .int x3]) (rest := []) (ws' := (sW d.1 q0 q cA z.1 z.2)) C h (k_X4_setTimes hn d.2.1 d.2.2 x1 x2 x3 hq) cw_L_33 0 (sW_c0 ..) rfl (sW_fst ..) rfl rfl hl.1 (Nat.le_of_ble_eq_true rfl) dL_setTimes_4 ⟨(Nat.le_of_ble_eq_true rfl), (Nat.le_of_ble_eq_true rfl)⟩ rfl rfl ⟨(Nat.le_of_ble_eq_true rfl), (Nat.le_of_ble_eq_true rfl)⟩ (fun H locs h => ?_)
      refine W.eq (g2 := F0 m 7 ls []) rfl ?_
      refine lv_iconst (pc := 7) (v := 0) hx hb dL_setTimes_7 (by decide) ?_
      exact end_i (pc := 8) C hr (by decide) (by decide) h dL_setTimes_8
abbrev rmN_cancel : Room := { frames := 8, cells := 0, slots := 0, locals := 126 }
abbrev rmW_cancel : Room := { frames := 8, cells := 1, slots := 6, locals := 126 }
def gn_cancel (d : Dk) (x1 : Int32) : Option (Int32 × Dk) := if d.1 ≤ 6 then match f_X4_cancel d.1 d.2.1 d.2.2 x1 with | some (.inr z) => some (z.1, d.1, z.2.1, z.2.2) | _ => none else none
def gm_cancel (d : Dk) (x1 : Int32) : Option (Int32 × Dk) := if d.1 ≤ 6 then match f_X4_cancel d.1 d.2.1 d.2.2 x1 with | some (.inr z) => some (z.1, d.1, z.2.1, z.2.2) | some (.inl E) => some (cE E, d) | none => none else none
set_option maxHeartbeats 400000 in
set_option maxRecDepth 100000 in
theorem vn_cancel {q0 : Nat → Nat} {q : Nat → Nat → Nat} {cA : Nat → ClassId} {D : va_G} (d : Dk) (x1 : Int32) {z : Int32 × Dk} (hf : gn_cancel d x1 = some z) : CtV yL_cancel (.codeWith yL_cancel cL_cancel 3 (some .int) [(0, 5, 6, 23), (0, 5, 10, 16)]) rmN_cancel [.ref (q0 0), .int x1] D cA (kW q0 q cA d) (kW q0 q cA z.2) (.int z.1) 0 0 := by
  unfold gn_cancel at hf
  by_cases hn : d.1 ≤ 6
  rotate_left
  · rw [if_neg hn] at hf
    cases hf
  rw [if_pos hn] at hf
  cases hq : f_X4_cancel d.1 d.2.1 d.2.2 x1 with
  | none => rw [hq] at hf; cases hf
  | some y =>
    rw [hq] at hf
    cases y with
    | inl E =>
      cases hf
    | inr z =>
      cases hf
      refine vxL_ofH (Qc := fun sz => PostU D (kW q0 q cA d) (kW q0 q cA (d.1, z.2.1, z.2.2)) sz (some (.int z.1))) (by decide) (Nat.le_of_ble_eq_true rfl) ?_
      intro p l e s m below meth c ls hl0 C hr htab hXA hN hR0 h hl
      have C : Cx p s m _ meth c cL_cancel 3 RL D cA := C
      obtain ⟨hx, hb, hml, hown, hts, hK, hlk⟩ := id C
      replace hl : lv_has ls 3 [(0, .ref (q0 0)), (1, .int x1)] := hl
      have hX := hXA.toXG
      replace h : St D (va_A (kW q0 q cA d) s.heap.size) s.heap (sW d.1 q0 q cA d.2.1 d.2.2) s.heap [] := h
      replace hR0 : SR D s.heap (sW d.1 q0 q cA d.2.1 d.2.2) s.heap [] := hR0
      refine lv_aload_n (pc := 0) hx hb dL_cancel_0 rfl (lv_at hl 0 rfl) ?_
      refine lv_iload_n (pc := 1) hx hb dL_cancel_1 rfl (lv_at hl 1 rfl) ?_
      refine call_VUs (pc := 2) (As := [.int x1]) (rest := []) (ws' := (sW d.1 q0 q cA z.2.1 z.2.2)) C h (k_X4_cancel hn d.2.1 d.2.2 x1 hq) cw_L_50 0 (sW_c0 ..) rfl (sW_fst ..) rfl rfl hl.1 (Nat.le_of_ble_eq_true rfl) dL_cancel_2 ⟨(Nat.le_of_ble_eq_true rfl), (Nat.le_of_ble_eq_true rfl)⟩ rfl rfl ⟨(Nat.le_of_ble_eq_true rfl), (Nat.le_of_ble_eq_true rfl)⟩ (fun H locs h => ?_)
      refine W.eq (g2 := F0 m 5 ls [.int z.1]) rfl ?_
      exact end_i (pc := 5) C hr (by decide) (by decide) h dL_cancel_5
set_option maxHeartbeats 400000 in
set_option maxRecDepth 100000 in
theorem vm_cancel {q0 : Nat → Nat} {q : Nat → Nat → Nat} {cA : Nat → ClassId} {D : va_G} (d : Dk) (x1 : Int32) {z : Int32 × Dk} (hf : gm_cancel d x1 = some z) : CtV yL_cancel (.codeWith yL_cancel cL_cancel 3 (some .int) [(0, 5, 6, 23), (0, 5, 10, 16)]) rmW_cancel [.ref (q0 0), .int x1] D cA (kW q0 q cA d) (kW q0 q cA z.2) (.int z.1) 1 6 := by
  unfold gm_cancel at hf
  by_cases hn : d.1 ≤ 6
  rotate_left
  · rw [if_neg hn] at hf
    cases hf
  rw [if_pos hn] at hf
  cases hq : f_X4_cancel d.1 d.2.1 d.2.2 x1 with
  | none => rw [hq] at hf; cases hf
  | some y =>
    rw [hq] at hf
    cases y with
    | inl E =>
      cases hf
      rcases E_X4_cancel hq with h9 | h9
      · subst h9
        rw [show (cE IOB, d).1 = (-1000001 : Int32) from cE_IOB]
        refine vxL_ofH (Qc := fun sz => PostU D (kW q0 q cA d) (kW q0 q cA d) sz (some (.int (-1000001 : Int32)))) (by decide) (Nat.le_of_ble_eq_true rfl) ?_
        intro p l e s m below meth c ls hl0 C hr htab hXA hN hR0 h hl
        have C : Cx p s m _ meth c cL_cancel 3 RL D cA := C
        obtain ⟨hx, hb, hml, hown, hts, hK, hlk⟩ := id C
        replace hl : lv_has ls 3 [(0, .ref (q0 0)), (1, .int x1)] := hl
        have hX := hXA.toXG
        replace h : St D (va_A (kW q0 q cA d) s.heap.size) s.heap (sW d.1 q0 q cA d.2.1 d.2.2) s.heap [] := h
        replace hR0 : SR D s.heap (sW d.1 q0 q cA d.2.1 d.2.2) s.heap [] := hR0
        refine lv_aload_n (pc := 0) hx hb dL_cancel_0 rfl (lv_at hl 0 rfl) ?_
        refine lv_iload_n (pc := 1) hx hb dL_cancel_1 rfl (lv_at hl 1 rfl) ?_
        refine call_C (pc := 2) (hpc := 6) (As := [.int x1]) (rest := []) (E := IOB) C hl0 hX hR0 h (kT_X4_cancel hn d.2.1 d.2.2 x1 hq) cw_L_50 0 (sW_c0 ..) rfl (List.range (sW d.1 q0 q cA d.2.1 d.2.2).length) (full_map _) (nd_of _ List.nodup_range) rfl rfl hl.1 (Nat.le_of_ble_eq_true rfl) dL_cancel_2 ⟨(Nat.le_of_ble_eq_true rfl), (Nat.le_of_ble_eq_true rfl)⟩ rfl rfl ⟨(Nat.le_of_ble_eq_true rfl), (Nat.le_of_ble_eq_true rfl)⟩ (fun H1 locs1 q9 ce h1 h2 h3 k => vx_catch (name := IOB) hown [] ⟨0, 5, 6, 23⟩ [⟨0, 5, 10, 16⟩] (htab.trans rfl) (fun z hz => by cases hz) (by decide) (by decide) (hts _ cl_23) (cast_ok hX.2.1 cs1.1) h1 h2 h3 k) (fun q9 H locs h => ?_)
        refine lv_astore_n (pc := 6) (lv' := [(2, .ref q9), (0, .ref (q0 0)), (1, .int x1)]) hx hb dL_cancel_6 rfl hl (by decide) rfl (fun ls hl => ?_)
        refine lv_ldc (pc := 7) (v := -1000001) hx hb hown (hts _ kc_L_25) dL_cancel_7 ?_
        exact end_i (pc := 9) C hr (by decide) (by decide) h dL_cancel_9
      · subst h9
        rw [show (cE ISE, d).1 = (-1000003 : Int32) from cE_ISE]
        refine vxL_ofH (Qc := fun sz => PostU D (kW q0 q cA d) (kW q0 q cA d) sz (some (.int (-1000003 : Int32)))) (by decide) (Nat.le_of_ble_eq_true rfl) ?_
        intro p l e s m below meth c ls hl0 C hr htab hXA hN hR0 h hl
        have C : Cx p s m _ meth c cL_cancel 3 RL D cA := C
        obtain ⟨hx, hb, hml, hown, hts, hK, hlk⟩ := id C
        replace hl : lv_has ls 3 [(0, .ref (q0 0)), (1, .int x1)] := hl
        have hX := hXA.toXG
        replace h : St D (va_A (kW q0 q cA d) s.heap.size) s.heap (sW d.1 q0 q cA d.2.1 d.2.2) s.heap [] := h
        replace hR0 : SR D s.heap (sW d.1 q0 q cA d.2.1 d.2.2) s.heap [] := hR0
        refine lv_aload_n (pc := 0) hx hb dL_cancel_0 rfl (lv_at hl 0 rfl) ?_
        refine lv_iload_n (pc := 1) hx hb dL_cancel_1 rfl (lv_at hl 1 rfl) ?_
        refine call_C (pc := 2) (hpc := 10) (As := [.int x1]) (rest := []) (E := ISE) C hl0 hX hR0 h (kT_X4_cancel hn d.2.1 d.2.2 x1 hq) cw_L_50 0 (sW_c0 ..) rfl (List.range (sW d.1 q0 q cA d.2.1 d.2.2).length) (full_map _) (nd_of _ List.nodup_range) rfl rfl hl.1 (Nat.le_of_ble_eq_true rfl) dL_cancel_2 ⟨(Nat.le_of_ble_eq_true rfl), (Nat.le_of_ble_eq_true rfl)⟩ rfl rfl ⟨(Nat.le_of_ble_eq_true rfl), (Nat.le_of_ble_eq_true rfl)⟩ (fun H1 locs1 q9 ce h1 h2 h3 k => vx_catch (name := ISE) hown [⟨0, 5, 6, 23⟩] ⟨0, 5, 10, 16⟩ [] (htab.trans rfl) (fun z hz => by
            rcases List.mem_cons.mp hz with rfl | hz
            · exact Or.inr ⟨by decide, IOB, hts _ cl_23, hN (ISE, IOB) (by decide +kernel)⟩
            cases hz) (by decide) (by decide) (hts _ cl_16) (cast_ok hX.2.1 cs1.2.2) h1 h2 h3 k) (fun q9 H locs h => ?_)
        refine lv_astore_n (pc := 10) (lv' := [(2, .ref q9), (0, .ref (q0 0)), (1, .int x1)]) hx hb dL_cancel_10 rfl hl (by decide) rfl (fun ls hl => ?_)
        refine lv_ldc (pc := 11) (v := -1000003) hx hb hown (hts _ kc_L_18) dL_cancel_11 ?_
        exact end_i (pc := 13) C hr (by decide) (by decide) h dL_cancel_13
    | inr z =>
      cases hf
      refine vxL_ofH (Qc := fun sz => PostU D (kW q0 q cA d) (kW q0 q cA (d.1, z.2.1, z.2.2)) sz (some (.int z.1))) (by decide) (Nat.le_of_ble_eq_true rfl) ?_
      intro p l e s m below meth c ls hl0 C hr htab hXA hN hR0 h hl
      have C : Cx p s m _ meth c cL_cancel 3 RL D cA := C
      obtain ⟨hx, hb, hml, hown, hts, hK, hlk⟩ := id C
      replace hl : lv_has ls 3 [(0, .ref (q0 0)), (1, .int x1)] := hl
      have hX := hXA.toXG
      replace h : St D (va_A (kW q0 q cA d) s.heap.size) s.heap (sW d.1 q0 q cA d.2.1 d.2.2) s.heap [] := h
      replace hR0 : SR D s.heap (sW d.1 q0 q cA d.2.1 d.2.2) s.heap [] := hR0
      refine lv_aload_n (pc := 0) hx hb dL_cancel_0 rfl (lv_at hl 0 rfl) ?_
      refine lv_iload_n (pc := 1) hx hb dL_cancel_1 rfl (lv_at hl 1 rfl) ?_
      refine call_VUs (pc := 2) (As := [.int x1]) (rest := []) (ws' := (sW d.1 q0 q cA z.2.1 z.2.2)) C h (k_X4_cancel hn d.2.1 d.2.2 x1 hq) cw_L_50 0 (sW_c0 ..) rfl (sW_fst ..) rfl rfl hl.1 (Nat.le_of_ble_eq_true rfl) dL_cancel_2 ⟨(Nat.le_of_ble_eq_true rfl), (Nat.le_of_ble_eq_true rfl)⟩ rfl rfl ⟨(Nat.le_of_ble_eq_true rfl), (Nat.le_of_ble_eq_true rfl)⟩ (fun H locs h => ?_)
      refine W.eq (g2 := F0 m 5 ls [.int z.1]) rfl ?_
      exact end_i (pc := 5) C hr (by decide) (by decide) h dL_cancel_5
abbrev rmN_decline : Room := { frames := 8, cells := 0, slots := 0, locals := 128 }
abbrev rmW_decline : Room := { frames := 8, cells := 1, slots := 6, locals := 128 }
def gn_decline (d : Dk) (x1 x2 x3 : Int32) : Option (Int32 × Dk) := if d.1 ≤ 6 then match f_X4_decline d.1 d.2.1 d.2.2 x1 x2 x3 with | some (.inr z) => some (z.1, d.1, z.2.1, z.2.2) | _ => none else none
def gm_decline (d : Dk) (x1 x2 x3 : Int32) : Option (Int32 × Dk) := if d.1 ≤ 6 then match f_X4_decline d.1 d.2.1 d.2.2 x1 x2 x3 with | some (.inr z) => some (z.1, d.1, z.2.1, z.2.2) | some (.inl E) => some (cE E, d) | none => none else none
set_option maxHeartbeats 400000 in
set_option maxRecDepth 100000 in
theorem vn_decline {q0 : Nat → Nat} {q : Nat → Nat → Nat} {cA : Nat → ClassId} {D : va_G} (d : Dk) (x1 x2 x3 : Int32) {z : Int32 × Dk} (hf : gn_decline d x1 x2 x3 = some z) : CtV yL_decline (.codeWith yL_decline cL_decline 5 (some .int) [(0, 7, 8, 23), (0, 7, 13, 16)]) rmN_decline [.ref (q0 0), .int x1, .int x2, .int x3] D cA (kW q0 q cA d) (kW q0 q cA z.2) (.int z.1) 0 0 := by
  unfold gn_decline at hf
  by_cases hn : d.1 ≤ 6
  rotate_left
  · rw [if_neg hn] at hf
    cases hf
  rw [if_pos hn] at hf
  cases hq : f_X4_decline d.1 d.2.1 d.2.2 x1 x2 x3 with
  | none => rw [hq] at hf; cases hf
  | some y =>
    rw [hq] at hf
    cases y with
    | inl E =>
      cases hf
    | inr z =>
      cases hf
      refine vxL_ofH (Qc := fun sz => PostU D (kW q0 q cA d) (kW q0 q cA (d.1, z.2.1, z.2.2)) sz (some (.int z.1))) (by decide) (Nat.le_of_ble_eq_true rfl) ?_
      intro p l e s m below meth c ls hl0 C hr htab hXA hN hR0 h hl
      have C : Cx p s m _ meth c cL_decline 5 RL D cA := C
      obtain ⟨hx, hb, hml, hown, hts, hK, hlk⟩ := id C
      replace hl : lv_has ls 5 [(0, .ref (q0 0)), (1, .int x1), (2, .int x2), (3, .int x3)] := hl
      have hX := hXA.toXG
      replace h : St D (va_A (kW q0 q cA d) s.heap.size) s.heap (sW d.1 q0 q cA d.2.1 d.2.2) s.heap [] := h
      replace hR0 : SR D s.heap (sW d.1 q0 q cA d.2.1 d.2.2) s.heap [] := hR0
      refine lv_aload_n (pc := 0) hx hb dL_decline_0 rfl (lv_at hl 0 rfl) ?_
      refine lv_iload_n (pc := 1) hx hb dL_decline_1 rfl (lv_at hl 1 rfl) ?_
      refine lv_iload_n (pc := 2) hx hb dL_decline_2 rfl (lv_at hl 2 rfl) ?_
      refine lv_iload_n (pc := 3) hx hb dL_decline_3 rfl (lv_at hl 3 rfl) ?_
      refine call_VUs (pc := 4) (As := [.int x1, .int x2, .int x3]) (rest := []) (ws' := (sW d.1 q0 q cA z.2.1 z.2.2)) C h (k_X4_decline hn d.2.1 d.2.2 x1 x2 x3 hq) cw_L_47 0 (sW_c0 ..) rfl (sW_fst ..) rfl rfl hl.1 (Nat.le_of_ble_eq_true rfl) dL_decline_4 ⟨(Nat.le_of_ble_eq_true rfl), (Nat.le_of_ble_eq_true rfl)⟩ rfl rfl ⟨(Nat.le_of_ble_eq_true rfl), (Nat.le_of_ble_eq_true rfl)⟩ (fun H locs h => ?_)
      refine W.eq (g2 := F0 m 7 ls [.int z.1]) rfl ?_
      exact end_i (pc := 7) C hr (by decide) (by decide) h dL_decline_7
set_option maxHeartbeats 400000 in
set_option maxRecDepth 100000 in
theorem vm_decline {q0 : Nat → Nat} {q : Nat → Nat → Nat} {cA : Nat → ClassId} {D : va_G} (d : Dk) (x1 x2 x3 : Int32) {z : Int32 × Dk} (hf : gm_decline d x1 x2 x3 = some z) : CtV yL_decline (.codeWith yL_decline cL_decline 5 (some .int) [(0, 7, 8, 23), (0, 7, 13, 16)]) rmW_decline [.ref (q0 0), .int x1, .int x2, .int x3] D cA (kW q0 q cA d) (kW q0 q cA z.2) (.int z.1) 1 6 := by
  unfold gm_decline at hf
  by_cases hn : d.1 ≤ 6
  rotate_left
  · rw [if_neg hn] at hf
    cases hf
  rw [if_pos hn] at hf
  cases hq : f_X4_decline d.1 d.2.1 d.2.2 x1 x2 x3 with
  | none => rw [hq] at hf; cases hf
  | some y =>
    rw [hq] at hf
    cases y with
    | inl E =>
      cases hf
      rcases E_X4_decline hq with h9 | h9
      · subst h9
        rw [show (cE IOB, d).1 = (-1000001 : Int32) from cE_IOB]
        refine vxL_ofH (Qc := fun sz => PostU D (kW q0 q cA d) (kW q0 q cA d) sz (some (.int (-1000001 : Int32)))) (by decide) (Nat.le_of_ble_eq_true rfl) ?_
        intro p l e s m below meth c ls hl0 C hr htab hXA hN hR0 h hl
        have C : Cx p s m _ meth c cL_decline 5 RL D cA := C
        obtain ⟨hx, hb, hml, hown, hts, hK, hlk⟩ := id C
        replace hl : lv_has ls 5 [(0, .ref (q0 0)), (1, .int x1), (2, .int x2), (3, .int x3)] := hl
        have hX := hXA.toXG
        replace h : St D (va_A (kW q0 q cA d) s.heap.size) s.heap (sW d.1 q0 q cA d.2.1 d.2.2) s.heap [] := h
        replace hR0 : SR D s.heap (sW d.1 q0 q cA d.2.1 d.2.2) s.heap [] := hR0
        refine lv_aload_n (pc := 0) hx hb dL_decline_0 rfl (lv_at hl 0 rfl) ?_
        refine lv_iload_n (pc := 1) hx hb dL_decline_1 rfl (lv_at hl 1 rfl) ?_
        refine lv_iload_n (pc := 2) hx hb dL_decline_2 rfl (lv_at hl 2 rfl) ?_
        refine lv_iload_n (pc := 3) hx hb dL_decline_3 rfl (lv_at hl 3 rfl) ?_
        refine call_C (pc := 4) (hpc := 8) (As := [.int x1, .int x2, .int x3]) (rest := []) (E := IOB) C hl0 hX hR0 h (kT_X4_decline hn d.2.1 d.2.2 x1 x2 x3 hq) cw_L_47 0 (sW_c0 ..) rfl (List.range (sW d.1 q0 q cA d.2.1 d.2.2).length) (full_map _) (nd_of _ List.nodup_range) rfl rfl hl.1 (Nat.le_of_ble_eq_true rfl) dL_decline_4 ⟨(Nat.le_of_ble_eq_true rfl), (Nat.le_of_ble_eq_true rfl)⟩ rfl rfl ⟨(Nat.le_of_ble_eq_true rfl), (Nat.le_of_ble_eq_true rfl)⟩ (fun H1 locs1 q9 ce h1 h2 h3 k => vx_catch (name := IOB) hown [] ⟨0, 7, 8, 23⟩ [⟨0, 7, 13, 16⟩] (htab.trans rfl) (fun z hz => by cases hz) (by decide) (by decide) (hts _ cl_23) (cast_ok hX.2.1 cs1.1) h1 h2 h3 k) (fun q9 H locs h => ?_)
        refine lv_astore (pc := 8) (lv' := [(4, .ref q9), (0, .ref (q0 0)), (1, .int x1), (2, .int x2), (3, .int x3)]) hx hb dL_decline_8 hl (by decide) rfl (fun ls hl => ?_)
        refine lv_ldc (pc := 10) (v := -1000001) hx hb hown (hts _ kc_L_25) dL_decline_10 ?_
        exact end_i (pc := 12) C hr (by decide) (by decide) h dL_decline_12
      · subst h9
        rw [show (cE ISE, d).1 = (-1000003 : Int32) from cE_ISE]
        refine vxL_ofH (Qc := fun sz => PostU D (kW q0 q cA d) (kW q0 q cA d) sz (some (.int (-1000003 : Int32)))) (by decide) (Nat.le_of_ble_eq_true rfl) ?_
        intro p l e s m below meth c ls hl0 C hr htab hXA hN hR0 h hl
        have C : Cx p s m _ meth c cL_decline 5 RL D cA := C
        obtain ⟨hx, hb, hml, hown, hts, hK, hlk⟩ := id C
        replace hl : lv_has ls 5 [(0, .ref (q0 0)), (1, .int x1), (2, .int x2), (3, .int x3)] := hl
        have hX := hXA.toXG
        replace h : St D (va_A (kW q0 q cA d) s.heap.size) s.heap (sW d.1 q0 q cA d.2.1 d.2.2) s.heap [] := h
        replace hR0 : SR D s.heap (sW d.1 q0 q cA d.2.1 d.2.2) s.heap [] := hR0
        refine lv_aload_n (pc := 0) hx hb dL_decline_0 rfl (lv_at hl 0 rfl) ?_
        refine lv_iload_n (pc := 1) hx hb dL_decline_1 rfl (lv_at hl 1 rfl) ?_
        refine lv_iload_n (pc := 2) hx hb dL_decline_2 rfl (lv_at hl 2 rfl) ?_
        refine lv_iload_n (pc := 3) hx hb dL_decline_3 rfl (lv_at hl 3 rfl) ?_
        refine call_C (pc := 4) (hpc := 13) (As := [.int x1, .int x2, .int x3]) (rest := []) (E := ISE) C hl0 hX hR0 h (kT_X4_decline hn d.2.1 d.2.2 x1 x2 x3 hq) cw_L_47 0 (sW_c0 ..) rfl (List.range (sW d.1 q0 q cA d.2.1 d.2.2).length) (full_map _) (nd_of _ List.nodup_range) rfl rfl hl.1 (Nat.le_of_ble_eq_true rfl) dL_decline_4 ⟨(Nat.le_of_ble_eq_true rfl), (Nat.le_of_ble_eq_true rfl)⟩ rfl rfl ⟨(Nat.le_of_ble_eq_true rfl), (Nat.le_of_ble_eq_true rfl)⟩ (fun H1 locs1 q9 ce h1 h2 h3 k => vx_catch (name := ISE) hown [⟨0, 7, 8, 23⟩] ⟨0, 7, 13, 16⟩ [] (htab.trans rfl) (fun z hz => by
            rcases List.mem_cons.mp hz with rfl | hz
            · exact Or.inr ⟨by decide, IOB, hts _ cl_23, hN (ISE, IOB) (by decide +kernel)⟩
            cases hz) (by decide) (by decide) (hts _ cl_16) (cast_ok hX.2.1 cs1.2.2) h1 h2 h3 k) (fun q9 H locs h => ?_)
        refine lv_astore (pc := 13) (lv' := [(4, .ref q9), (0, .ref (q0 0)), (1, .int x1), (2, .int x2), (3, .int x3)]) hx hb dL_decline_13 hl (by decide) rfl (fun ls hl => ?_)
        refine lv_ldc (pc := 15) (v := -1000003) hx hb hown (hts _ kc_L_18) dL_decline_15 ?_
        exact end_i (pc := 17) C hr (by decide) (by decide) h dL_decline_17
    | inr z =>
      cases hf
      refine vxL_ofH (Qc := fun sz => PostU D (kW q0 q cA d) (kW q0 q cA (d.1, z.2.1, z.2.2)) sz (some (.int z.1))) (by decide) (Nat.le_of_ble_eq_true rfl) ?_
      intro p l e s m below meth c ls hl0 C hr htab hXA hN hR0 h hl
      have C : Cx p s m _ meth c cL_decline 5 RL D cA := C
      obtain ⟨hx, hb, hml, hown, hts, hK, hlk⟩ := id C
      replace hl : lv_has ls 5 [(0, .ref (q0 0)), (1, .int x1), (2, .int x2), (3, .int x3)] := hl
      have hX := hXA.toXG
      replace h : St D (va_A (kW q0 q cA d) s.heap.size) s.heap (sW d.1 q0 q cA d.2.1 d.2.2) s.heap [] := h
      replace hR0 : SR D s.heap (sW d.1 q0 q cA d.2.1 d.2.2) s.heap [] := hR0
      refine lv_aload_n (pc := 0) hx hb dL_decline_0 rfl (lv_at hl 0 rfl) ?_
      refine lv_iload_n (pc := 1) hx hb dL_decline_1 rfl (lv_at hl 1 rfl) ?_
      refine lv_iload_n (pc := 2) hx hb dL_decline_2 rfl (lv_at hl 2 rfl) ?_
      refine lv_iload_n (pc := 3) hx hb dL_decline_3 rfl (lv_at hl 3 rfl) ?_
      refine call_VUs (pc := 4) (As := [.int x1, .int x2, .int x3]) (rest := []) (ws' := (sW d.1 q0 q cA z.2.1 z.2.2)) C h (k_X4_decline hn d.2.1 d.2.2 x1 x2 x3 hq) cw_L_47 0 (sW_c0 ..) rfl (sW_fst ..) rfl rfl hl.1 (Nat.le_of_ble_eq_true rfl) dL_decline_4 ⟨(Nat.le_of_ble_eq_true rfl), (Nat.le_of_ble_eq_true rfl)⟩ rfl rfl ⟨(Nat.le_of_ble_eq_true rfl), (Nat.le_of_ble_eq_true rfl)⟩ (fun H locs h => ?_)
      refine W.eq (g2 := F0 m 7 ls [.int z.1]) rfl ?_
      exact end_i (pc := 7) C hr (by decide) (by decide) h dL_decline_7
abbrev rmN_revoke : Room := { frames := 8, cells := 0, slots := 0, locals := 127 }
abbrev rmW_revoke : Room := { frames := 8, cells := 1, slots := 6, locals := 127 }
def gn_revoke (d : Dk) (x1 : Int32) : Option (Int32 × Dk) := if d.1 ≤ 6 then match f_X4_revoke d.1 d.2.1 d.2.2 x1 with | some (.inr z) => some (z.1, d.1, z.2.1, z.2.2) | _ => none else none
def gm_revoke (d : Dk) (x1 : Int32) : Option (Int32 × Dk) := if d.1 ≤ 6 then match f_X4_revoke d.1 d.2.1 d.2.2 x1 with | some (.inr z) => some (z.1, d.1, z.2.1, z.2.2) | some (.inl E) => some (cE E, d) | none => none else none
set_option maxHeartbeats 400000 in
set_option maxRecDepth 100000 in
theorem vn_revoke {q0 : Nat → Nat} {q : Nat → Nat → Nat} {cA : Nat → ClassId} {D : va_G} (d : Dk) (x1 : Int32) {z : Int32 × Dk} (hf : gn_revoke d x1 = some z) : CtV yL_revoke (.codeWith yL_revoke cL_revoke 3 (some .int) [(0, 5, 6, 23), (0, 5, 10, 16)]) rmN_revoke [.ref (q0 0), .int x1] D cA (kW q0 q cA d) (kW q0 q cA z.2) (.int z.1) 0 0 := by
  unfold gn_revoke at hf
  by_cases hn : d.1 ≤ 6
  rotate_left
  · rw [if_neg hn] at hf
    cases hf
  rw [if_pos hn] at hf
  cases hq : f_X4_revoke d.1 d.2.1 d.2.2 x1 with
  | none => rw [hq] at hf; cases hf
  | some y =>
    rw [hq] at hf
    cases y with
    | inl E =>
      cases hf
    | inr z =>
      cases hf
      refine vxL_ofH (Qc := fun sz => PostU D (kW q0 q cA d) (kW q0 q cA (d.1, z.2.1, z.2.2)) sz (some (.int z.1))) (by decide) (Nat.le_of_ble_eq_true rfl) ?_
      intro p l e s m below meth c ls hl0 C hr htab hXA hN hR0 h hl
      have C : Cx p s m _ meth c cL_revoke 3 RL D cA := C
      obtain ⟨hx, hb, hml, hown, hts, hK, hlk⟩ := id C
      replace hl : lv_has ls 3 [(0, .ref (q0 0)), (1, .int x1)] := hl
      have hX := hXA.toXG
      replace h : St D (va_A (kW q0 q cA d) s.heap.size) s.heap (sW d.1 q0 q cA d.2.1 d.2.2) s.heap [] := h
      replace hR0 : SR D s.heap (sW d.1 q0 q cA d.2.1 d.2.2) s.heap [] := hR0
      refine lv_aload_n (pc := 0) hx hb dL_revoke_0 rfl (lv_at hl 0 rfl) ?_
      refine lv_iload_n (pc := 1) hx hb dL_revoke_1 rfl (lv_at hl 1 rfl) ?_
      refine call_VUs (pc := 2) (As := [.int x1]) (rest := []) (ws' := (sW d.1 q0 q cA z.2.1 z.2.2)) C h (k_X4_revoke hn d.2.1 d.2.2 x1 hq) cw_L_57 0 (sW_c0 ..) rfl (sW_fst ..) rfl rfl hl.1 (Nat.le_of_ble_eq_true rfl) dL_revoke_2 ⟨(Nat.le_of_ble_eq_true rfl), (Nat.le_of_ble_eq_true rfl)⟩ rfl rfl ⟨(Nat.le_of_ble_eq_true rfl), (Nat.le_of_ble_eq_true rfl)⟩ (fun H locs h => ?_)
      refine W.eq (g2 := F0 m 5 ls [.int z.1]) rfl ?_
      exact end_i (pc := 5) C hr (by decide) (by decide) h dL_revoke_5
set_option maxHeartbeats 400000 in
set_option maxRecDepth 100000 in
theorem vm_revoke {q0 : Nat → Nat} {q : Nat → Nat → Nat} {cA : Nat → ClassId} {D : va_G} (d : Dk) (x1 : Int32) {z : Int32 × Dk} (hf : gm_revoke d x1 = some z) : CtV yL_revoke (.codeWith yL_revoke cL_revoke 3 (some .int) [(0, 5, 6, 23), (0, 5, 10, 16)]) rmW_revoke [.ref (q0 0), .int x1] D cA (kW q0 q cA d) (kW q0 q cA z.2) (.int z.1) 1 6 := by
  unfold gm_revoke at hf
  by_cases hn : d.1 ≤ 6
  rotate_left
  · rw [if_neg hn] at hf
    cases hf
  rw [if_pos hn] at hf
  cases hq : f_X4_revoke d.1 d.2.1 d.2.2 x1 with
  | none => rw [hq] at hf; cases hf
  | some y =>
    rw [hq] at hf
    cases y with
    | inl E =>
      cases hf
      rcases E_X4_revoke hq with h9 | h9
      · subst h9
        rw [show (cE IOB, d).1 = (-1000001 : Int32) from cE_IOB]
        refine vxL_ofH (Qc := fun sz => PostU D (kW q0 q cA d) (kW q0 q cA d) sz (some (.int (-1000001 : Int32)))) (by decide) (Nat.le_of_ble_eq_true rfl) ?_
        intro p l e s m below meth c ls hl0 C hr htab hXA hN hR0 h hl
        have C : Cx p s m _ meth c cL_revoke 3 RL D cA := C
        obtain ⟨hx, hb, hml, hown, hts, hK, hlk⟩ := id C
        replace hl : lv_has ls 3 [(0, .ref (q0 0)), (1, .int x1)] := hl
        have hX := hXA.toXG
        replace h : St D (va_A (kW q0 q cA d) s.heap.size) s.heap (sW d.1 q0 q cA d.2.1 d.2.2) s.heap [] := h
        replace hR0 : SR D s.heap (sW d.1 q0 q cA d.2.1 d.2.2) s.heap [] := hR0
        refine lv_aload_n (pc := 0) hx hb dL_revoke_0 rfl (lv_at hl 0 rfl) ?_
        refine lv_iload_n (pc := 1) hx hb dL_revoke_1 rfl (lv_at hl 1 rfl) ?_
        refine call_C (pc := 2) (hpc := 6) (As := [.int x1]) (rest := []) (E := IOB) C hl0 hX hR0 h (kT_X4_revoke hn d.2.1 d.2.2 x1 hq) cw_L_57 0 (sW_c0 ..) rfl (List.range (sW d.1 q0 q cA d.2.1 d.2.2).length) (full_map _) (nd_of _ List.nodup_range) rfl rfl hl.1 (Nat.le_of_ble_eq_true rfl) dL_revoke_2 ⟨(Nat.le_of_ble_eq_true rfl), (Nat.le_of_ble_eq_true rfl)⟩ rfl rfl ⟨(Nat.le_of_ble_eq_true rfl), (Nat.le_of_ble_eq_true rfl)⟩ (fun H1 locs1 q9 ce h1 h2 h3 k => vx_catch (name := IOB) hown [] ⟨0, 5, 6, 23⟩ [⟨0, 5, 10, 16⟩] (htab.trans rfl) (fun z hz => by cases hz) (by decide) (by decide) (hts _ cl_23) (cast_ok hX.2.1 cs1.1) h1 h2 h3 k) (fun q9 H locs h => ?_)
        refine lv_astore_n (pc := 6) (lv' := [(2, .ref q9), (0, .ref (q0 0)), (1, .int x1)]) hx hb dL_revoke_6 rfl hl (by decide) rfl (fun ls hl => ?_)
        refine lv_ldc (pc := 7) (v := -1000001) hx hb hown (hts _ kc_L_25) dL_revoke_7 ?_
        exact end_i (pc := 9) C hr (by decide) (by decide) h dL_revoke_9
      · subst h9
        rw [show (cE ISE, d).1 = (-1000003 : Int32) from cE_ISE]
        refine vxL_ofH (Qc := fun sz => PostU D (kW q0 q cA d) (kW q0 q cA d) sz (some (.int (-1000003 : Int32)))) (by decide) (Nat.le_of_ble_eq_true rfl) ?_
        intro p l e s m below meth c ls hl0 C hr htab hXA hN hR0 h hl
        have C : Cx p s m _ meth c cL_revoke 3 RL D cA := C
        obtain ⟨hx, hb, hml, hown, hts, hK, hlk⟩ := id C
        replace hl : lv_has ls 3 [(0, .ref (q0 0)), (1, .int x1)] := hl
        have hX := hXA.toXG
        replace h : St D (va_A (kW q0 q cA d) s.heap.size) s.heap (sW d.1 q0 q cA d.2.1 d.2.2) s.heap [] := h
        replace hR0 : SR D s.heap (sW d.1 q0 q cA d.2.1 d.2.2) s.heap [] := hR0
        refine lv_aload_n (pc := 0) hx hb dL_revoke_0 rfl (lv_at hl 0 rfl) ?_
        refine lv_iload_n (pc := 1) hx hb dL_revoke_1 rfl (lv_at hl 1 rfl) ?_
        refine call_C (pc := 2) (hpc := 10) (As := [.int x1]) (rest := []) (E := ISE) C hl0 hX hR0 h (kT_X4_revoke hn d.2.1 d.2.2 x1 hq) cw_L_57 0 (sW_c0 ..) rfl (List.range (sW d.1 q0 q cA d.2.1 d.2.2).length) (full_map _) (nd_of _ List.nodup_range) rfl rfl hl.1 (Nat.le_of_ble_eq_true rfl) dL_revoke_2 ⟨(Nat.le_of_ble_eq_true rfl), (Nat.le_of_ble_eq_true rfl)⟩ rfl rfl ⟨(Nat.le_of_ble_eq_true rfl), (Nat.le_of_ble_eq_true rfl)⟩ (fun H1 locs1 q9 ce h1 h2 h3 k => vx_catch (name := ISE) hown [⟨0, 5, 6, 23⟩] ⟨0, 5, 10, 16⟩ [] (htab.trans rfl) (fun z hz => by
            rcases List.mem_cons.mp hz with rfl | hz
            · exact Or.inr ⟨by decide, IOB, hts _ cl_23, hN (ISE, IOB) (by decide +kernel)⟩
            cases hz) (by decide) (by decide) (hts _ cl_16) (cast_ok hX.2.1 cs1.2.2) h1 h2 h3 k) (fun q9 H locs h => ?_)
        refine lv_astore_n (pc := 10) (lv' := [(2, .ref q9), (0, .ref (q0 0)), (1, .int x1)]) hx hb dL_revoke_10 rfl hl (by decide) rfl (fun ls hl => ?_)
        refine lv_ldc (pc := 11) (v := -1000003) hx hb hown (hts _ kc_L_18) dL_revoke_11 ?_
        exact end_i (pc := 13) C hr (by decide) (by decide) h dL_revoke_13
    | inr z =>
      cases hf
      refine vxL_ofH (Qc := fun sz => PostU D (kW q0 q cA d) (kW q0 q cA (d.1, z.2.1, z.2.2)) sz (some (.int z.1))) (by decide) (Nat.le_of_ble_eq_true rfl) ?_
      intro p l e s m below meth c ls hl0 C hr htab hXA hN hR0 h hl
      have C : Cx p s m _ meth c cL_revoke 3 RL D cA := C
      obtain ⟨hx, hb, hml, hown, hts, hK, hlk⟩ := id C
      replace hl : lv_has ls 3 [(0, .ref (q0 0)), (1, .int x1)] := hl
      have hX := hXA.toXG
      replace h : St D (va_A (kW q0 q cA d) s.heap.size) s.heap (sW d.1 q0 q cA d.2.1 d.2.2) s.heap [] := h
      replace hR0 : SR D s.heap (sW d.1 q0 q cA d.2.1 d.2.2) s.heap [] := hR0
      refine lv_aload_n (pc := 0) hx hb dL_revoke_0 rfl (lv_at hl 0 rfl) ?_
      refine lv_iload_n (pc := 1) hx hb dL_revoke_1 rfl (lv_at hl 1 rfl) ?_
      refine call_VUs (pc := 2) (As := [.int x1]) (rest := []) (ws' := (sW d.1 q0 q cA z.2.1 z.2.2)) C h (k_X4_revoke hn d.2.1 d.2.2 x1 hq) cw_L_57 0 (sW_c0 ..) rfl (sW_fst ..) rfl rfl hl.1 (Nat.le_of_ble_eq_true rfl) dL_revoke_2 ⟨(Nat.le_of_ble_eq_true rfl), (Nat.le_of_ble_eq_true rfl)⟩ rfl rfl ⟨(Nat.le_of_ble_eq_true rfl), (Nat.le_of_ble_eq_true rfl)⟩ (fun H locs h => ?_)
      refine W.eq (g2 := F0 m 5 ls [.int z.1]) rfl ?_
      exact end_i (pc := 5) C hr (by decide) (by decide) h dL_revoke_5
abbrev rmN_pass : Room := { frames := 7, cells := 0, slots := 0, locals := 137 }
abbrev rmW_pass : Room := { frames := 7, cells := 1, slots := 6, locals := 137 }
def gn_pass (d : Dk) (x1 : Int32) : Option (Int32 × Dk) := if d.1 ≤ 6 then match f_X4_pass d.1 d.2.1 d.2.2 x1 with | some (.inr z) => some (z.1, d.1, z.2.1, z.2.2) | _ => none else none
def gm_pass (d : Dk) (x1 : Int32) : Option (Int32 × Dk) := if d.1 ≤ 6 then match f_X4_pass d.1 d.2.1 d.2.2 x1 with | some (.inr z) => some (z.1, d.1, z.2.1, z.2.2) | some (.inl E) => some (cE E, d) | none => none else none
set_option maxHeartbeats 400000 in
set_option maxRecDepth 100000 in
theorem vn_pass {q0 : Nat → Nat} {q : Nat → Nat → Nat} {cA : Nat → ClassId} {D : va_G} (d : Dk) (x1 : Int32) {z : Int32 × Dk} (hf : gn_pass d x1 = some z) : CtV yL_pass (.codeWith yL_pass cL_pass 3 (some .int) [(0, 5, 6, 26)]) rmN_pass [.ref (q0 0), .int x1] D cA (kW q0 q cA d) (kW q0 q cA z.2) (.int z.1) 0 0 := by
  unfold gn_pass at hf
  by_cases hn : d.1 ≤ 6
  rotate_left
  · rw [if_neg hn] at hf
    cases hf
  rw [if_pos hn] at hf
  cases hq : f_X4_pass d.1 d.2.1 d.2.2 x1 with
  | none => rw [hq] at hf; cases hf
  | some y =>
    rw [hq] at hf
    cases y with
    | inl E =>
      cases hf
    | inr z =>
      cases hf
      refine vxL_ofH (Qc := fun sz => PostU D (kW q0 q cA d) (kW q0 q cA (d.1, z.2.1, z.2.2)) sz (some (.int z.1))) (by decide) (Nat.le_of_ble_eq_true rfl) ?_
      intro p l e s m below meth c ls hl0 C hr htab hXA hN hR0 h hl
      have C : Cx p s m _ meth c cL_pass 3 RL D cA := C
      obtain ⟨hx, hb, hml, hown, hts, hK, hlk⟩ := id C
      replace hl : lv_has ls 3 [(0, .ref (q0 0)), (1, .int x1)] := hl
      have hX := hXA.toXG
      replace h : St D (va_A (kW q0 q cA d) s.heap.size) s.heap (sW d.1 q0 q cA d.2.1 d.2.2) s.heap [] := h
      replace hR0 : SR D s.heap (sW d.1 q0 q cA d.2.1 d.2.2) s.heap [] := hR0
      refine lv_aload_n (pc := 0) hx hb dL_pass_0 rfl (lv_at hl 0 rfl) ?_
      refine lv_iload_n (pc := 1) hx hb dL_pass_1 rfl (lv_at hl 1 rfl) ?_
      refine call_VUs (pc := 2) (As := [.int x1]) (rest := []) (ws' := (sW d.1 q0 q cA z.2.1 z.2.2)) C h (k_X4_pass hn d.2.1 d.2.2 x1 hq) cw_L_69 0 (sW_c0 ..) rfl (sW_fst ..) rfl rfl hl.1 (Nat.le_of_ble_eq_true rfl) dL_pass_2 ⟨(Nat.le_of_ble_eq_true rfl), (Nat.le_of_ble_eq_true rfl)⟩ rfl rfl ⟨(Nat.le_of_ble_eq_true rfl), (Nat.le_of_ble_eq_true rfl)⟩ (fun H locs h => ?_)
      refine W.eq (g2 := F0 m 5 ls [.int z.1]) rfl ?_
      exact end_i (pc := 5) C hr (by decide) (by decide) h dL_pass_5
set_option maxHeartbeats 400000 in
set_option maxRecDepth 100000 in
theorem vm_pass {q0 : Nat → Nat} {q : Nat → Nat → Nat} {cA : Nat → ClassId} {D : va_G} (d : Dk) (x1 : Int32) {z : Int32 × Dk} (hf : gm_pass d x1 = some z) : CtV yL_pass (.codeWith yL_pass cL_pass 3 (some .int) [(0, 5, 6, 26)]) rmW_pass [.ref (q0 0), .int x1] D cA (kW q0 q cA d) (kW q0 q cA z.2) (.int z.1) 1 6 := by
  unfold gm_pass at hf
  by_cases hn : d.1 ≤ 6
  rotate_left
  · rw [if_neg hn] at hf
    cases hf
  rw [if_pos hn] at hf
  cases hq : f_X4_pass d.1 d.2.1 d.2.2 x1 with
  | none => rw [hq] at hf; cases hf
  | some y =>
    rw [hq] at hf
    cases y with
    | inl E =>
      cases hf
      rcases E_X4_pass hq with h9
      · subst h9
        rw [show (cE IAE, d).1 = (-1000002 : Int32) from cE_IAE]
        refine vxL_ofH (Qc := fun sz => PostU D (kW q0 q cA d) (kW q0 q cA d) sz (some (.int (-1000002 : Int32)))) (by decide) (Nat.le_of_ble_eq_true rfl) ?_
        intro p l e s m below meth c ls hl0 C hr htab hXA hN hR0 h hl
        have C : Cx p s m _ meth c cL_pass 3 RL D cA := C
        obtain ⟨hx, hb, hml, hown, hts, hK, hlk⟩ := id C
        replace hl : lv_has ls 3 [(0, .ref (q0 0)), (1, .int x1)] := hl
        have hX := hXA.toXG
        replace h : St D (va_A (kW q0 q cA d) s.heap.size) s.heap (sW d.1 q0 q cA d.2.1 d.2.2) s.heap [] := h
        replace hR0 : SR D s.heap (sW d.1 q0 q cA d.2.1 d.2.2) s.heap [] := hR0
        refine lv_aload_n (pc := 0) hx hb dL_pass_0 rfl (lv_at hl 0 rfl) ?_
        refine lv_iload_n (pc := 1) hx hb dL_pass_1 rfl (lv_at hl 1 rfl) ?_
        refine call_C (pc := 2) (hpc := 6) (As := [.int x1]) (rest := []) (E := IAE) C hl0 hX hR0 h (kT_X4_pass hn d.2.1 d.2.2 x1 hq) cw_L_69 0 (sW_c0 ..) rfl (List.range (sW d.1 q0 q cA d.2.1 d.2.2).length) (full_map _) (nd_of _ List.nodup_range) rfl rfl hl.1 (Nat.le_of_ble_eq_true rfl) dL_pass_2 ⟨(Nat.le_of_ble_eq_true rfl), (Nat.le_of_ble_eq_true rfl)⟩ rfl rfl ⟨(Nat.le_of_ble_eq_true rfl), (Nat.le_of_ble_eq_true rfl)⟩ (fun H1 locs1 q9 ce h1 h2 h3 k => vx_catch (name := IAE) hown [] ⟨0, 5, 6, 26⟩ [] (htab.trans rfl) (fun z hz => by cases hz) (by decide) (by decide) (hts _ cl_26) (cast_ok hX.2.1 cs1.2.1) h1 h2 h3 k) (fun q9 H locs h => ?_)
        refine lv_astore_n (pc := 6) (lv' := [(2, .ref q9), (0, .ref (q0 0)), (1, .int x1)]) hx hb dL_pass_6 rfl hl (by decide) rfl (fun ls hl => ?_)
        refine lv_ldc (pc := 7) (v := -1000002) hx hb hown (hts _ kc_L_28) dL_pass_7 ?_
        exact end_i (pc := 9) C hr (by decide) (by decide) h dL_pass_9
    | inr z =>
      cases hf
      refine vxL_ofH (Qc := fun sz => PostU D (kW q0 q cA d) (kW q0 q cA (d.1, z.2.1, z.2.2)) sz (some (.int z.1))) (by decide) (Nat.le_of_ble_eq_true rfl) ?_
      intro p l e s m below meth c ls hl0 C hr htab hXA hN hR0 h hl
      have C : Cx p s m _ meth c cL_pass 3 RL D cA := C
      obtain ⟨hx, hb, hml, hown, hts, hK, hlk⟩ := id C
      replace hl : lv_has ls 3 [(0, .ref (q0 0)), (1, .int x1)] := hl
      have hX := hXA.toXG
      replace h : St D (va_A (kW q0 q cA d) s.heap.size) s.heap (sW d.1 q0 q cA d.2.1 d.2.2) s.heap [] := h
      replace hR0 : SR D s.heap (sW d.1 q0 q cA d.2.1 d.2.2) s.heap [] := hR0
      refine lv_aload_n (pc := 0) hx hb dL_pass_0 rfl (lv_at hl 0 rfl) ?_
      refine lv_iload_n (pc := 1) hx hb dL_pass_1 rfl (lv_at hl 1 rfl) ?_
      refine call_VUs (pc := 2) (As := [.int x1]) (rest := []) (ws' := (sW d.1 q0 q cA z.2.1 z.2.2)) C h (k_X4_pass hn d.2.1 d.2.2 x1 hq) cw_L_69 0 (sW_c0 ..) rfl (sW_fst ..) rfl rfl hl.1 (Nat.le_of_ble_eq_true rfl) dL_pass_2 ⟨(Nat.le_of_ble_eq_true rfl), (Nat.le_of_ble_eq_true rfl)⟩ rfl rfl ⟨(Nat.le_of_ble_eq_true rfl), (Nat.le_of_ble_eq_true rfl)⟩ (fun H locs h => ?_)
      refine W.eq (g2 := F0 m 5 ls [.int z.1]) rfl ?_
      exact end_i (pc := 5) C hr (by decide) (by decide) h dL_pass_5
end
