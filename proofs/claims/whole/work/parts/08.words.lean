/-! the words of the tables that the walks use, one row each -/
theorem inT0 : ∀ w ∈ wsX00, w ∈ lw_tbl ∧ goodWord w = true := by decide +kernel
theorem inW0 : ∀ w ∈ u_ws RX0 TX0 13, w ∈ WS := fun w hw => ws_mem (inT0 w hw).1 (inT0 w hw).2
theorem inT1 : ∀ w ∈ wsX10, w ∈ lw_tbl ∧ goodWord w = true := by decide +kernel
theorem inW1 : ∀ w ∈ u_ws RX1 TX1 5, w ∈ WS := fun w hw => ws_mem (inT1 w hw).1 (inT1 w hw).2
theorem inT2 : ∀ w ∈ wsX20, w ∈ lw_tbl ∧ goodWord w = true := by decide +kernel
theorem inW2 : ∀ w ∈ u_ws RX2 TX2 1, w ∈ WS := fun w hw => ws_mem (inT2 w hw).1 (inT2 w hw).2
theorem inT3 : ∀ w ∈ wsX30, w ∈ lw_tbl ∧ goodWord w = true := by decide +kernel
theorem inW3 : ∀ w ∈ u_ws RX3 TX3 5, w ∈ WS := fun w hw => ws_mem (inT3 w hw).1 (inT3 w hw).2
theorem inT4 : ∀ w ∈ wsX40, w ∈ lw_tbl ∧ goodWord w = true := by decide +kernel
theorem inW4 : ∀ w ∈ u_ws RX4 TX4 5, w ∈ WS := fun w hw => ws_mem (inT4 w hw).1 (inT4 w hw).2
theorem inT5 : ∀ w ∈ wsX50, w ∈ lw_tbl ∧ goodWord w = true := by decide +kernel
theorem inW5 : ∀ w ∈ u_ws RX5 TX5 25, w ∈ WS := fun w hw => ws_mem (inT5 w hw).1 (inT5 w hw).2
theorem fp_X0_14 : FP RX0 14 0 0 true (.object "Signround$Row") := ⟨RX0, TX0, 13, tyX0, rfl, inW0, by decide, wm 197 (by decide +kernel) rfl, tyX0_ok, nmX0, rfl, (by decide +kernel)⟩
theorem fp_X0_20 : FP RX0 20 0 1 true (.object "Signround$Row") := ⟨RX0, TX0, 13, tyX0, rfl, inW0, by decide, wm 199 (by decide +kernel) rfl, tyX0_ok, nmX0, rfl, (by decide +kernel)⟩
theorem fp_X0_23 : FP RX0 23 0 2 true (.object "Signround$Row") := ⟨RX0, TX0, 13, tyX0, rfl, inW0, by decide, wm 201 (by decide +kernel) rfl, tyX0_ok, nmX0, rfl, (by decide +kernel)⟩
theorem fp_X0_26 : FP RX0 26 0 3 true (.object "Signround$Row") := ⟨RX0, TX0, 13, tyX0, rfl, inW0, by decide, wm 203 (by decide +kernel) rfl, tyX0_ok, nmX0, rfl, (by decide +kernel)⟩
theorem fp_X0_29 : FP RX0 29 0 4 true (.object "Signround$Row") := ⟨RX0, TX0, 13, tyX0, rfl, inW0, by decide, wm 204 (by decide +kernel) rfl, tyX0_ok, nmX0, rfl, (by decide +kernel)⟩
theorem fp_X0_35 : FP RX0 35 0 5 true (.object "Signround$History") := ⟨RX0, TX0, 13, tyX0, rfl, inW0, by decide, wm 205 (by decide +kernel) rfl, tyX0_ok, nmX0, rfl, (by decide +kernel)⟩
theorem fp_X0_39 : FP RX0 39 0 7 false .int := ⟨RX0, TX0, 13, tyX0, rfl, inW0, by decide, wm 209 (by decide +kernel) rfl, tyX0_ok, nmX0, rfl, (by decide +kernel)⟩
theorem fl_X0_43 : FL RX0 43 0 6 := ⟨RX0, TX0, 13, rfl, inW0, by decide, wm 207 (by decide +kernel) rfl⟩
theorem fl_X0_23 : FL RX0 23 0 2 := ⟨RX0, TX0, 13, rfl, inW0, by decide, wm 201 (by decide +kernel) rfl⟩
set_option maxRecDepth 20000 in
theorem cw_X0_50 : CWv RX0 50 yX2_get cX2_get 2 (some .int) 1 := ⟨wm 312 (by decide +kernel) rfl, wm 313 (by decide +kernel) rfl, wm 314 (by decide +kernel) rfl, wm 2 (by decide +kernel) rfl, wm 315 rfl rfl, by decide +kernel, by decide +kernel, by decide +kernel⟩
set_option maxRecDepth 20000 in
theorem cw_X0_54 : CWs RX0 54 yJ9_max_7cf53 cJ9_max_7cf53 2 (some .int) 2 := ⟨wm 316 (by decide +kernel) rfl, wm 317 (by decide +kernel) rfl, wm 13 (by decide +kernel) rfl, wm 318 rfl rfl, by decide +kernel, by decide +kernel, by decide +kernel⟩
theorem fl_X0_14 : FL RX0 14 0 0 := ⟨RX0, TX0, 13, rfl, inW0, by decide, wm 197 (by decide +kernel) rfl⟩
set_option maxRecDepth 20000 in
theorem cw_X0_60 : CWv RX0 60 yX2_set cX2_set 3 none 2 := ⟨wm 319 (by decide +kernel) rfl, wm 320 (by decide +kernel) rfl, wm 321 (by decide +kernel) rfl, wm 2 (by decide +kernel) rfl, wm 322 rfl rfl, by decide +kernel, by decide +kernel, by decide +kernel⟩
theorem fl_X0_20 : FL RX0 20 0 1 := ⟨RX0, TX0, 13, rfl, inW0, by decide, wm 199 (by decide +kernel) rfl⟩
theorem fp_X0_43 : FP RX0 43 0 6 false .int := ⟨RX0, TX0, 13, tyX0, rfl, inW0, by decide, wm 207 (by decide +kernel) rfl, tyX0_ok, nmX0, rfl, (by decide +kernel)⟩
set_option maxRecDepth 20000 in
theorem cw_X0_64 : CWv RX0 64 yX0_allSlots cX0_allSlots 1 (some .int) 0 := ⟨wm 403 (by decide +kernel) rfl, wm 281 (by decide +kernel) rfl, wm 282 (by decide +kernel) rfl, wm 9 (by decide +kernel) rfl, wm 283 rfl rfl, by decide +kernel, by decide +kernel, by decide +kernel⟩
set_option maxRecDepth 20000 in
theorem cw_X0_68 : CWv RX0 68 yX0_nextBehind cX0_nextBehind 4 (some .int) 1 := ⟨wm 369 (by decide +kernel) rfl, wm 370 (by decide +kernel) rfl, wm 371 (by decide +kernel) rfl, wm 9 (by decide +kernel) rfl, wm 372 rfl rfl, by decide +kernel, by decide +kernel, by decide +kernel⟩
theorem fp_X0_71 : FP RX0 71 0 10 false .int := ⟨RX0, TX0, 13, tyX0, rfl, inW0, by decide, wm 215 (by decide +kernel) rfl, tyX0_ok, nmX0, rfl, (by decide +kernel)⟩
theorem fl_X0_35 : FL RX0 35 0 5 := ⟨RX0, TX0, 13, rfl, inW0, by decide, wm 205 (by decide +kernel) rfl⟩
set_option maxRecDepth 20000 in
theorem cw_X0_74 : CWv RX0 74 yX1_add cX1_add 5 none 4 := ⟨wm 360 (by decide +kernel) rfl, wm 361 (by decide +kernel) rfl, wm 362 (by decide +kernel) rfl, wm 10 (by decide +kernel) rfl, wm 363 rfl rfl, by decide +kernel, by decide +kernel, by decide +kernel⟩
set_option maxRecDepth 20000 in
theorem cw_X0_78 : CWv RX0 78 yX0_openNext cX0_openNext 4 (some .int) 1 := ⟨wm 365 (by decide +kernel) rfl, wm 366 (by decide +kernel) rfl, wm 367 (by decide +kernel) rfl, wm 9 (by decide +kernel) rfl, wm 368 rfl rfl, by decide +kernel, by decide +kernel, by decide +kernel⟩
theorem fl_X0_81 : FL RX0 81 0 11 := ⟨RX0, TX0, 13, rfl, inW0, by decide, wm 216 (by decide +kernel) rfl⟩
theorem fp_X0_81 : FP RX0 81 0 11 false .int := ⟨RX0, TX0, 13, tyX0, rfl, inW0, by decide, wm 216 (by decide +kernel) rfl, tyX0_ok, nmX0, rfl, (by decide +kernel)⟩
theorem fl_X0_84 : FL RX0 84 0 12 := ⟨RX0, TX0, 13, rfl, inW0, by decide, wm 218 (by decide +kernel) rfl⟩
theorem fp_X0_84 : FP RX0 84 0 12 false .int := ⟨RX0, TX0, 13, tyX0, rfl, inW0, by decide, wm 218 (by decide +kernel) rfl, tyX0_ok, nmX0, rfl, (by decide +kernel)⟩
theorem fl_X0_26 : FL RX0 26 0 3 := ⟨RX0, TX0, 13, rfl, inW0, by decide, wm 203 (by decide +kernel) rfl⟩
set_option maxRecDepth 20000 in
theorem cw_X0_87 : CWs RX0 87 yJ6_bitCount_0f7a4 cJ6_bitCount_0f7a4 1 (some .int) 1 := ⟨wm 373 (by decide +kernel) rfl, wm 332 (by decide +kernel) rfl, wm 14 (by decide +kernel) rfl, wm 333 rfl rfl, by decide +kernel, by decide +kernel, by decide +kernel⟩
theorem fl_X0_39 : FL RX0 39 0 7 := ⟨RX0, TX0, 13, rfl, inW0, by decide, wm 209 (by decide +kernel) rfl⟩
theorem fl_X0_92 : FL RX0 92 0 9 := ⟨RX0, TX0, 13, rfl, inW0, by decide, wm 214 (by decide +kernel) rfl⟩
theorem fl_X0_71 : FL RX0 71 0 10 := ⟨RX0, TX0, 13, rfl, inW0, by decide, wm 215 (by decide +kernel) rfl⟩
set_option maxRecDepth 20000 in
theorem cw_X0_95 : CWv RX0 95 yX0_finish cX0_finish 6 (some .int) 5 := ⟨wm 486 (by decide +kernel) rfl, wm 420 (by decide +kernel) rfl, wm 421 (by decide +kernel) rfl, wm 9 (by decide +kernel) rfl, wm 422 rfl rfl, by decide +kernel, by decide +kernel, by decide +kernel⟩
set_option maxRecDepth 20000 in
theorem cw_X0_99 : CWv RX0 99 yX0_remind cX0_remind 4 (some .int) 1 := ⟨wm 487 (by decide +kernel) rfl, wm 488 (by decide +kernel) rfl, wm 489 (by decide +kernel) rfl, wm 9 (by decide +kernel) rfl, wm 490 rfl rfl, by decide +kernel, by decide +kernel, by decide +kernel⟩
set_option maxRecDepth 20000 in
theorem cw_X0_102 : CWv RX0 102 yX0_canRemind cX0_canRemind 2 (some .boolean) 1 := ⟨wm 491 (by decide +kernel) rfl, wm 492 (by decide +kernel) rfl, wm 493 (by decide +kernel) rfl, wm 9 (by decide +kernel) rfl, wm 494 rfl rfl, by decide +kernel, by decide +kernel, by decide +kernel⟩
set_option maxRecDepth 20000 in
theorem cw_X0_106 : CWv RX0 106 yX0_daysToPace cX0_daysToPace 3 (some .int) 2 := ⟨wm 495 (by decide +kernel) rfl, wm 496 (by decide +kernel) rfl, wm 497 (by decide +kernel) rfl, wm 9 (by decide +kernel) rfl, wm 498 rfl rfl, by decide +kernel, by decide +kernel, by decide +kernel⟩
theorem fl_X0_109 : FL RX0 109 0 8 := ⟨RX0, TX0, 13, rfl, inW0, by decide, wm 212 (by decide +kernel) rfl⟩
theorem fl_X0_29 : FL RX0 29 0 4 := ⟨RX0, TX0, 13, rfl, inW0, by decide, wm 204 (by decide +kernel) rfl⟩
set_option maxRecDepth 20000 in
theorem cw_X0_112 : CWs RX0 112 yJ9_min_7cf53 cJ9_min_7cf53 2 (some .int) 2 := ⟨wm 510 (by decide +kernel) rfl, wm 511 (by decide +kernel) rfl, wm 13 (by decide +kernel) rfl, wm 512 rfl rfl, by decide +kernel, by decide +kernel, by decide +kernel⟩
theorem fp_X1_14 : FP RX1 14 1 0 true (.object "Signround$Row") := ⟨RX1, TX1, 5, tyX1, rfl, inW1, by decide, wm 177 (by decide +kernel) rfl, tyX1_ok, nmX1, rfl, (by decide +kernel)⟩
theorem fp_X1_20 : FP RX1 20 1 1 true (.object "Signround$Row") := ⟨RX1, TX1, 5, tyX1, rfl, inW1, by decide, wm 179 (by decide +kernel) rfl, tyX1_ok, nmX1, rfl, (by decide +kernel)⟩
theorem fp_X1_23 : FP RX1 23 1 2 true (.object "Signround$Row") := ⟨RX1, TX1, 5, tyX1, rfl, inW1, by decide, wm 181 (by decide +kernel) rfl, tyX1_ok, nmX1, rfl, (by decide +kernel)⟩
theorem fp_X1_26 : FP RX1 26 1 3 true (.object "Signround$Row") := ⟨RX1, TX1, 5, tyX1, rfl, inW1, by decide, wm 182 (by decide +kernel) rfl, tyX1_ok, nmX1, rfl, (by decide +kernel)⟩
theorem fl_X1_29 : FL RX1 29 1 4 := ⟨RX1, TX1, 5, rfl, inW1, by decide, wm 184 (by decide +kernel) rfl⟩
theorem fl_X1_14 : FL RX1 14 1 0 := ⟨RX1, TX1, 5, rfl, inW1, by decide, wm 177 (by decide +kernel) rfl⟩
set_option maxRecDepth 20000 in
theorem cw_X1_33 : CWv RX1 33 yX2_set cX2_set 3 none 2 := ⟨wm 364 (by decide +kernel) rfl, wm 320 (by decide +kernel) rfl, wm 321 (by decide +kernel) rfl, wm 2 (by decide +kernel) rfl, wm 322 rfl rfl, by decide +kernel, by decide +kernel, by decide +kernel⟩
theorem fl_X1_20 : FL RX1 20 1 1 := ⟨RX1, TX1, 5, rfl, inW1, by decide, wm 179 (by decide +kernel) rfl⟩
theorem fl_X1_23 : FL RX1 23 1 2 := ⟨RX1, TX1, 5, rfl, inW1, by decide, wm 181 (by decide +kernel) rfl⟩
theorem fl_X1_26 : FL RX1 26 1 3 := ⟨RX1, TX1, 5, rfl, inW1, by decide, wm 182 (by decide +kernel) rfl⟩
theorem fp_X1_29 : FP RX1 29 1 4 false .int := ⟨RX1, TX1, 5, tyX1, rfl, inW1, by decide, wm 184 (by decide +kernel) rfl, tyX1_ok, nmX1, rfl, (by decide +kernel)⟩
set_option maxRecDepth 20000 in
theorem cw_X1_37 : CWv RX1 37 yX2_get cX2_get 2 (some .int) 1 := ⟨wm 646 (by decide +kernel) rfl, wm 313 (by decide +kernel) rfl, wm 314 (by decide +kernel) rfl, wm 2 (by decide +kernel) rfl, wm 315 rfl rfl, by decide +kernel, by decide +kernel, by decide +kernel⟩
theorem kc_X1_41 : Cond.constant RX1 41 (65521) ∈ WS := wm 647 (by decide +kernel) rfl
set_option maxRecDepth 20000 in
theorem cw_X1_42 : CWs RX1 42 yX1_isSigning cX1_isSigning 1 (some .boolean) 1 := ⟨wm 659 (by decide +kernel) rfl, wm 660 (by decide +kernel) rfl, wm 10 (by decide +kernel) rfl, wm 661 rfl rfl, by decide +kernel, by decide +kernel, by decide +kernel⟩
set_option maxRecDepth 20000 in
theorem cw_X1_46 : CWs RX1 46 yX1_stateWith cX1_stateWith 3 (some .int) 3 := ⟨wm 662 (by decide +kernel) rfl, wm 663 (by decide +kernel) rfl, wm 10 (by decide +kernel) rfl, wm 664 rfl rfl, by decide +kernel, by decide +kernel, by decide +kernel⟩
theorem fp_X2_7 : FP RX2 7 2 0 true (.array .int) := ⟨RX2, TX2, 1, tyX2, rfl, inW2, by decide, wm 33 (by decide +kernel) rfl, tyX2_ok, nmX2, rfl, (by decide +kernel)⟩
theorem fl_X2_7 : FL RX2 7 2 0 := ⟨RX2, TX2, 1, rfl, inW2, by decide, wm 33 (by decide +kernel) rfl⟩
theorem fp_X3_9 : FP RX3 9 3 0 false .int := ⟨RX3, TX3, 5, tyX3, rfl, inW3, by decide, wm 43 (by decide +kernel) rfl, tyX3_ok, nmX3, rfl, (by decide +kernel)⟩
theorem fl_X3_15 : FL RX3 15 3 1 := ⟨RX3, TX3, 5, rfl, inW3, by decide, wm 45 (by decide +kernel) rfl⟩
theorem fl_X3_18 : FL RX3 18 3 2 := ⟨RX3, TX3, 5, rfl, inW3, by decide, wm 47 (by decide +kernel) rfl⟩
theorem fl_X3_9 : FL RX3 9 3 0 := ⟨RX3, TX3, 5, rfl, inW3, by decide, wm 43 (by decide +kernel) rfl⟩
theorem fp_X4_11 : FP RX4 11 4 0 true (.array (.object "Signround$Envelope")) := ⟨RX4, TX4, 5, tyX4, rfl, inW4, by decide, wm 62 (by decide +kernel) rfl, tyX4_ok, nmX4, rfl, (by decide +kernel)⟩
theorem fp_X4_17 : FP RX4 17 4 1 true (.array (.object "Signround$Standin")) := ⟨RX4, TX4, 5, tyX4, rfl, inW4, by decide, wm 63 (by decide +kernel) rfl, tyX4_ok, nmX4, rfl, (by decide +kernel)⟩
theorem fp_X4_26 : FP RX4 26 4 2 true (.object "Signround$Row") := ⟨RX4, TX4, 5, tyX4, rfl, inW4, by decide, wm 64 (by decide +kernel) rfl, tyX4_ok, nmX4, rfl, (by decide +kernel)⟩
theorem fl_X4_17 : FL RX4 17 4 1 := ⟨RX4, TX4, 5, rfl, inW4, by decide, wm 63 (by decide +kernel) rfl⟩
theorem fl_X4_31 : FL RX4 31 4 3 := ⟨RX4, TX4, 5, rfl, inW4, by decide, wm 65 (by decide +kernel) rfl⟩
theorem fl_X4_11 : FL RX4 11 4 0 := ⟨RX4, TX4, 5, rfl, inW4, by decide, wm 62 (by decide +kernel) rfl⟩
theorem fp_X4_31 : FP RX4 31 4 3 false .int := ⟨RX4, TX4, 5, tyX4, rfl, inW4, by decide, wm 65 (by decide +kernel) rfl, tyX4_ok, nmX4, rfl, (by decide +kernel)⟩
set_option maxRecDepth 20000 in
theorem cw_X4_43 : CWv RX4 43 yX4_envelopeAt cX4_envelopeAt 3 (some (.object "Signround$Envelope")) 1 := ⟨wm 256 (by decide +kernel) rfl, wm 258 (by decide +kernel) rfl, wsel 1 (by decide +kernel) rfl, wm 1 (by decide +kernel) rfl, wm 259 rfl rfl, by decide +kernel, by decide +kernel, by decide +kernel⟩
set_option maxRecDepth 20000 in
theorem cw_X4_47 : CWs RX4 47 yX4_refuseNoPerson cX4_refuseNoPerson 1 none 1 := ⟨wm 276 (by decide +kernel) rfl, wm 277 (by decide +kernel) rfl, wm 1 (by decide +kernel) rfl, wm 278 rfl rfl, by decide +kernel, by decide +kernel, by decide +kernel⟩
set_option maxRecDepth 20000 in
theorem cw_X4_50 : CWv RX4 50 yX0_allSlots cX0_allSlots 1 (some .int) 0 := ⟨wm 280 (by decide +kernel) rfl, wm 281 (by decide +kernel) rfl, wm 282 (by decide +kernel) rfl, wm 9 (by decide +kernel) rfl, wm 283 rfl rfl, by decide +kernel, by decide +kernel, by decide +kernel⟩
set_option maxRecDepth 20000 in
theorem cw_X4_59 : CWs RX4 59 yX4_refuseNoDraft cX4_refuseNoDraft 1 none 1 := ⟨wm 300 (by decide +kernel) rfl, wm 301 (by decide +kernel) rfl, wm 1 (by decide +kernel) rfl, wm 302 rfl rfl, by decide +kernel, by decide +kernel, by decide +kernel⟩
theorem fl_X4_63 : FL RX4 63 0 6 := ⟨RX0, TX0, 13, rfl, inW0, by decide, wm 208 (by decide +kernel) rfl⟩
set_option maxRecDepth 20000 in
theorem cw_X4_68 : CWv RX4 68 yX0_append cX0_append 5 none 2 := ⟨wm 305 (by decide +kernel) rfl, wm 306 (by decide +kernel) rfl, wm 307 (by decide +kernel) rfl, wm 9 (by decide +kernel) rfl, wm 308 rfl rfl, by decide +kernel, by decide +kernel, by decide +kernel⟩
set_option maxRecDepth 20000 in
theorem cw_X4_74 : CWs RX4 74 yJ6_bitCount_0f7a4 cJ6_bitCount_0f7a4 1 (some .int) 1 := ⟨wm 331 (by decide +kernel) rfl, wm 332 (by decide +kernel) rfl, wm 14 (by decide +kernel) rfl, wm 333 rfl rfl, by decide +kernel, by decide +kernel, by decide +kernel⟩
set_option maxRecDepth 20000 in
theorem cw_X4_82 : CWs RX4 82 yX4_has cX4_has 2 (some .boolean) 2 := ⟨wm 338 (by decide +kernel) rfl, wm 310 (by decide +kernel) rfl, wm 1 (by decide +kernel) rfl, wm 311 rfl rfl, by decide +kernel, by decide +kernel, by decide +kernel⟩
theorem fp_X4_90 : FP RX4 90 0 8 false .int := ⟨RX0, TX0, 13, tyX0, rfl, inW0, by decide, wm 211 (by decide +kernel) rfl, tyX0_ok, nmX0, rfl, (by decide +kernel)⟩
theorem fp_X4_93 : FP RX4 93 0 9 false .int := ⟨RX0, TX0, 13, tyX0, rfl, inW0, by decide, wm 213 (by decide +kernel) rfl, tyX0_ok, nmX0, rfl, (by decide +kernel)⟩
theorem fl_X4_98 : FL RX4 98 4 4 := ⟨RX4, TX4, 5, rfl, inW4, by decide, wm 66 (by decide +kernel) rfl⟩
set_option maxRecDepth 20000 in
theorem cw_X4_101 : CWv RX4 101 yX0_start cX0_start 2 (some .int) 1 := ⟨wm 356 (by decide +kernel) rfl, wm 357 (by decide +kernel) rfl, wm 358 (by decide +kernel) rfl, wm 9 (by decide +kernel) rfl, wm 359 rfl rfl, by decide +kernel, by decide +kernel, by decide +kernel⟩
set_option maxRecDepth 20000 in
theorem cw_X4_104 : CWs RX4 104 yX4_refuseNoSlot cX4_refuseNoSlot 2 none 2 := ⟨wm 381 (by decide +kernel) rfl, wm 382 (by decide +kernel) rfl, wm 1 (by decide +kernel) rfl, wm 383 rfl rfl, by decide +kernel, by decide +kernel, by decide +kernel⟩
set_option maxRecDepth 20000 in
theorem cw_X4_108 : CWv RX4 108 yX4_reasonFor cX4_reasonFor 6 (some .int) 3 := ⟨wm 385 (by decide +kernel) rfl, wm 387 (by decide +kernel) rfl, wsel 2 (by decide +kernel) rfl, wm 1 (by decide +kernel) rfl, wm 388 rfl rfl, by decide +kernel, by decide +kernel, by decide +kernel⟩
set_option maxRecDepth 20000 in
theorem cw_X4_114 : CWv RX4 114 yX0_mark cX0_mark 5 (some .int) 4 := ⟨wm 399 (by decide +kernel) rfl, wm 400 (by decide +kernel) rfl, wm 401 (by decide +kernel) rfl, wm 9 (by decide +kernel) rfl, wm 402 rfl rfl, by decide +kernel, by decide +kernel, by decide +kernel⟩
theorem fl_X4_118 : FL RX4 118 0 0 := ⟨RX0, TX0, 13, rfl, inW0, by decide, wm 198 (by decide +kernel) rfl⟩
set_option maxRecDepth 20000 in
theorem cw_X4_121 : CWv RX4 121 yX2_get cX2_get 2 (some .int) 1 := ⟨wm 389 (by decide +kernel) rfl, wm 313 (by decide +kernel) rfl, wm 314 (by decide +kernel) rfl, wm 2 (by decide +kernel) rfl, wm 315 rfl rfl, by decide +kernel, by decide +kernel, by decide +kernel⟩
set_option maxRecDepth 20000 in
theorem cw_X4_124 : CWv RX4 124 yX4_standinOf cX4_standinOf 3 (some (.object "Signround$Standin")) 1 := ⟨wm 390 (by decide +kernel) rfl, wm 392 (by decide +kernel) rfl, wsel 3 (by decide +kernel) rfl, wm 1 (by decide +kernel) rfl, wm 393 rfl rfl, by decide +kernel, by decide +kernel, by decide +kernel⟩
theorem fl_X4_128 : FL RX4 128 3 4 := ⟨RX3, TX3, 5, rfl, inW3, by decide, wm 50 (by decide +kernel) rfl⟩
theorem fp_X4_128 : FP RX4 128 3 4 false .int := ⟨RX3, TX3, 5, tyX3, rfl, inW3, by decide, wm 50 (by decide +kernel) rfl, tyX3_ok, nmX3, rfl, (by decide +kernel)⟩
set_option maxRecDepth 20000 in
theorem cw_X4_133 : CWv RX4 133 yX0_finish cX0_finish 6 (some .int) 5 := ⟨wm 419 (by decide +kernel) rfl, wm 420 (by decide +kernel) rfl, wm 421 (by decide +kernel) rfl, wm 9 (by decide +kernel) rfl, wm 422 rfl rfl, by decide +kernel, by decide +kernel, by decide +kernel⟩
theorem fl_X4_137 : FL RX4 137 0 7 := ⟨RX0, TX0, 13, rfl, inW0, by decide, wm 210 (by decide +kernel) rfl⟩
theorem fl_X4_148 : FL RX4 148 3 0 := ⟨RX3, TX3, 5, rfl, inW3, by decide, wm 44 (by decide +kernel) rfl⟩
theorem fp_X4_148 : FP RX4 148 3 0 false .int := ⟨RX3, TX3, 5, tyX3, rfl, inW3, by decide, wm 44 (by decide +kernel) rfl, tyX3_ok, nmX3, rfl, (by decide +kernel)⟩
theorem fp_X4_151 : FP RX4 151 3 1 false .int := ⟨RX3, TX3, 5, tyX3, rfl, inW3, by decide, wm 46 (by decide +kernel) rfl, tyX3_ok, nmX3, rfl, (by decide +kernel)⟩
theorem fp_X4_154 : FP RX4 154 3 2 false .int := ⟨RX3, TX3, 5, tyX3, rfl, inW3, by decide, wm 48 (by decide +kernel) rfl, tyX3_ok, nmX3, rfl, (by decide +kernel)⟩
theorem fp_X4_157 : FP RX4 157 3 3 false .int := ⟨RX3, TX3, 5, tyX3, rfl, inW3, by decide, wm 49 (by decide +kernel) rfl, tyX3_ok, nmX3, rfl, (by decide +kernel)⟩
set_option maxRecDepth 20000 in
theorem cw_X4_162 : CWv RX4 162 yX3_otherOn cX3_otherOn 2 (some .int) 1 := ⟨wm 394 (by decide +kernel) rfl, wm 395 (by decide +kernel) rfl, wm 396 (by decide +kernel) rfl, wm 3 (by decide +kernel) rfl, wm 397 rfl rfl, by decide +kernel, by decide +kernel, by decide +kernel⟩
set_option maxRecDepth 20000 in
theorem cw_X4_167 : CWv RX4 167 yX4_passOneDay cX4_passOneDay 3 (some .int) 0 := ⟨wm 478 (by decide +kernel) rfl, wm 480 (by decide +kernel) rfl, wsel 4 (by decide +kernel) rfl, wm 1 (by decide +kernel) rfl, wm 481 rfl rfl, by decide +kernel, by decide +kernel, by decide +kernel⟩
set_option maxRecDepth 20000 in
theorem cw_X4_170 : CWv RX4 170 yX0_reminderBehind cX0_reminderBehind 5 (some .int) 1 := ⟨wm 506 (by decide +kernel) rfl, wm 507 (by decide +kernel) rfl, wm 508 (by decide +kernel) rfl, wm 9 (by decide +kernel) rfl, wm 509 rfl rfl, by decide +kernel, by decide +kernel, by decide +kernel⟩
set_option maxRecDepth 20000 in
theorem cw_X4_173 : CWv RX4 173 yX0_stateOf cX0_stateOf 2 (some .int) 1 := ⟨wm 534 (by decide +kernel) rfl, wm 535 (by decide +kernel) rfl, wm 536 (by decide +kernel) rfl, wm 9 (by decide +kernel) rfl, wm 537 rfl rfl, by decide +kernel, by decide +kernel, by decide +kernel⟩
theorem fl_X4_176 : FL RX4 176 0 1 := ⟨RX0, TX0, 13, rfl, inW0, by decide, wm 200 (by decide +kernel) rfl⟩
theorem fl_X4_179 : FL RX4 179 0 11 := ⟨RX0, TX0, 13, rfl, inW0, by decide, wm 217 (by decide +kernel) rfl⟩
set_option maxRecDepth 20000 in
theorem cw_X4_182 : CWv RX4 182 yX0_aheadOf cX0_aheadOf 4 (some .int) 1 := ⟨wm 559 (by decide +kernel) rfl, wm 560 (by decide +kernel) rfl, wm 561 (by decide +kernel) rfl, wm 9 (by decide +kernel) rfl, wm 562 rfl rfl, by decide +kernel, by decide +kernel, by decide +kernel⟩
theorem fl_X4_185 : FL RX4 185 0 2 := ⟨RX0, TX0, 13, rfl, inW0, by decide, wm 202 (by decide +kernel) rfl⟩
theorem fl_X4_26 : FL RX4 26 4 2 := ⟨RX4, TX4, 5, rfl, inW4, by decide, wm 64 (by decide +kernel) rfl⟩
set_option maxRecDepth 20000 in
theorem cw_X4_188 : CWv RX4 188 yX0_ordersBehind cX0_ordersBehind 8 (some .int) 2 := ⟨wm 577 (by decide +kernel) rfl, wm 578 (by decide +kernel) rfl, wm 579 (by decide +kernel) rfl, wm 9 (by decide +kernel) rfl, wm 580 rfl rfl, by decide +kernel, by decide +kernel, by decide +kernel⟩
set_option maxRecDepth 20000 in
theorem cw_X4_192 : CWs RX4 192 yX4_countByTrying cX4_countByTrying 6 (some .int) 3 := ⟨wm 588 (by decide +kernel) rfl, wm 589 (by decide +kernel) rfl, wm 1 (by decide +kernel) rfl, wm 590 rfl rfl, by decide +kernel, by decide +kernel, by decide +kernel⟩
theorem fl_X4_196 : FL RX4 196 0 5 := ⟨RX0, TX0, 13, rfl, inW0, by decide, wm 206 (by decide +kernel) rfl⟩
theorem fl_X4_200 : FL RX4 200 1 4 := ⟨RX1, TX1, 5, rfl, inW1, by decide, wm 185 (by decide +kernel) rfl⟩
set_option maxRecDepth 20000 in
theorem cw_X4_205 : CWs RX4 205 yX4_refuseNoEvent cX4_refuseNoEvent 2 none 2 := ⟨wm 613 (by decide +kernel) rfl, wm 614 (by decide +kernel) rfl, wm 1 (by decide +kernel) rfl, wm 615 rfl rfl, by decide +kernel, by decide +kernel, by decide +kernel⟩
theorem fl_X4_209 : FL RX4 209 1 0 := ⟨RX1, TX1, 5, rfl, inW1, by decide, wm 178 (by decide +kernel) rfl⟩
theorem fl_X4_212 : FL RX4 212 1 1 := ⟨RX1, TX1, 5, rfl, inW1, by decide, wm 180 (by decide +kernel) rfl⟩
theorem fl_X4_213 : FL RX4 213 1 3 := ⟨RX1, TX1, 5, rfl, inW1, by decide, wm 183 (by decide +kernel) rfl⟩
set_option maxRecDepth 20000 in
theorem cw_X4_216 : CWs RX4 216 yX4_refuseTooManyEvents cX4_refuseTooManyEvents 2 none 2 := ⟨wm 638 (by decide +kernel) rfl, wm 639 (by decide +kernel) rfl, wm 1 (by decide +kernel) rfl, wm 640 rfl rfl, by decide +kernel, by decide +kernel, by decide +kernel⟩
set_option maxRecDepth 20000 in
theorem cw_X4_219 : CWv RX4 219 yX1_sealBehind cX1_sealBehind 4 (some .int) 1 := ⟨wm 642 (by decide +kernel) rfl, wm 643 (by decide +kernel) rfl, wm 644 (by decide +kernel) rfl, wm 10 (by decide +kernel) rfl, wm 645 rfl rfl, by decide +kernel, by decide +kernel, by decide +kernel⟩
set_option maxRecDepth 20000 in
theorem cw_X4_222 : CWv RX4 222 yX1_stateAfter cX1_stateAfter 7 (some .int) 2 := ⟨wm 655 (by decide +kernel) rfl, wm 656 (by decide +kernel) rfl, wm 657 (by decide +kernel) rfl, wm 10 (by decide +kernel) rfl, wm 658 rfl rfl, by decide +kernel, by decide +kernel, by decide +kernel⟩
set_option maxRecDepth 20000 in
theorem cw_X4_226 : CWv RX4 226 yX1_signedAfter cX1_signedAfter 4 (some .int) 1 := ⟨wm 672 (by decide +kernel) rfl, wm 673 (by decide +kernel) rfl, wm 674 (by decide +kernel) rfl, wm 10 (by decide +kernel) rfl, wm 675 rfl rfl, by decide +kernel, by decide +kernel, by decide +kernel⟩
set_option maxRecDepth 20000 in
theorem cw_X4_229 : CWv RX4 229 yX0_nextBehind cX0_nextBehind 4 (some .int) 1 := ⟨wm 591 (by decide +kernel) rfl, wm 370 (by decide +kernel) rfl, wm 371 (by decide +kernel) rfl, wm 9 (by decide +kernel) rfl, wm 372 rfl rfl, by decide +kernel, by decide +kernel, by decide +kernel⟩
theorem fl_X4_247 : FL RX4 247 0 12 := ⟨RX0, TX0, 13, rfl, inW0, by decide, wm 219 (by decide +kernel) rfl⟩
theorem fl_X4_157 : FL RX4 157 3 3 := ⟨RX3, TX3, 5, rfl, inW3, by decide, wm 49 (by decide +kernel) rfl⟩
theorem fp_X4_98 : FP RX4 98 4 4 false .int := ⟨RX4, TX4, 5, tyX4, rfl, inW4, by decide, wm 66 (by decide +kernel) rfl, tyX4_ok, nmX4, rfl, (by decide +kernel)⟩
set_option maxRecDepth 20000 in
theorem cw_X4_250 : CWv RX4 250 yX0_meetDay cX0_meetDay 2 (some .int) 1 := ⟨wm 482 (by decide +kernel) rfl, wm 483 (by decide +kernel) rfl, wm 484 (by decide +kernel) rfl, wm 9 (by decide +kernel) rfl, wm 485 rfl rfl, by decide +kernel, by decide +kernel, by decide +kernel⟩
theorem kc_J6_265 : Cond.constant RJ6 265 (1431655765) ∈ WS := wm 334 (by decide +kernel) rfl
theorem kc_J6_266 : Cond.constant RJ6 266 (858993459) ∈ WS := wm 335 (by decide +kernel) rfl
theorem kc_J6_267 : Cond.constant RJ6 267 (252645135) ∈ WS := wm 336 (by decide +kernel) rfl
theorem fp_X5_7 : FP RX5 7 5 2 true (.array .int) := ⟨RX5, TX5, 25, tyX5, rfl, inW5, by decide, wm 684 (by decide +kernel) rfl, tyX5_ok, nmX5, rfl, (by decide +kernel)⟩
theorem fp_X5_13 : FP RX5 13 5 3 true (.array .int) := ⟨RX5, TX5, 25, tyX5, rfl, inW5, by decide, wm 685 (by decide +kernel) rfl, tyX5_ok, nmX5, rfl, (by decide +kernel)⟩
theorem fp_X5_16 : FP RX5 16 5 4 true (.array .int) := ⟨RX5, TX5, 25, tyX5, rfl, inW5, by decide, wm 686 (by decide +kernel) rfl, tyX5_ok, nmX5, rfl, (by decide +kernel)⟩
theorem fp_X5_19 : FP RX5 19 5 5 true (.array .int) := ⟨RX5, TX5, 25, tyX5, rfl, inW5, by decide, wm 687 (by decide +kernel) rfl, tyX5_ok, nmX5, rfl, (by decide +kernel)⟩
theorem fp_X5_22 : FP RX5 22 5 6 true (.array .int) := ⟨RX5, TX5, 25, tyX5, rfl, inW5, by decide, wm 688 (by decide +kernel) rfl, tyX5_ok, nmX5, rfl, (by decide +kernel)⟩
theorem fp_X5_25 : FP RX5 25 5 7 true (.array .int) := ⟨RX5, TX5, 25, tyX5, rfl, inW5, by decide, wm 689 (by decide +kernel) rfl, tyX5_ok, nmX5, rfl, (by decide +kernel)⟩
theorem fp_X5_28 : FP RX5 28 5 8 true (.array .int) := ⟨RX5, TX5, 25, tyX5, rfl, inW5, by decide, wm 690 (by decide +kernel) rfl, tyX5_ok, nmX5, rfl, (by decide +kernel)⟩
theorem fp_X5_31 : FP RX5 31 5 9 true (.array .int) := ⟨RX5, TX5, 25, tyX5, rfl, inW5, by decide, wm 691 (by decide +kernel) rfl, tyX5_ok, nmX5, rfl, (by decide +kernel)⟩
theorem fp_X5_34 : FP RX5 34 5 10 true (.array .int) := ⟨RX5, TX5, 25, tyX5, rfl, inW5, by decide, wm 692 (by decide +kernel) rfl, tyX5_ok, nmX5, rfl, (by decide +kernel)⟩
theorem fp_X5_37 : FP RX5 37 5 11 true (.array .int) := ⟨RX5, TX5, 25, tyX5, rfl, inW5, by decide, wm 693 (by decide +kernel) rfl, tyX5_ok, nmX5, rfl, (by decide +kernel)⟩
theorem fp_X5_40 : FP RX5 40 5 12 true (.array .int) := ⟨RX5, TX5, 25, tyX5, rfl, inW5, by decide, wm 694 (by decide +kernel) rfl, tyX5_ok, nmX5, rfl, (by decide +kernel)⟩
theorem fp_X5_43 : FP RX5 43 5 13 true (.array .int) := ⟨RX5, TX5, 25, tyX5, rfl, inW5, by decide, wm 695 (by decide +kernel) rfl, tyX5_ok, nmX5, rfl, (by decide +kernel)⟩
theorem fp_X5_46 : FP RX5 46 5 14 true (.array .int) := ⟨RX5, TX5, 25, tyX5, rfl, inW5, by decide, wm 696 (by decide +kernel) rfl, tyX5_ok, nmX5, rfl, (by decide +kernel)⟩
theorem fp_X5_49 : FP RX5 49 5 15 true (.array .int) := ⟨RX5, TX5, 25, tyX5, rfl, inW5, by decide, wm 697 (by decide +kernel) rfl, tyX5_ok, nmX5, rfl, (by decide +kernel)⟩
theorem fp_X5_52 : FP RX5 52 5 16 true (.array .int) := ⟨RX5, TX5, 25, tyX5, rfl, inW5, by decide, wm 698 (by decide +kernel) rfl, tyX5_ok, nmX5, rfl, (by decide +kernel)⟩
theorem fp_X5_55 : FP RX5 55 5 17 true (.array .int) := ⟨RX5, TX5, 25, tyX5, rfl, inW5, by decide, wm 699 (by decide +kernel) rfl, tyX5_ok, nmX5, rfl, (by decide +kernel)⟩
theorem fp_X5_58 : FP RX5 58 5 21 true (.array .int) := ⟨RX5, TX5, 25, tyX5, rfl, inW5, by decide, wm 703 (by decide +kernel) rfl, tyX5_ok, nmX5, rfl, (by decide +kernel)⟩
theorem fp_X5_61 : FP RX5 61 5 22 true (.array .int) := ⟨RX5, TX5, 25, tyX5, rfl, inW5, by decide, wm 704 (by decide +kernel) rfl, tyX5_ok, nmX5, rfl, (by decide +kernel)⟩
theorem fp_X5_64 : FP RX5 64 5 23 true (.array .int) := ⟨RX5, TX5, 25, tyX5, rfl, inW5, by decide, wm 705 (by decide +kernel) rfl, tyX5_ok, nmX5, rfl, (by decide +kernel)⟩
theorem fl_X5_40 : FL RX5 40 5 12 := ⟨RX5, TX5, 25, rfl, inW5, by decide, wm 694 (by decide +kernel) rfl⟩
theorem fl_X5_67 : FL RX5 67 5 24 := ⟨RX5, TX5, 25, rfl, inW5, by decide, wm 706 (by decide +kernel) rfl⟩
theorem fp_X5_67 : FP RX5 67 5 24 false .int := ⟨RX5, TX5, 25, tyX5, rfl, inW5, by decide, wm 706 (by decide +kernel) rfl, tyX5_ok, nmX5, rfl, (by decide +kernel)⟩
set_option maxRecDepth 20000 in
theorem cw_X5_71 : CWs RX5 71 yX5_in cX5_in 3 (some .boolean) 3 := ⟨wm 778 (by decide +kernel) rfl, wm 779 (by decide +kernel) rfl, wm 4 (by decide +kernel) rfl, wm 780 rfl rfl, by decide +kernel, by decide +kernel, by decide +kernel⟩
theorem fl_X5_75 : FL RX5 75 5 1 := ⟨RX5, TX5, 25, rfl, inW5, by decide, wm 683 (by decide +kernel) rfl⟩
set_option maxRecDepth 20000 in
theorem cw_X5_78 : CWv RX5 78 yX5_isEnvelope cX5_isEnvelope 2 (some .boolean) 1 := ⟨wm 774 (by decide +kernel) rfl, wm 776 (by decide +kernel) rfl, wsel 6 (by decide +kernel) rfl, wm 4 (by decide +kernel) rfl, wm 777 rfl rfl, by decide +kernel, by decide +kernel, by decide +kernel⟩
theorem fl_X5_7 : FL RX5 7 5 2 := ⟨RX5, TX5, 25, rfl, inW5, by decide, wm 684 (by decide +kernel) rfl⟩
theorem fl_X5_19 : FL RX5 19 5 5 := ⟨RX5, TX5, 25, rfl, inW5, by decide, wm 687 (by decide +kernel) rfl⟩
theorem fl_X5_82 : FL RX5 82 5 20 := ⟨RX5, TX5, 25, rfl, inW5, by decide, wm 702 (by decide +kernel) rfl⟩
set_option maxRecDepth 20000 in
theorem cw_X5_85 : CWs RX5 85 yX5_has cX5_has 2 (some .boolean) 2 := ⟨wm 804 (by decide +kernel) rfl, wm 805 (by decide +kernel) rfl, wm 4 (by decide +kernel) rfl, wm 806 rfl rfl, by decide +kernel, by decide +kernel, by decide +kernel⟩
theorem fl_X5_25 : FL RX5 25 5 7 := ⟨RX5, TX5, 25, rfl, inW5, by decide, wm 689 (by decide +kernel) rfl⟩
theorem fl_X5_89 : FL RX5 89 5 19 := ⟨RX5, TX5, 25, rfl, inW5, by decide, wm 701 (by decide +kernel) rfl⟩
theorem fl_X5_58 : FL RX5 58 5 21 := ⟨RX5, TX5, 25, rfl, inW5, by decide, wm 703 (by decide +kernel) rfl⟩
theorem fp_X5_82 : FP RX5 82 5 20 false .int := ⟨RX5, TX5, 25, tyX5, rfl, inW5, by decide, wm 702 (by decide +kernel) rfl, tyX5_ok, nmX5, rfl, (by decide +kernel)⟩
theorem fp_X5_92 : FP RX5 92 5 18 false .int := ⟨RX5, TX5, 25, tyX5, rfl, inW5, by decide, wm 700 (by decide +kernel) rfl, tyX5_ok, nmX5, rfl, (by decide +kernel)⟩
theorem fp_X5_89 : FP RX5 89 5 19 false .int := ⟨RX5, TX5, 25, tyX5, rfl, inW5, by decide, wm 701 (by decide +kernel) rfl, tyX5_ok, nmX5, rfl, (by decide +kernel)⟩
theorem fl_X5_61 : FL RX5 61 5 22 := ⟨RX5, TX5, 25, rfl, inW5, by decide, wm 704 (by decide +kernel) rfl⟩
theorem fl_X5_28 : FL RX5 28 5 8 := ⟨RX5, TX5, 25, rfl, inW5, by decide, wm 690 (by decide +kernel) rfl⟩
theorem fl_X5_37 : FL RX5 37 5 11 := ⟨RX5, TX5, 25, rfl, inW5, by decide, wm 693 (by decide +kernel) rfl⟩
set_option maxRecDepth 20000 in
theorem cw_X5_95 : CWv RX5 95 yX5_opens cX5_opens 5 none 2 := ⟨wm 800 (by decide +kernel) rfl, wm 802 (by decide +kernel) rfl, wsel 11 (by decide +kernel) rfl, wm 4 (by decide +kernel) rfl, wm 803 rfl rfl, by decide +kernel, by decide +kernel, by decide +kernel⟩
theorem fl_X5_34 : FL RX5 34 5 10 := ⟨RX5, TX5, 25, rfl, inW5, by decide, wm 692 (by decide +kernel) rfl⟩
set_option maxRecDepth 20000 in
theorem cw_X5_99 : CWv RX5 99 yX5_all cX5_all 2 (some .int) 1 := ⟨wm 784 (by decide +kernel) rfl, wm 786 (by decide +kernel) rfl, wsel 7 (by decide +kernel) rfl, wm 4 (by decide +kernel) rfl, wm 787 rfl rfl, by decide +kernel, by decide +kernel, by decide +kernel⟩
set_option maxRecDepth 20000 in
theorem cw_X5_103 : CWs RX5 103 yX5_ends cX5_ends 1 (some .int) 1 := ⟨wm 807 (by decide +kernel) rfl, wm 808 (by decide +kernel) rfl, wm 4 (by decide +kernel) rfl, wm 809 rfl rfl, by decide +kernel, by decide +kernel, by decide +kernel⟩
set_option maxRecDepth 20000 in
theorem cw_X5_106 : CWv RX5 106 yX5_tells cX5_tells 4 none 2 := ⟨wm 796 (by decide +kernel) rfl, wm 798 (by decide +kernel) rfl, wsel 10 (by decide +kernel) rfl, wm 4 (by decide +kernel) rfl, wm 799 rfl rfl, by decide +kernel, by decide +kernel, by decide +kernel⟩
set_option maxRecDepth 20000 in
theorem cw_X5_109 : CWv RX5 109 yX5_looks cX5_looks 2 none 1 := ⟨wm 792 (by decide +kernel) rfl, wm 794 (by decide +kernel) rfl, wsel 9 (by decide +kernel) rfl, wm 4 (by decide +kernel) rfl, wm 795 rfl rfl, by decide +kernel, by decide +kernel, by decide +kernel⟩
theorem fl_X5_92 : FL RX5 92 5 18 := ⟨RX5, TX5, 25, rfl, inW5, by decide, wm 700 (by decide +kernel) rfl⟩
theorem fl_X5_31 : FL RX5 31 5 9 := ⟨RX5, TX5, 25, rfl, inW5, by decide, wm 691 (by decide +kernel) rfl⟩
theorem fl_X5_113 : FL RX5 113 5 0 := ⟨RX5, TX5, 25, rfl, inW5, by decide, wm 682 (by decide +kernel) rfl⟩
set_option maxRecDepth 20000 in
theorem cw_X5_116 : CWv RX5 116 yX5_notes cX5_notes 6 none 4 := ⟨wm 829 (by decide +kernel) rfl, wm 831 (by decide +kernel) rfl, wsel 13 (by decide +kernel) rfl, wm 4 (by decide +kernel) rfl, wm 832 rfl rfl, by decide +kernel, by decide +kernel, by decide +kernel⟩
set_option maxRecDepth 20000 in
theorem cw_X5_120 : CWs RX5 120 yX5_many cX5_many 3 (some .int) 1 := ⟨wm 818 (by decide +kernel) rfl, wm 819 (by decide +kernel) rfl, wm 4 (by decide +kernel) rfl, wm 820 rfl rfl, by decide +kernel, by decide +kernel, by decide +kernel⟩
set_option maxRecDepth 20000 in
theorem cw_X5_123 : CWv RX5 123 yX5_goes cX5_goes 4 (some .boolean) 3 := ⟨wm 766 (by decide +kernel) rfl, wm 768 (by decide +kernel) rfl, wsel 5 (by decide +kernel) rfl, wm 4 (by decide +kernel) rfl, wm 769 rfl rfl, by decide +kernel, by decide +kernel, by decide +kernel⟩
theorem fp_X5_75 : FP RX5 75 5 1 false .int := ⟨RX5, TX5, 25, tyX5, rfl, inW5, by decide, wm 683 (by decide +kernel) rfl, tyX5_ok, nmX5, rfl, (by decide +kernel)⟩
theorem fl_X5_22 : FL RX5 22 5 6 := ⟨RX5, TX5, 25, rfl, inW5, by decide, wm 688 (by decide +kernel) rfl⟩
set_option maxRecDepth 20000 in
theorem cw_X5_127 : CWs RX5 127 yX5_isPerson cX5_isPerson 1 (some .boolean) 1 := ⟨wm 781 (by decide +kernel) rfl, wm 782 (by decide +kernel) rfl, wm 4 (by decide +kernel) rfl, wm 783 rfl rfl, by decide +kernel, by decide +kernel, by decide +kernel⟩
set_option maxRecDepth 20000 in
theorem cw_X5_130 : CWv RX5 130 yX5_isIn cX5_isIn 3 (some .boolean) 2 := ⟨wm 788 (by decide +kernel) rfl, wm 790 (by decide +kernel) rfl, wsel 8 (by decide +kernel) rfl, wm 4 (by decide +kernel) rfl, wm 791 rfl rfl, by decide +kernel, by decide +kernel, by decide +kernel⟩
set_option maxRecDepth 20000 in
theorem cw_X5_133 : CWv RX5 133 yX5_adds cX5_adds 4 (some .int) 3 := ⟨wm 810 (by decide +kernel) rfl, wm 812 (by decide +kernel) rfl, wsel 12 (by decide +kernel) rfl, wm 4 (by decide +kernel) rfl, wm 813 rfl rfl, by decide +kernel, by decide +kernel, by decide +kernel⟩
theorem fl_X5_13 : FL RX5 13 5 3 := ⟨RX5, TX5, 25, rfl, inW5, by decide, wm 685 (by decide +kernel) rfl⟩
theorem fl_X5_16 : FL RX5 16 5 4 := ⟨RX5, TX5, 25, rfl, inW5, by decide, wm 686 (by decide +kernel) rfl⟩
set_option maxRecDepth 20000 in
theorem cw_X5_137 : CWv RX5 137 yX5_open cX5_open 1 (some .int) 0 := ⟨wm 833 (by decide +kernel) rfl, wm 835 (by decide +kernel) rfl, wsel 14 (by decide +kernel) rfl, wm 4 (by decide +kernel) rfl, wm 836 rfl rfl, by decide +kernel, by decide +kernel, by decide +kernel⟩
theorem fl_X5_43 : FL RX5 43 5 13 := ⟨RX5, TX5, 25, rfl, inW5, by decide, wm 695 (by decide +kernel) rfl⟩
theorem fl_X5_46 : FL RX5 46 5 14 := ⟨RX5, TX5, 25, rfl, inW5, by decide, wm 696 (by decide +kernel) rfl⟩
theorem fl_X5_55 : FL RX5 55 5 17 := ⟨RX5, TX5, 25, rfl, inW5, by decide, wm 699 (by decide +kernel) rfl⟩
theorem fl_X5_52 : FL RX5 52 5 16 := ⟨RX5, TX5, 25, rfl, inW5, by decide, wm 698 (by decide +kernel) rfl⟩
set_option maxRecDepth 20000 in
theorem cw_X5_141 : CWv RX5 141 yX5_delegated cX5_delegated 2 (some .int) 1 := ⟨wm 849 (by decide +kernel) rfl, wm 851 (by decide +kernel) rfl, wsel 17 (by decide +kernel) rfl, wm 4 (by decide +kernel) rfl, wm 852 rfl rfl, by decide +kernel, by decide +kernel, by decide +kernel⟩
set_option maxRecDepth 20000 in
theorem cw_X5_144 : CWv RX5 144 yX5_signedToday cX5_signedToday 2 (some .int) 1 := ⟨wm 853 (by decide +kernel) rfl, wm 855 (by decide +kernel) rfl, wsel 18 (by decide +kernel) rfl, wm 4 (by decide +kernel) rfl, wm 856 rfl rfl, by decide +kernel, by decide +kernel, by decide +kernel⟩
theorem fl_X5_49 : FL RX5 49 5 15 := ⟨RX5, TX5, 25, rfl, inW5, by decide, wm 697 (by decide +kernel) rfl⟩
set_option maxRecDepth 20000 in
theorem cw_X5_147 : CWv RX5 147 yX5_isSlot cX5_isSlot 3 (some .boolean) 2 := ⟨wm 841 (by decide +kernel) rfl, wm 843 (by decide +kernel) rfl, wsel 15 (by decide +kernel) rfl, wm 4 (by decide +kernel) rfl, wm 844 rfl rfl, by decide +kernel, by decide +kernel, by decide +kernel⟩
set_option maxRecDepth 20000 in
theorem cw_X5_150 : CWv RX5 150 yX5_why cX5_why 5 (some .int) 3 := ⟨wm 845 (by decide +kernel) rfl, wm 847 (by decide +kernel) rfl, wsel 16 (by decide +kernel) rfl, wm 4 (by decide +kernel) rfl, wm 848 rfl rfl, by decide +kernel, by decide +kernel, by decide +kernel⟩
set_option maxRecDepth 20000 in
theorem cw_X5_153 : CWv RX5 153 yX5_closes cX5_closes 5 (some .int) 4 := ⟨wm 865 (by decide +kernel) rfl, wm 867 (by decide +kernel) rfl, wsel 19 (by decide +kernel) rfl, wm 4 (by decide +kernel) rfl, wm 868 rfl rfl, by decide +kernel, by decide +kernel, by decide +kernel⟩
theorem fp_X5_113 : FP RX5 113 5 0 false .int := ⟨RX5, TX5, 25, tyX5, rfl, inW5, by decide, wm 682 (by decide +kernel) rfl, tyX5_ok, nmX5, rfl, (by decide +kernel)⟩
set_option maxRecDepth 20000 in
theorem cw_X5_157 : CWv RX5 157 yX5_reminds cX5_reminds 6 (some .int) 1 := ⟨wm 901 (by decide +kernel) rfl, wm 903 (by decide +kernel) rfl, wsel 21 (by decide +kernel) rfl, wm 4 (by decide +kernel) rfl, wm 904 rfl rfl, by decide +kernel, by decide +kernel, by decide +kernel⟩
set_option maxRecDepth 20000 in
theorem cw_X5_160 : CWv RX5 160 yX5_passes cX5_passes 5 (some .int) 0 := ⟨wm 897 (by decide +kernel) rfl, wm 899 (by decide +kernel) rfl, wsel 20 (by decide +kernel) rfl, wm 4 (by decide +kernel) rfl, wm 900 rfl rfl, by decide +kernel, by decide +kernel, by decide +kernel⟩
set_option maxRecDepth 20000 in
theorem cw_X5_163 : CWv RX5 163 yX5_told cX5_told 2 (some .int) 1 := ⟨wm 909 (by decide +kernel) rfl, wm 911 (by decide +kernel) rfl, wsel 22 (by decide +kernel) rfl, wm 4 (by decide +kernel) rfl, wm 912 rfl rfl, by decide +kernel, by decide +kernel, by decide +kernel⟩
set_option maxRecDepth 20000 in
theorem cw_X5_166 : CWv RX5 166 yX5_next cX5_next 5 (some .int) 1 := ⟨wm 917 (by decide +kernel) rfl, wm 919 (by decide +kernel) rfl, wsel 23 (by decide +kernel) rfl, wm 4 (by decide +kernel) rfl, wm 920 rfl rfl, by decide +kernel, by decide +kernel, by decide +kernel⟩
set_option maxRecDepth 20000 in
theorem cw_X5_169 : CWv RX5 169 yX5_reach cX5_reach 5 (some .int) 2 := ⟨wm 949 (by decide +kernel) rfl, wm 951 (by decide +kernel) rfl, wsel 24 (by decide +kernel) rfl, wm 4 (by decide +kernel) rfl, wm 952 rfl rfl, by decide +kernel, by decide +kernel, by decide +kernel⟩
theorem fl_X5_64 : FL RX5 64 5 23 := ⟨RX5, TX5, 25, rfl, inW5, by decide, wm 705 (by decide +kernel) rfl⟩
set_option maxRecDepth 20000 in
theorem cw_X5_173 : CWv RX5 173 yX5_countsFrom cX5_countsFrom 6 (some .int) 2 := ⟨wm 961 (by decide +kernel) rfl, wm 963 (by decide +kernel) rfl, wsel 25 (by decide +kernel) rfl, wm 4 (by decide +kernel) rfl, wm 964 rfl rfl, by decide +kernel, by decide +kernel, by decide +kernel⟩
set_option maxRecDepth 20000 in
theorem cw_X5_176 : CWv RX5 176 yX5_orders cX5_orders 2 (some .int) 1 := ⟨wm 969 (by decide +kernel) rfl, wm 958 (by decide +kernel) rfl, wm 959 (by decide +kernel) rfl, wm 4 (by decide +kernel) rfl, wm 960 rfl rfl, by decide +kernel, by decide +kernel, by decide +kernel⟩
set_option maxRecDepth 20000 in
theorem cw_X5_179 : CWv RX5 179 yX5_isEvent cX5_isEvent 3 (some .boolean) 2 := ⟨wm 982 (by decide +kernel) rfl, wm 984 (by decide +kernel) rfl, wsel 26 (by decide +kernel) rfl, wm 4 (by decide +kernel) rfl, wm 985 rfl rfl, by decide +kernel, by decide +kernel, by decide +kernel⟩
set_option maxRecDepth 20000 in
theorem cw_X5_182 : CWv RX5 182 yX5_areEvents cX5_areEvents 3 (some .boolean) 2 := ⟨wm 998 (by decide +kernel) rfl, wm 1000 (by decide +kernel) rfl, wsel 27 (by decide +kernel) rfl, wm 4 (by decide +kernel) rfl, wm 1001 rfl rfl, by decide +kernel, by decide +kernel, by decide +kernel⟩
theorem kc_X5_185 : Cond.constant RX5 185 (65521) ∈ WS := wm 1002 (by decide +kernel) rfl
set_option maxRecDepth 20000 in
theorem hw_has : Cond.static yX4_has ∈ WS ∧ Cond.initialized RX4 ∈ WS ∧ Cond.code yX4_has cX4_has 2 (some .boolean) ∈ WS := ⟨wm 310 (by decide +kernel) rfl, wm 1 (by decide +kernel) rfl, wm 311 rfl rfl⟩
