/-! the words of the tables that the walks use, one row each -/
theorem inT0 : ∀ w ∈ wsX00, w ∈ lw_tbl ∧ goodWord w = true := by decide +kernel
theorem inW0 : ∀ w ∈ u_ws RX0 TX0 13, w ∈ WS := fun w hw => ws_mem (inT0 w hw).1 (inT0 w hw).2
theorem inT1 : ∀ w ∈ wsX10, w ∈ lw_tbl ∧ goodWord w = true := by decide +kernel
theorem inW1 : ∀ w ∈ u_ws RX1 TX1 5, w ∈ WS := fun w hw => ws_mem (inT1 w hw).1 (inT1 w hw).2
theorem inT2 : ∀ w ∈ wsX20, w ∈ lw_tbl ∧ goodWord w = true := by decide +kernel
theorem inW2 : ∀ w ∈ u_ws RX2 TX2 1, w ∈ WS := fun w hw => ws_mem (inT2 w hw).1 (inT2 w hw).2
theorem inT3 : ∀ w ∈ wsX30, w ∈ lw_tbl ∧ goodWord w = true := by decide +kernel
theorem inW3 : ∀ w ∈ u_ws RX3 TX3 5, w ∈ WS := fun w hw => ws_mem (inT3 w hw).1 (inT3 w hw).2
theorem inT4 : ∀ w ∈ wsX40, w ∈ lw_tbl ∧ goodWord w = true := by decide +kernel
theorem inW4 : ∀ w ∈ u_ws RX4 TX4 5, w ∈ WS := fun w hw => ws_mem (inT4 w hw).1 (inT4 w hw).2
theorem fp_X0_14 : FP RX0 14 0 0 true (.object "Signround$Row") := ⟨RX0, TX0, 13, tyX0, rfl, inW0, by decide, wm 577 (by decide +kernel) rfl, tyX0_ok, nmX0, rfl, (by decide +kernel)⟩
theorem fp_X0_20 : FP RX0 20 0 1 true (.object "Signround$Row") := ⟨RX0, TX0, 13, tyX0, rfl, inW0, by decide, wm 579 (by decide +kernel) rfl, tyX0_ok, nmX0, rfl, (by decide +kernel)⟩
theorem fp_X0_23 : FP RX0 23 0 2 true (.object "Signround$Row") := ⟨RX0, TX0, 13, tyX0, rfl, inW0, by decide, wm 581 (by decide +kernel) rfl, tyX0_ok, nmX0, rfl, (by decide +kernel)⟩
theorem fp_X0_26 : FP RX0 26 0 3 true (.object "Signround$Row") := ⟨RX0, TX0, 13, tyX0, rfl, inW0, by decide, wm 583 (by decide +kernel) rfl, tyX0_ok, nmX0, rfl, (by decide +kernel)⟩
theorem fp_X0_29 : FP RX0 29 0 4 true (.object "Signround$Row") := ⟨RX0, TX0, 13, tyX0, rfl, inW0, by decide, wm 584 (by decide +kernel) rfl, tyX0_ok, nmX0, rfl, (by decide +kernel)⟩
theorem fp_X0_35 : FP RX0 35 0 5 true (.object "Signround$History") := ⟨RX0, TX0, 13, tyX0, rfl, inW0, by decide, wm 585 (by decide +kernel) rfl, tyX0_ok, nmX0, rfl, (by decide +kernel)⟩
theorem fp_X0_39 : FP RX0 39 0 7 false .int := ⟨RX0, TX0, 13, tyX0, rfl, inW0, by decide, wm 589 (by decide +kernel) rfl, tyX0_ok, nmX0, rfl, (by decide +kernel)⟩
theorem fl_X0_43 : FL RX0 43 0 6 := ⟨RX0, TX0, 13, rfl, inW0, by decide, wm 587 (by decide +kernel) rfl⟩
theorem fl_X0_23 : FL RX0 23 0 2 := ⟨RX0, TX0, 13, rfl, inW0, by decide, wm 581 (by decide +kernel) rfl⟩
set_option maxRecDepth 20000 in
theorem cw_X0_50 : CWv RX0 50 yX2_get cX2_get 2 (some .int) 1 := ⟨wm 214 (by decide +kernel) rfl, wm 215 (by decide +kernel) rfl, wm 216 (by decide +kernel) rfl, wm 2 (by decide +kernel) rfl, wm 217 rfl rfl, by decide +kernel, by decide +kernel, by decide +kernel⟩
set_option maxRecDepth 20000 in
theorem cw_X0_54 : CWs RX0 54 yJ9_max_7cf53 cJ9_max_7cf53 2 (some .int) 2 := ⟨wm 641 (by decide +kernel) rfl, wm 642 (by decide +kernel) rfl, wm 12 (by decide +kernel) rfl, wm 643 rfl rfl, by decide +kernel, by decide +kernel, by decide +kernel⟩
theorem fl_X0_14 : FL RX0 14 0 0 := ⟨RX0, TX0, 13, rfl, inW0, by decide, wm 577 (by decide +kernel) rfl⟩
set_option maxRecDepth 20000 in
theorem cw_X0_60 : CWv RX0 60 yX2_set cX2_set 3 none 2 := ⟨wm 218 (by decide +kernel) rfl, wm 200 (by decide +kernel) rfl, wm 201 (by decide +kernel) rfl, wm 2 (by decide +kernel) rfl, wm 202 rfl rfl, by decide +kernel, by decide +kernel, by decide +kernel⟩
theorem fl_X0_20 : FL RX0 20 0 1 := ⟨RX0, TX0, 13, rfl, inW0, by decide, wm 579 (by decide +kernel) rfl⟩
theorem fp_X0_43 : FP RX0 43 0 6 false .int := ⟨RX0, TX0, 13, tyX0, rfl, inW0, by decide, wm 587 (by decide +kernel) rfl, tyX0_ok, nmX0, rfl, (by decide +kernel)⟩
set_option maxRecDepth 20000 in
theorem cw_X0_64 : CWv RX0 64 yX0_allSlots cX0_allSlots 1 (some .int) 0 := ⟨wm 261 (by decide +kernel) rfl, wm 262 (by decide +kernel) rfl, wm 263 (by decide +kernel) rfl, wm 9 (by decide +kernel) rfl, wm 264 rfl rfl, by decide +kernel, by decide +kernel, by decide +kernel⟩
set_option maxRecDepth 20000 in
theorem cw_X0_68 : CWv RX0 68 yX0_nextBehind cX0_nextBehind 4 (some .int) 1 := ⟨wm 207 (by decide +kernel) rfl, wm 208 (by decide +kernel) rfl, wm 209 (by decide +kernel) rfl, wm 9 (by decide +kernel) rfl, wm 210 rfl rfl, by decide +kernel, by decide +kernel, by decide +kernel⟩
theorem fp_X0_71 : FP RX0 71 0 10 false .int := ⟨RX0, TX0, 13, tyX0, rfl, inW0, by decide, wm 595 (by decide +kernel) rfl, tyX0_ok, nmX0, rfl, (by decide +kernel)⟩
theorem fl_X0_35 : FL RX0 35 0 5 := ⟨RX0, TX0, 13, rfl, inW0, by decide, wm 585 (by decide +kernel) rfl⟩
set_option maxRecDepth 20000 in
theorem cw_X0_74 : CWv RX0 74 yX1_add cX1_add 5 none 4 := ⟨wm 195 (by decide +kernel) rfl, wm 196 (by decide +kernel) rfl, wm 197 (by decide +kernel) rfl, wm 10 (by decide +kernel) rfl, wm 198 rfl rfl, by decide +kernel, by decide +kernel, by decide +kernel⟩
set_option maxRecDepth 20000 in
theorem cw_X0_78 : CWv RX0 78 yX0_openNext cX0_openNext 4 (some .int) 1 := ⟨wm 203 (by decide +kernel) rfl, wm 204 (by decide +kernel) rfl, wm 205 (by decide +kernel) rfl, wm 9 (by decide +kernel) rfl, wm 206 rfl rfl, by decide +kernel, by decide +kernel, by decide +kernel⟩
theorem fl_X0_81 : FL RX0 81 0 11 := ⟨RX0, TX0, 13, rfl, inW0, by decide, wm 596 (by decide +kernel) rfl⟩
theorem fp_X0_81 : FP RX0 81 0 11 false .int := ⟨RX0, TX0, 13, tyX0, rfl, inW0, by decide, wm 596 (by decide +kernel) rfl, tyX0_ok, nmX0, rfl, (by decide +kernel)⟩
theorem fl_X0_84 : FL RX0 84 0 12 := ⟨RX0, TX0, 13, rfl, inW0, by decide, wm 598 (by decide +kernel) rfl⟩
theorem fp_X0_84 : FP RX0 84 0 12 false .int := ⟨RX0, TX0, 13, tyX0, rfl, inW0, by decide, wm 598 (by decide +kernel) rfl, tyX0_ok, nmX0, rfl, (by decide +kernel)⟩
theorem fl_X0_26 : FL RX0 26 0 3 := ⟨RX0, TX0, 13, rfl, inW0, by decide, wm 583 (by decide +kernel) rfl⟩
set_option maxRecDepth 20000 in
theorem cw_X0_87 : CWs RX0 87 yJ6_bitCount_0f7a4 cJ6_bitCount_0f7a4 1 (some .int) 1 := ⟨wm 219 (by decide +kernel) rfl, wm 220 (by decide +kernel) rfl, wm 13 (by decide +kernel) rfl, wm 221 rfl rfl, by decide +kernel, by decide +kernel, by decide +kernel⟩
theorem fl_X0_39 : FL RX0 39 0 7 := ⟨RX0, TX0, 13, rfl, inW0, by decide, wm 589 (by decide +kernel) rfl⟩
theorem fl_X0_92 : FL RX0 92 0 9 := ⟨RX0, TX0, 13, rfl, inW0, by decide, wm 594 (by decide +kernel) rfl⟩
theorem fl_X0_71 : FL RX0 71 0 10 := ⟨RX0, TX0, 13, rfl, inW0, by decide, wm 595 (by decide +kernel) rfl⟩
set_option maxRecDepth 20000 in
theorem cw_X0_95 : CWv RX0 95 yX0_finish cX0_finish 6 (some .int) 5 := ⟨wm 709 (by decide +kernel) rfl, wm 671 (by decide +kernel) rfl, wm 672 (by decide +kernel) rfl, wm 9 (by decide +kernel) rfl, wm 673 rfl rfl, by decide +kernel, by decide +kernel, by decide +kernel⟩
set_option maxRecDepth 20000 in
theorem cw_X0_99 : CWv RX0 99 yX0_remind cX0_remind 4 (some .int) 1 := ⟨wm 710 (by decide +kernel) rfl, wm 711 (by decide +kernel) rfl, wm 712 (by decide +kernel) rfl, wm 9 (by decide +kernel) rfl, wm 713 rfl rfl, by decide +kernel, by decide +kernel, by decide +kernel⟩
set_option maxRecDepth 20000 in
theorem cw_X0_102 : CWv RX0 102 yX0_canRemind cX0_canRemind 2 (some .boolean) 1 := ⟨wm 352 (by decide +kernel) rfl, wm 353 (by decide +kernel) rfl, wm 354 (by decide +kernel) rfl, wm 9 (by decide +kernel) rfl, wm 355 rfl rfl, by decide +kernel, by decide +kernel, by decide +kernel⟩
set_option maxRecDepth 20000 in
theorem cw_X0_106 : CWv RX0 106 yX0_daysToPace cX0_daysToPace 3 (some .int) 2 := ⟨wm 356 (by decide +kernel) rfl, wm 357 (by decide +kernel) rfl, wm 358 (by decide +kernel) rfl, wm 9 (by decide +kernel) rfl, wm 359 rfl rfl, by decide +kernel, by decide +kernel, by decide +kernel⟩
theorem fl_X0_109 : FL RX0 109 0 8 := ⟨RX0, TX0, 13, rfl, inW0, by decide, wm 592 (by decide +kernel) rfl⟩
theorem fl_X0_29 : FL RX0 29 0 4 := ⟨RX0, TX0, 13, rfl, inW0, by decide, wm 584 (by decide +kernel) rfl⟩
set_option maxRecDepth 20000 in
theorem cw_X0_112 : CWs RX0 112 yJ9_min_7cf53 cJ9_min_7cf53 2 (some .int) 2 := ⟨wm 360 (by decide +kernel) rfl, wm 361 (by decide +kernel) rfl, wm 12 (by decide +kernel) rfl, wm 362 rfl rfl, by decide +kernel, by decide +kernel, by decide +kernel⟩
theorem fp_X1_14 : FP RX1 14 1 0 true (.object "Signround$Row") := ⟨RX1, TX1, 5, tyX1, rfl, inW1, by decide, wm 557 (by decide +kernel) rfl, tyX1_ok, nmX1, rfl, (by decide +kernel)⟩
theorem fp_X1_20 : FP RX1 20 1 1 true (.object "Signround$Row") := ⟨RX1, TX1, 5, tyX1, rfl, inW1, by decide, wm 559 (by decide +kernel) rfl, tyX1_ok, nmX1, rfl, (by decide +kernel)⟩
theorem fp_X1_23 : FP RX1 23 1 2 true (.object "Signround$Row") := ⟨RX1, TX1, 5, tyX1, rfl, inW1, by decide, wm 561 (by decide +kernel) rfl, tyX1_ok, nmX1, rfl, (by decide +kernel)⟩
theorem fp_X1_26 : FP RX1 26 1 3 true (.object "Signround$Row") := ⟨RX1, TX1, 5, tyX1, rfl, inW1, by decide, wm 562 (by decide +kernel) rfl, tyX1_ok, nmX1, rfl, (by decide +kernel)⟩
theorem fl_X1_29 : FL RX1 29 1 4 := ⟨RX1, TX1, 5, rfl, inW1, by decide, wm 564 (by decide +kernel) rfl⟩
theorem fl_X1_14 : FL RX1 14 1 0 := ⟨RX1, TX1, 5, rfl, inW1, by decide, wm 557 (by decide +kernel) rfl⟩
set_option maxRecDepth 20000 in
theorem cw_X1_33 : CWv RX1 33 yX2_set cX2_set 3 none 2 := ⟨wm 199 (by decide +kernel) rfl, wm 200 (by decide +kernel) rfl, wm 201 (by decide +kernel) rfl, wm 2 (by decide +kernel) rfl, wm 202 rfl rfl, by decide +kernel, by decide +kernel, by decide +kernel⟩
theorem fl_X1_20 : FL RX1 20 1 1 := ⟨RX1, TX1, 5, rfl, inW1, by decide, wm 559 (by decide +kernel) rfl⟩
theorem fl_X1_23 : FL RX1 23 1 2 := ⟨RX1, TX1, 5, rfl, inW1, by decide, wm 561 (by decide +kernel) rfl⟩
theorem fl_X1_26 : FL RX1 26 1 3 := ⟨RX1, TX1, 5, rfl, inW1, by decide, wm 562 (by decide +kernel) rfl⟩
theorem fp_X1_29 : FP RX1 29 1 4 false .int := ⟨RX1, TX1, 5, tyX1, rfl, inW1, by decide, wm 564 (by decide +kernel) rfl, tyX1_ok, nmX1, rfl, (by decide +kernel)⟩
set_option maxRecDepth 20000 in
theorem cw_X1_37 : CWv RX1 37 yX2_get cX2_get 2 (some .int) 1 := ⟨wm 339 (by decide +kernel) rfl, wm 215 (by decide +kernel) rfl, wm 216 (by decide +kernel) rfl, wm 2 (by decide +kernel) rfl, wm 217 rfl rfl, by decide +kernel, by decide +kernel, by decide +kernel⟩
theorem kc_X1_41 : Cond.constant RX1 41 (65521) ∈ WS := wm 340 (by decide +kernel) rfl
set_option maxRecDepth 20000 in
theorem cw_X1_42 : CWs RX1 42 yX1_isSigning cX1_isSigning 1 (some .boolean) 1 := ⟨wm 438 (by decide +kernel) rfl, wm 439 (by decide +kernel) rfl, wm 10 (by decide +kernel) rfl, wm 440 rfl rfl, by decide +kernel, by decide +kernel, by decide +kernel⟩
set_option maxRecDepth 20000 in
theorem cw_X1_46 : CWs RX1 46 yX1_stateWith cX1_stateWith 3 (some .int) 3 := ⟨wm 441 (by decide +kernel) rfl, wm 442 (by decide +kernel) rfl, wm 10 (by decide +kernel) rfl, wm 443 rfl rfl, by decide +kernel, by decide +kernel, by decide +kernel⟩
theorem fp_X2_7 : FP RX2 7 2 0 true (.array .int) := ⟨RX2, TX2, 1, tyX2, rfl, inW2, by decide, wm 32 (by decide +kernel) rfl, tyX2_ok, nmX2, rfl, (by decide +kernel)⟩
theorem fl_X2_7 : FL RX2 7 2 0 := ⟨RX2, TX2, 1, rfl, inW2, by decide, wm 32 (by decide +kernel) rfl⟩
theorem fp_X3_9 : FP RX3 9 3 0 false .int := ⟨RX3, TX3, 5, tyX3, rfl, inW3, by decide, wm 42 (by decide +kernel) rfl, tyX3_ok, nmX3, rfl, (by decide +kernel)⟩
theorem fl_X3_15 : FL RX3 15 3 1 := ⟨RX3, TX3, 5, rfl, inW3, by decide, wm 44 (by decide +kernel) rfl⟩
theorem fl_X3_18 : FL RX3 18 3 2 := ⟨RX3, TX3, 5, rfl, inW3, by decide, wm 46 (by decide +kernel) rfl⟩
theorem fl_X3_9 : FL RX3 9 3 0 := ⟨RX3, TX3, 5, rfl, inW3, by decide, wm 42 (by decide +kernel) rfl⟩
theorem fp_X4_11 : FP RX4 11 4 0 true (.array (.object "Signround$Envelope")) := ⟨RX4, TX4, 5, tyX4, rfl, inW4, by decide, wm 61 (by decide +kernel) rfl, tyX4_ok, nmX4, rfl, (by decide +kernel)⟩
theorem fp_X4_17 : FP RX4 17 4 1 true (.array (.object "Signround$Standin")) := ⟨RX4, TX4, 5, tyX4, rfl, inW4, by decide, wm 62 (by decide +kernel) rfl, tyX4_ok, nmX4, rfl, (by decide +kernel)⟩
theorem fp_X4_26 : FP RX4 26 4 2 true (.object "Signround$Row") := ⟨RX4, TX4, 5, tyX4, rfl, inW4, by decide, wm 63 (by decide +kernel) rfl, tyX4_ok, nmX4, rfl, (by decide +kernel)⟩
theorem fl_X4_17 : FL RX4 17 4 1 := ⟨RX4, TX4, 5, rfl, inW4, by decide, wm 62 (by decide +kernel) rfl⟩
theorem fl_X4_31 : FL RX4 31 4 3 := ⟨RX4, TX4, 5, rfl, inW4, by decide, wm 64 (by decide +kernel) rfl⟩
theorem fl_X4_11 : FL RX4 11 4 0 := ⟨RX4, TX4, 5, rfl, inW4, by decide, wm 61 (by decide +kernel) rfl⟩
theorem fp_X4_31 : FP RX4 31 4 3 false .int := ⟨RX4, TX4, 5, tyX4, rfl, inW4, by decide, wm 64 (by decide +kernel) rfl, tyX4_ok, nmX4, rfl, (by decide +kernel)⟩
set_option maxRecDepth 20000 in
theorem cw_X4_43 : CWv RX4 43 yX4_envelopeAt cX4_envelopeAt 3 (some (.object "Signround$Envelope")) 1 := ⟨wm 99 (by decide +kernel) rfl, wm 101 (by decide +kernel) rfl, wsel 0 (by decide +kernel) rfl, wm 1 (by decide +kernel) rfl, wm 102 rfl rfl, by decide +kernel, by decide +kernel, by decide +kernel⟩
set_option maxRecDepth 20000 in
theorem cw_X4_47 : CWs RX4 47 yX4_refuseNoPerson cX4_refuseNoPerson 1 none 1 := ⟨wm 234 (by decide +kernel) rfl, wm 235 (by decide +kernel) rfl, wm 1 (by decide +kernel) rfl, wm 236 rfl rfl, by decide +kernel, by decide +kernel, by decide +kernel⟩
set_option maxRecDepth 20000 in
theorem cw_X4_50 : CWv RX4 50 yX0_allSlots cX0_allSlots 1 (some .int) 0 := ⟨wm 634 (by decide +kernel) rfl, wm 262 (by decide +kernel) rfl, wm 263 (by decide +kernel) rfl, wm 9 (by decide +kernel) rfl, wm 264 rfl rfl, by decide +kernel, by decide +kernel, by decide +kernel⟩
set_option maxRecDepth 20000 in
theorem cw_X4_59 : CWs RX4 59 yX4_refuseNoDraft cX4_refuseNoDraft 1 none 1 := ⟨wm 171 (by decide +kernel) rfl, wm 172 (by decide +kernel) rfl, wm 1 (by decide +kernel) rfl, wm 173 rfl rfl, by decide +kernel, by decide +kernel, by decide +kernel⟩
theorem fl_X4_63 : FL RX4 63 0 6 := ⟨RX0, TX0, 13, rfl, inW0, by decide, wm 588 (by decide +kernel) rfl⟩
set_option maxRecDepth 20000 in
theorem cw_X4_68 : CWv RX4 68 yX0_append cX0_append 5 none 2 := ⟨wm 637 (by decide +kernel) rfl, wm 638 (by decide +kernel) rfl, wm 639 (by decide +kernel) rfl, wm 9 (by decide +kernel) rfl, wm 640 rfl rfl, by decide +kernel, by decide +kernel, by decide +kernel⟩
set_option maxRecDepth 20000 in
theorem cw_X4_74 : CWs RX4 74 yJ6_bitCount_0f7a4 cJ6_bitCount_0f7a4 1 (some .int) 1 := ⟨wm 388 (by decide +kernel) rfl, wm 220 (by decide +kernel) rfl, wm 13 (by decide +kernel) rfl, wm 221 rfl rfl, by decide +kernel, by decide +kernel, by decide +kernel⟩
set_option maxRecDepth 20000 in
theorem cw_X4_82 : CWs RX4 82 yX4_has cX4_has 2 (some .boolean) 2 := ⟨wm 246 (by decide +kernel) rfl, wm 212 (by decide +kernel) rfl, wm 1 (by decide +kernel) rfl, wm 213 rfl rfl, by decide +kernel, by decide +kernel, by decide +kernel⟩
theorem fp_X4_90 : FP RX4 90 0 8 false .int := ⟨RX0, TX0, 13, tyX0, rfl, inW0, by decide, wm 591 (by decide +kernel) rfl, tyX0_ok, nmX0, rfl, (by decide +kernel)⟩
theorem fp_X4_93 : FP RX4 93 0 9 false .int := ⟨RX0, TX0, 13, tyX0, rfl, inW0, by decide, wm 593 (by decide +kernel) rfl, tyX0_ok, nmX0, rfl, (by decide +kernel)⟩
theorem fl_X4_98 : FL RX4 98 4 4 := ⟨RX4, TX4, 5, rfl, inW4, by decide, wm 65 (by decide +kernel) rfl⟩
set_option maxRecDepth 20000 in
theorem cw_X4_101 : CWv RX4 101 yX0_start cX0_start 2 (some .int) 1 := ⟨wm 191 (by decide +kernel) rfl, wm 192 (by decide +kernel) rfl, wm 193 (by decide +kernel) rfl, wm 9 (by decide +kernel) rfl, wm 194 rfl rfl, by decide +kernel, by decide +kernel, by decide +kernel⟩
set_option maxRecDepth 20000 in
theorem cw_X4_104 : CWs RX4 104 yX4_refuseNoSlot cX4_refuseNoSlot 2 none 2 := ⟨wm 238 (by decide +kernel) rfl, wm 239 (by decide +kernel) rfl, wm 1 (by decide +kernel) rfl, wm 240 rfl rfl, by decide +kernel, by decide +kernel, by decide +kernel⟩
set_option maxRecDepth 20000 in
theorem cw_X4_108 : CWv RX4 108 yX4_reasonFor cX4_reasonFor 6 (some .int) 3 := ⟨wm 242 (by decide +kernel) rfl, wm 244 (by decide +kernel) rfl, wsel 2 (by decide +kernel) rfl, wm 1 (by decide +kernel) rfl, wm 245 rfl rfl, by decide +kernel, by decide +kernel, by decide +kernel⟩
set_option maxRecDepth 20000 in
theorem cw_X4_114 : CWv RX4 114 yX0_mark cX0_mark 5 (some .int) 4 := ⟨wm 257 (by decide +kernel) rfl, wm 258 (by decide +kernel) rfl, wm 259 (by decide +kernel) rfl, wm 9 (by decide +kernel) rfl, wm 260 rfl rfl, by decide +kernel, by decide +kernel, by decide +kernel⟩
theorem fl_X4_118 : FL RX4 118 0 0 := ⟨RX0, TX0, 13, rfl, inW0, by decide, wm 578 (by decide +kernel) rfl⟩
set_option maxRecDepth 20000 in
theorem cw_X4_121 : CWv RX4 121 yX2_get cX2_get 2 (some .int) 1 := ⟨wm 247 (by decide +kernel) rfl, wm 215 (by decide +kernel) rfl, wm 216 (by decide +kernel) rfl, wm 2 (by decide +kernel) rfl, wm 217 rfl rfl, by decide +kernel, by decide +kernel, by decide +kernel⟩
set_option maxRecDepth 20000 in
theorem cw_X4_124 : CWv RX4 124 yX4_standinOf cX4_standinOf 3 (some (.object "Signround$Standin")) 1 := ⟨wm 248 (by decide +kernel) rfl, wm 250 (by decide +kernel) rfl, wsel 3 (by decide +kernel) rfl, wm 1 (by decide +kernel) rfl, wm 251 rfl rfl, by decide +kernel, by decide +kernel, by decide +kernel⟩
theorem fl_X4_128 : FL RX4 128 3 4 := ⟨RX3, TX3, 5, rfl, inW3, by decide, wm 49 (by decide +kernel) rfl⟩
theorem fp_X4_128 : FP RX4 128 3 4 false .int := ⟨RX3, TX3, 5, tyX3, rfl, inW3, by decide, wm 49 (by decide +kernel) rfl, tyX3_ok, nmX3, rfl, (by decide +kernel)⟩
set_option maxRecDepth 20000 in
theorem cw_X4_133 : CWv RX4 133 yX0_finish cX0_finish 6 (some .int) 5 := ⟨wm 670 (by decide +kernel) rfl, wm 671 (by decide +kernel) rfl, wm 672 (by decide +kernel) rfl, wm 9 (by decide +kernel) rfl, wm 673 rfl rfl, by decide +kernel, by decide +kernel, by decide +kernel⟩
theorem fl_X4_137 : FL RX4 137 0 7 := ⟨RX0, TX0, 13, rfl, inW0, by decide, wm 590 (by decide +kernel) rfl⟩
theorem fl_X4_148 : FL RX4 148 3 0 := ⟨RX3, TX3, 5, rfl, inW3, by decide, wm 43 (by decide +kernel) rfl⟩
theorem fp_X4_148 : FP RX4 148 3 0 false .int := ⟨RX3, TX3, 5, tyX3, rfl, inW3, by decide, wm 43 (by decide +kernel) rfl, tyX3_ok, nmX3, rfl, (by decide +kernel)⟩
theorem fp_X4_151 : FP RX4 151 3 1 false .int := ⟨RX3, TX3, 5, tyX3, rfl, inW3, by decide, wm 45 (by decide +kernel) rfl, tyX3_ok, nmX3, rfl, (by decide +kernel)⟩
theorem fp_X4_154 : FP RX4 154 3 2 false .int := ⟨RX3, TX3, 5, tyX3, rfl, inW3, by decide, wm 47 (by decide +kernel) rfl, tyX3_ok, nmX3, rfl, (by decide +kernel)⟩
theorem fp_X4_157 : FP RX4 157 3 3 false .int := ⟨RX3, TX3, 5, tyX3, rfl, inW3, by decide, wm 48 (by decide +kernel) rfl, tyX3_ok, nmX3, rfl, (by decide +kernel)⟩
set_option maxRecDepth 20000 in
theorem cw_X4_162 : CWv RX4 162 yX3_otherOn cX3_otherOn 2 (some .int) 1 := ⟨wm 252 (by decide +kernel) rfl, wm 253 (by decide +kernel) rfl, wm 254 (by decide +kernel) rfl, wm 3 (by decide +kernel) rfl, wm 255 rfl rfl, by decide +kernel, by decide +kernel, by decide +kernel⟩
set_option maxRecDepth 20000 in
theorem cw_X4_167 : CWv RX4 167 yX4_passOneDay cX4_passOneDay 3 (some .int) 0 := ⟨wm 701 (by decide +kernel) rfl, wm 703 (by decide +kernel) rfl, wsel 4 (by decide +kernel) rfl, wm 1 (by decide +kernel) rfl, wm 704 rfl rfl, by decide +kernel, by decide +kernel, by decide +kernel⟩
set_option maxRecDepth 20000 in
theorem cw_X4_170 : CWv RX4 170 yX0_reminderBehind cX0_reminderBehind 5 (some .int) 1 := ⟨wm 348 (by decide +kernel) rfl, wm 349 (by decide +kernel) rfl, wm 350 (by decide +kernel) rfl, wm 9 (by decide +kernel) rfl, wm 351 rfl rfl, by decide +kernel, by decide +kernel, by decide +kernel⟩
set_option maxRecDepth 20000 in
theorem cw_X4_173 : CWv RX4 173 yX0_stateOf cX0_stateOf 2 (some .int) 1 := ⟨wm 377 (by decide +kernel) rfl, wm 378 (by decide +kernel) rfl, wm 379 (by decide +kernel) rfl, wm 9 (by decide +kernel) rfl, wm 380 rfl rfl, by decide +kernel, by decide +kernel, by decide +kernel⟩
theorem fl_X4_176 : FL RX4 176 0 1 := ⟨RX0, TX0, 13, rfl, inW0, by decide, wm 580 (by decide +kernel) rfl⟩
theorem fl_X4_179 : FL RX4 179 0 11 := ⟨RX0, TX0, 13, rfl, inW0, by decide, wm 597 (by decide +kernel) rfl⟩
set_option maxRecDepth 20000 in
theorem cw_X4_182 : CWv RX4 182 yX0_aheadOf cX0_aheadOf 4 (some .int) 1 := ⟨wm 423 (by decide +kernel) rfl, wm 424 (by decide +kernel) rfl, wm 425 (by decide +kernel) rfl, wm 9 (by decide +kernel) rfl, wm 426 rfl rfl, by decide +kernel, by decide +kernel, by decide +kernel⟩
theorem fl_X4_185 : FL RX4 185 0 2 := ⟨RX0, TX0, 13, rfl, inW0, by decide, wm 582 (by decide +kernel) rfl⟩
theorem fl_X4_26 : FL RX4 26 4 2 := ⟨RX4, TX4, 5, rfl, inW4, by decide, wm 63 (by decide +kernel) rfl⟩
set_option maxRecDepth 20000 in
theorem cw_X4_188 : CWv RX4 188 yX0_ordersBehind cX0_ordersBehind 8 (some .int) 2 := ⟨wm 503 (by decide +kernel) rfl, wm 504 (by decide +kernel) rfl, wm 505 (by decide +kernel) rfl, wm 9 (by decide +kernel) rfl, wm 506 rfl rfl, by decide +kernel, by decide +kernel, by decide +kernel⟩
set_option maxRecDepth 20000 in
theorem cw_X4_192 : CWs RX4 192 yX4_countByTrying cX4_countByTrying 6 (some .int) 3 := ⟨wm 521 (by decide +kernel) rfl, wm 522 (by decide +kernel) rfl, wm 1 (by decide +kernel) rfl, wm 523 rfl rfl, by decide +kernel, by decide +kernel, by decide +kernel⟩
theorem fl_X4_196 : FL RX4 196 0 5 := ⟨RX0, TX0, 13, rfl, inW0, by decide, wm 586 (by decide +kernel) rfl⟩
theorem fl_X4_200 : FL RX4 200 1 4 := ⟨RX1, TX1, 5, rfl, inW1, by decide, wm 565 (by decide +kernel) rfl⟩
set_option maxRecDepth 20000 in
theorem cw_X4_205 : CWs RX4 205 yX4_refuseNoEvent cX4_refuseNoEvent 2 none 2 := ⟨wm 474 (by decide +kernel) rfl, wm 475 (by decide +kernel) rfl, wm 1 (by decide +kernel) rfl, wm 476 rfl rfl, by decide +kernel, by decide +kernel, by decide +kernel⟩
theorem fl_X4_209 : FL RX4 209 1 0 := ⟨RX1, TX1, 5, rfl, inW1, by decide, wm 558 (by decide +kernel) rfl⟩
theorem fl_X4_212 : FL RX4 212 1 1 := ⟨RX1, TX1, 5, rfl, inW1, by decide, wm 560 (by decide +kernel) rfl⟩
theorem fl_X4_213 : FL RX4 213 1 3 := ⟨RX1, TX1, 5, rfl, inW1, by decide, wm 563 (by decide +kernel) rfl⟩
set_option maxRecDepth 20000 in
theorem cw_X4_216 : CWs RX4 216 yX4_refuseTooManyEvents cX4_refuseTooManyEvents 2 none 2 := ⟨wm 331 (by decide +kernel) rfl, wm 332 (by decide +kernel) rfl, wm 1 (by decide +kernel) rfl, wm 333 rfl rfl, by decide +kernel, by decide +kernel, by decide +kernel⟩
set_option maxRecDepth 20000 in
theorem cw_X4_219 : CWv RX4 219 yX1_sealBehind cX1_sealBehind 4 (some .int) 1 := ⟨wm 335 (by decide +kernel) rfl, wm 336 (by decide +kernel) rfl, wm 337 (by decide +kernel) rfl, wm 10 (by decide +kernel) rfl, wm 338 rfl rfl, by decide +kernel, by decide +kernel, by decide +kernel⟩
set_option maxRecDepth 20000 in
theorem cw_X4_222 : CWv RX4 222 yX1_stateAfter cX1_stateAfter 7 (some .int) 2 := ⟨wm 434 (by decide +kernel) rfl, wm 435 (by decide +kernel) rfl, wm 436 (by decide +kernel) rfl, wm 10 (by decide +kernel) rfl, wm 437 rfl rfl, by decide +kernel, by decide +kernel, by decide +kernel⟩
set_option maxRecDepth 20000 in
theorem cw_X4_226 : CWv RX4 226 yX1_signedAfter cX1_signedAfter 4 (some .int) 1 := ⟨wm 444 (by decide +kernel) rfl, wm 445 (by decide +kernel) rfl, wm 446 (by decide +kernel) rfl, wm 10 (by decide +kernel) rfl, wm 447 rfl rfl, by decide +kernel, by decide +kernel, by decide +kernel⟩
set_option maxRecDepth 20000 in
theorem cw_X4_229 : CWv RX4 229 yX0_nextBehind cX0_nextBehind 4 (some .int) 1 := ⟨wm 448 (by decide +kernel) rfl, wm 208 (by decide +kernel) rfl, wm 209 (by decide +kernel) rfl, wm 9 (by decide +kernel) rfl, wm 210 rfl rfl, by decide +kernel, by decide +kernel, by decide +kernel⟩
theorem fl_X4_247 : FL RX4 247 0 12 := ⟨RX0, TX0, 13, rfl, inW0, by decide, wm 599 (by decide +kernel) rfl⟩
theorem fl_X4_157 : FL RX4 157 3 3 := ⟨RX3, TX3, 5, rfl, inW3, by decide, wm 48 (by decide +kernel) rfl⟩
theorem fp_X4_98 : FP RX4 98 4 4 false .int := ⟨RX4, TX4, 5, tyX4, rfl, inW4, by decide, wm 65 (by decide +kernel) rfl, tyX4_ok, nmX4, rfl, (by decide +kernel)⟩
set_option maxRecDepth 20000 in
theorem cw_X4_250 : CWv RX4 250 yX0_meetDay cX0_meetDay 2 (some .int) 1 := ⟨wm 705 (by decide +kernel) rfl, wm 706 (by decide +kernel) rfl, wm 707 (by decide +kernel) rfl, wm 9 (by decide +kernel) rfl, wm 708 rfl rfl, by decide +kernel, by decide +kernel, by decide +kernel⟩
theorem kc_J6_265 : Cond.constant RJ6 265 (1431655765) ∈ WS := wm 222 (by decide +kernel) rfl
theorem kc_J6_266 : Cond.constant RJ6 266 (858993459) ∈ WS := wm 223 (by decide +kernel) rfl
theorem kc_J6_267 : Cond.constant RJ6 267 (252645135) ∈ WS := wm 224 (by decide +kernel) rfl
set_option maxRecDepth 20000 in
theorem hw_has : Cond.static yX4_has ∈ WS ∧ Cond.initialized RX4 ∈ WS ∧ Cond.code yX4_has cX4_has 2 (some .boolean) ∈ WS := ⟨wm 212 (by decide +kernel) rfl, wm 1 (by decide +kernel) rfl, wm 213 rfl rfl⟩
