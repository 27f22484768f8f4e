section
set_option maxRecDepth 20000 in
theorem cw_L_7 : CWv RL 7 yX4_draft cX4_draft 1 (some .int) 0 := ⟨wm 90 (by decide +kernel) rfl, wm 91 (by decide +kernel) rfl, wm 92 (by decide +kernel) rfl, wm 1 (by decide +kernel) rfl, wm 93 rfl rfl, by decide +kernel, by decide +kernel, by decide +kernel⟩
set_option maxRecDepth 20000 in
theorem cw_L_15 : CWv RL 15 yX4_addSlot cX4_addSlot 5 (some .int) 3 := ⟨wm 252 (by decide +kernel) rfl, wm 253 (by decide +kernel) rfl, wm 254 (by decide +kernel) rfl, wm 1 (by decide +kernel) rfl, wm 255 rfl rfl, by decide +kernel, by decide +kernel, by decide +kernel⟩
set_option maxRecDepth 20000 in
theorem cw_L_23 : CWv RL 23 yX4_addRound cX4_addRound 6 (some .int) 2 := ⟨wm 326 (by decide +kernel) rfl, wm 327 (by decide +kernel) rfl, wm 328 (by decide +kernel) rfl, wm 1 (by decide +kernel) rfl, wm 329 rfl rfl, by decide +kernel, by decide +kernel, by decide +kernel⟩
set_option maxRecDepth 20000 in
theorem cw_L_27 : CWv RL 27 yX4_setTimes cX4_setTimes 5 none 3 := ⟨wm 342 (by decide +kernel) rfl, wm 343 (by decide +kernel) rfl, wm 344 (by decide +kernel) rfl, wm 1 (by decide +kernel) rfl, wm 345 rfl rfl, by decide +kernel, by decide +kernel, by decide +kernel⟩
set_option maxRecDepth 20000 in
theorem cw_L_31 : CWv RL 31 yX4_send cX4_send 3 (some .int) 1 := ⟨wm 351 (by decide +kernel) rfl, wm 352 (by decide +kernel) rfl, wm 353 (by decide +kernel) rfl, wm 1 (by decide +kernel) rfl, wm 354 rfl rfl, by decide +kernel, by decide +kernel, by decide +kernel⟩
set_option maxRecDepth 20000 in
theorem cw_L_35 : CWv RL 35 yX4_sign cX4_sign 6 (some .int) 3 := ⟨wm 377 (by decide +kernel) rfl, wm 378 (by decide +kernel) rfl, wm 379 (by decide +kernel) rfl, wm 1 (by decide +kernel) rfl, wm 380 rfl rfl, by decide +kernel, by decide +kernel, by decide +kernel⟩
set_option maxRecDepth 20000 in
theorem cw_L_38 : CWv RL 38 yX4_whyNot cX4_whyNot 5 (some .int) 3 := ⟨wm 407 (by decide +kernel) rfl, wm 408 (by decide +kernel) rfl, wm 409 (by decide +kernel) rfl, wm 1 (by decide +kernel) rfl, wm 410 rfl rfl, by decide +kernel, by decide +kernel, by decide +kernel⟩
set_option maxRecDepth 20000 in
theorem cw_L_41 : CWv RL 41 yX4_decline cX4_decline 5 (some .int) 3 := ⟨wm 414 (by decide +kernel) rfl, wm 415 (by decide +kernel) rfl, wm 416 (by decide +kernel) rfl, wm 1 (by decide +kernel) rfl, wm 417 rfl rfl, by decide +kernel, by decide +kernel, by decide +kernel⟩
set_option maxRecDepth 20000 in
theorem cw_L_44 : CWv RL 44 yX4_cancel cX4_cancel 3 (some .int) 1 := ⟨wm 426 (by decide +kernel) rfl, wm 427 (by decide +kernel) rfl, wm 428 (by decide +kernel) rfl, wm 1 (by decide +kernel) rfl, wm 429 rfl rfl, by decide +kernel, by decide +kernel, by decide +kernel⟩
set_option maxRecDepth 20000 in
theorem cw_L_47 : CWv RL 47 yX4_delegate cX4_delegate 8 (some .int) 5 := ⟨wm 434 (by decide +kernel) rfl, wm 435 (by decide +kernel) rfl, wm 436 (by decide +kernel) rfl, wm 1 (by decide +kernel) rfl, wm 437 rfl rfl, by decide +kernel, by decide +kernel, by decide +kernel⟩
set_option maxRecDepth 20000 in
theorem cw_L_51 : CWv RL 51 yX4_revoke cX4_revoke 4 (some .int) 1 := ⟨wm 444 (by decide +kernel) rfl, wm 445 (by decide +kernel) rfl, wm 446 (by decide +kernel) rfl, wm 1 (by decide +kernel) rfl, wm 447 rfl rfl, by decide +kernel, by decide +kernel, by decide +kernel⟩
set_option maxRecDepth 20000 in
theorem cw_L_54 : CWv RL 54 yX4_delegateToday cX4_delegateToday 2 (some .int) 1 := ⟨wm 452 (by decide +kernel) rfl, wm 453 (by decide +kernel) rfl, wm 454 (by decide +kernel) rfl, wm 1 (by decide +kernel) rfl, wm 455 rfl rfl, by decide +kernel, by decide +kernel, by decide +kernel⟩
set_option maxRecDepth 20000 in
theorem cw_L_57 : CWv RL 57 yX4_signedFor cX4_signedFor 2 (some .int) 1 := ⟨wm 459 (by decide +kernel) rfl, wm 460 (by decide +kernel) rfl, wm 461 (by decide +kernel) rfl, wm 1 (by decide +kernel) rfl, wm 462 rfl rfl, by decide +kernel, by decide +kernel, by decide +kernel⟩
set_option maxRecDepth 20000 in
theorem cw_L_60 : CWv RL 60 yX4_toSign cX4_toSign 7 (some .int) 1 := ⟨wm 466 (by decide +kernel) rfl, wm 467 (by decide +kernel) rfl, wm 468 (by decide +kernel) rfl, wm 1 (by decide +kernel) rfl, wm 469 rfl rfl, by decide +kernel, by decide +kernel, by decide +kernel⟩
set_option maxRecDepth 20000 in
theorem cw_L_63 : CWv RL 63 yX4_pass cX4_pass 4 (some .int) 1 := ⟨wm 473 (by decide +kernel) rfl, wm 474 (by decide +kernel) rfl, wm 475 (by decide +kernel) rfl, wm 1 (by decide +kernel) rfl, wm 476 rfl rfl, by decide +kernel, by decide +kernel, by decide +kernel⟩
set_option maxRecDepth 20000 in
theorem cw_L_66 : CWv RL 66 yX4_nextReminder cX4_nextReminder 2 (some .int) 1 := ⟨wm 502 (by decide +kernel) rfl, wm 503 (by decide +kernel) rfl, wm 504 (by decide +kernel) rfl, wm 1 (by decide +kernel) rfl, wm 505 rfl rfl, by decide +kernel, by decide +kernel, by decide +kernel⟩
set_option maxRecDepth 20000 in
theorem cw_L_69 : CWv RL 69 yX4_state cX4_state 2 (some .int) 1 := ⟨wm 516 (by decide +kernel) rfl, wm 517 (by decide +kernel) rfl, wm 518 (by decide +kernel) rfl, wm 1 (by decide +kernel) rfl, wm 519 rfl rfl, by decide +kernel, by decide +kernel, by decide +kernel⟩
set_option maxRecDepth 20000 in
theorem cw_L_72 : CWv RL 72 yX4_slots cX4_slots 2 (some .int) 1 := ⟨wm 523 (by decide +kernel) rfl, wm 524 (by decide +kernel) rfl, wm 525 (by decide +kernel) rfl, wm 1 (by decide +kernel) rfl, wm 526 rfl rfl, by decide +kernel, by decide +kernel, by decide +kernel⟩
set_option maxRecDepth 20000 in
theorem cw_L_75 : CWv RL 75 yX4_slotState cX4_slotState 4 (some .int) 2 := ⟨wm 530 (by decide +kernel) rfl, wm 531 (by decide +kernel) rfl, wm 532 (by decide +kernel) rfl, wm 1 (by decide +kernel) rfl, wm 533 rfl rfl, by decide +kernel, by decide +kernel, by decide +kernel⟩
set_option maxRecDepth 20000 in
theorem cw_L_78 : CWv RL 78 yX4_missing cX4_missing 4 (some .int) 2 := ⟨wm 541 (by decide +kernel) rfl, wm 542 (by decide +kernel) rfl, wm 543 (by decide +kernel) rfl, wm 1 (by decide +kernel) rfl, wm 544 rfl rfl, by decide +kernel, by decide +kernel, by decide +kernel⟩
set_option maxRecDepth 20000 in
theorem cw_L_81 : CWv RL 81 yX4_share cX4_share 3 (some .float) 1 := ⟨wm 548 (by decide +kernel) rfl, wm 549 (by decide +kernel) rfl, wm 550 (by decide +kernel) rfl, wm 1 (by decide +kernel) rfl, wm 551 rfl rfl, by decide +kernel, by decide +kernel, by decide +kernel⟩
set_option maxRecDepth 20000 in
theorem cw_L_85 : CWv RL 85 yX4_ahead cX4_ahead 4 (some .int) 2 := ⟨wm 555 (by decide +kernel) rfl, wm 556 (by decide +kernel) rfl, wm 557 (by decide +kernel) rfl, wm 1 (by decide +kernel) rfl, wm 558 rfl rfl, by decide +kernel, by decide +kernel, by decide +kernel⟩
set_option maxRecDepth 20000 in
theorem cw_L_88 : CWv RL 88 yX4_roundOf cX4_roundOf 4 (some .int) 2 := ⟨wm 566 (by decide +kernel) rfl, wm 567 (by decide +kernel) rfl, wm 568 (by decide +kernel) rfl, wm 1 (by decide +kernel) rfl, wm 569 rfl rfl, by decide +kernel, by decide +kernel, by decide +kernel⟩
set_option maxRecDepth 20000 in
theorem cw_L_91 : CWv RL 91 yX4_orders cX4_orders 2 (some .int) 1 := ⟨wm 573 (by decide +kernel) rfl, wm 574 (by decide +kernel) rfl, wm 575 (by decide +kernel) rfl, wm 1 (by decide +kernel) rfl, wm 576 rfl rfl, by decide +kernel, by decide +kernel, by decide +kernel⟩
set_option maxRecDepth 20000 in
theorem cw_L_94 : CWv RL 94 yX4_ordersByAll cX4_ordersByAll 2 (some .int) 1 := ⟨wm 584 (by decide +kernel) rfl, wm 585 (by decide +kernel) rfl, wm 586 (by decide +kernel) rfl, wm 1 (by decide +kernel) rfl, wm 587 rfl rfl, by decide +kernel, by decide +kernel, by decide +kernel⟩
set_option maxRecDepth 20000 in
theorem cw_L_97 : CWv RL 97 yX4_ordersLeft cX4_ordersLeft 3 (some .int) 1 := ⟨wm 595 (by decide +kernel) rfl, wm 596 (by decide +kernel) rfl, wm 597 (by decide +kernel) rfl, wm 1 (by decide +kernel) rfl, wm 598 rfl rfl, by decide +kernel, by decide +kernel, by decide +kernel⟩
set_option maxRecDepth 20000 in
theorem cw_L_100 : CWv RL 100 yX4_events cX4_events 2 (some .int) 1 := ⟨wm 602 (by decide +kernel) rfl, wm 603 (by decide +kernel) rfl, wm 604 (by decide +kernel) rfl, wm 1 (by decide +kernel) rfl, wm 605 rfl rfl, by decide +kernel, by decide +kernel, by decide +kernel⟩
set_option maxRecDepth 20000 in
theorem cw_L_103 : CWv RL 103 yX4_kindOf cX4_kindOf 4 (some .int) 2 := ⟨wm 609 (by decide +kernel) rfl, wm 610 (by decide +kernel) rfl, wm 611 (by decide +kernel) rfl, wm 1 (by decide +kernel) rfl, wm 612 rfl rfl, by decide +kernel, by decide +kernel, by decide +kernel⟩
set_option maxRecDepth 20000 in
theorem cw_L_106 : CWv RL 106 yX4_personOf cX4_personOf 4 (some .int) 2 := ⟨wm 620 (by decide +kernel) rfl, wm 621 (by decide +kernel) rfl, wm 622 (by decide +kernel) rfl, wm 1 (by decide +kernel) rfl, wm 623 rfl rfl, by decide +kernel, by decide +kernel, by decide +kernel⟩
set_option maxRecDepth 20000 in
theorem cw_L_109 : CWv RL 109 yX4_dayOf cX4_dayOf 4 (some .int) 2 := ⟨wm 627 (by decide +kernel) rfl, wm 628 (by decide +kernel) rfl, wm 629 (by decide +kernel) rfl, wm 1 (by decide +kernel) rfl, wm 630 rfl rfl, by decide +kernel, by decide +kernel, by decide +kernel⟩
set_option maxRecDepth 20000 in
theorem cw_L_112 : CWv RL 112 yX4_seal cX4_seal 4 (some .int) 2 := ⟨wm 634 (by decide +kernel) rfl, wm 635 (by decide +kernel) rfl, wm 636 (by decide +kernel) rfl, wm 1 (by decide +kernel) rfl, wm 637 rfl rfl, by decide +kernel, by decide +kernel, by decide +kernel⟩
set_option maxRecDepth 20000 in
theorem cw_L_115 : CWv RL 115 yX4_stateBehind cX4_stateBehind 4 (some .int) 2 := ⟨wm 651 (by decide +kernel) rfl, wm 652 (by decide +kernel) rfl, wm 653 (by decide +kernel) rfl, wm 1 (by decide +kernel) rfl, wm 654 rfl rfl, by decide +kernel, by decide +kernel, by decide +kernel⟩
set_option maxRecDepth 20000 in
theorem cw_L_118 : CWv RL 118 yX4_openBehind cX4_openBehind 4 (some .int) 2 := ⟨wm 668 (by decide +kernel) rfl, wm 669 (by decide +kernel) rfl, wm 670 (by decide +kernel) rfl, wm 1 (by decide +kernel) rfl, wm 671 rfl rfl, by decide +kernel, by decide +kernel, by decide +kernel⟩
theorem xL_c1 (n : Nat) (q0 : Nat → Nat) (q : Nat → Nat → Nat) (cA : Nat → ClassId) (σ0 : Nat → Nat → Int32) (σ : Nat → Nat → Nat → Int32) (o : Nat) (f : Nat → Int64) : (xL n q0 q cA σ0 σ o f)[1]? = some (q0 0, .inr (4, [.ref (q0 1), .ref (q0 2), .ref (q0 3), .int (nI n), .int (σ0 1 0)])) := rfl
theorem xD_c1 (n : Nat) (q0 : Nat → Nat) (q : Nat → Nat → Nat) (cA : Nat → ClassId) (σ0 : Nat → Nat → Int32) (σ : Nat → Nat → Nat → Int32) (o : Nat) (f : Nat → UInt64) : (xD n q0 q cA σ0 σ o f)[1]? = some (q0 0, .inr (4, [.ref (q0 1), .ref (q0 2), .ref (q0 3), .int (nI n), .int (σ0 1 0)])) := rfl
abbrev rmW_draft : Room := { frames := 7, cells := 20, slots := 263, locals := 104 }
def PostWD (n : Nat) (q0 : Nat → Nat) (q : Nat → Nat → Nat) (D : va_G) (cA : Nat → ClassId) (σ0 : Nat → Nat → Int32) (σ : Nat → Nat → Nat → Int32) (o : Nat) (f : Nat → Int64) (ws : va_W) (sz : Nat) : Array Value → State → Outcome → State → Prop := fun _ st oc t =>
  oc = .returned (some (.int 0)) ∧ ∃ qe : Nat → Nat, va_P D vwCl (xL (n + 1) q0 (va_up q n qe) cA σ0 (va_up σ n (fun _ _ => 0)) o (vp_updL f 0 (nI n).toInt64)) t.heap ∧ va_D (va_A ws sz) (xL (n + 1) q0 (va_up q n qe) cA σ0 (va_up σ n (fun _ _ => 0)) o (vp_updL f 0 (nI n).toInt64)) ∧ va_F (va_A ws sz) st t
set_option maxHeartbeats 400000 in
set_option maxRecDepth 100000 in
theorem w_draft {n : Nat} (hn : n < 6) {q0 : Nat → Nat} {q : Nat → Nat → Nat} {cA : Nat → ClassId} {D : va_G} (σ0 : Nat → Nat → Int32) (σ : Nat → Nat → Nat → Int32) (o : Nat) (f : Nat → Int64) : ∀ (l : Launch) (sz : Nat), l.stackTraces = false → vx_Met l yL_draft (.codeWith yL_draft cL_draft 3 (some .int) [(0, 8, 11, 13)] :: WS) rmW_draft (PreW D cA sz (xL n q0 q cA σ0 σ o f) [.ref (q0 0), .ref o]) (PostWD n q0 q D cA σ0 σ o f (xL n q0 q cA σ0 σ o f) sz) XN 20 263 (va_A (xL n q0 q cA σ0 σ o f) sz) := by
  refine vxW_of (Qc := fun sz => PostWD n q0 q D cA σ0 σ o f (xL n q0 q cA σ0 σ o f) sz) (by decide) (Nat.le_of_ble_eq_true rfl) ?_
  intro p l e s m below meth c ls hl0 C hr htab hX hN hR0 h hl
  have C : Cx p s m _ meth c cL_draft 3 RL D cA := C
  obtain ⟨hx, hb, hml, hown, hts, hK, hlk⟩ := id C
  replace hl : lv_has ls 3 [(0, .ref (q0 0)), (1, .ref o)] := hl
  refine lv_aload_n (pc := 0) hx hb dL_draft_0 rfl (lv_at hl 1 rfl) ?_
  refine lv_iconst (pc := 1) (v := 0) hx hb dL_draft_1 (by decide) ?_
  refine lv_aload_n (pc := 2) hx hb dL_draft_2 rfl (lv_at hl 0 rfl) ?_
  have hr9 := va_runV (rest := [.int 0, .ref o]) (g := F0 m 3 ls [.ref (q0 0), .int 0, .ref o]) (As := []) (cells := 0) (slots := 0) (R := rmW_draft) (l := l) (below := below) (meth := meth) (e := e) (H := s.heap) (locs := []) ⟨hx, hb, hml, hown, hts⟩ (k_X4_draft hn (q0 := q0) (q := q) (D := D) (cA := cA) σ0 σ l s.heap.size) (CWv.use cw_L_7 hts rfl rfl ⟨(Nat.le_of_ble_eq_true rfl), (Nat.le_of_ble_eq_true rfl)⟩) ⟨PreC.blind, recv_ok C h.1 1 (xL_c1 ..) rfl, pre_ok C (sub_P h.1 (isC := (List.range' 1 (sW n q0 q cA σ0 σ).length)) (tail_map _ _)) (sub_D hR0.2.1 (isC := (List.range' 1 (sW n q0 q cA σ0 σ).length)) (tail_map _ _) (nd_of _ List.nodup_range'))⟩ rfl rfl hl.1 rfl (lv_room (Nat.le_of_ble_eq_true rfl)) dL_draft_3 ⟨(Nat.le_of_ble_eq_true rfl), (Nat.le_of_ble_eq_true rfl)⟩
  intro T hT X
  obtain ⟨hP, hD, hS, hA⟩ := h
  obtain ⟨v', st₀, t, T', L, h0, X', hL, e1, e2, ⟨hv, qe, hp, hd, hz, hk⟩, st⟩ := hr9 T hT X
  cases Outcome.returned.inj hv
  rw [h0] at hz hk
  have hlt : o < s.heap.size := (hP 0 _ rfl).lt
  have hno : ¬ va_A (sW n q0 q cA σ0 σ) s.heap.size o := by
    intro hq
    rcases hq with ⟨j, e9, hj⟩ | hq
    · have := hD.1 0 (j + 1) (o, .inl (cA 3, 1, .inr (.inl f))) (o, e9) rfl (by show (sW n q0 q cA σ0 σ)[j]? = _; exact hj) rfl
      omega
    · exact absurd hlt (Nat.not_lt.mpr hq)
  have hfree : ∀ q9 : Nat, va_A (sW n q0 q cA σ0 σ) s.heap.size q9 → va_A (xL n q0 q cA σ0 σ o f) s.heap.size q9 := by
    intro q9 hq
    rcases hq with ⟨j, e9, hj⟩ | hq
    · exact Or.inl ⟨j + 1, e9, by show (sW n q0 q cA σ0 σ)[j]? = _; exact hj⟩
    · exact Or.inr hq
  have hP1 : va_P D vwCl (xL (n + 1) q0 (va_up q n qe) cA σ0 (va_up σ n (fun _ _ => 0)) o f) T'.heap := by
    refine P_iff.mpr fun x hx9 => ?_
    rcases List.mem_cons.mp hx9 with rfl | hx9
    · exact (hP 0 _ rfl).kept (by rw [e1]; exact hk o hlt hno)
    · rw [e1]; exact P_iff.mp hp x hx9
  have hD1 : va_D (va_A (xL n q0 q cA σ0 σ o f) s.heap.size) (xL (n + 1) q0 (va_up q n qe) cA σ0 (va_up σ n (fun _ _ => 0)) o f) := by
    obtain ⟨g1, g2⟩ := D_iff.mp hd
    refine D_iff.mpr ⟨?_, fun x hx9 => ?_⟩
    · show (o :: (sW (n + 1) q0 (va_up q n qe) cA σ0 (va_up σ n (fun _ _ => 0))).map (fun q => q.1)).Nodup
      refine List.nodup_cons.mpr ⟨fun hm => ?_, g1⟩
      obtain ⟨x, hx9, hxo⟩ := List.mem_map.mp hm
      exact hno (hxo ▸ g2 x hx9)
    · rcases List.mem_cons.mp hx9 with rfl | hx9
      · exact Or.inl ⟨0, _, rfl⟩
      · exact hfree _ (g2 x hx9)
  have h : St D (va_A (xL n q0 q cA σ0 σ o f) s.heap.size) s.heap (xL (n + 1) q0 (va_up q n qe) cA σ0 (va_up σ n (fun _ _ => 0)) o f) T'.heap ([] ++ L) := ⟨hP1, hD1, ⟨by rw [e1]; exact hz, fun q9 h1 h2 => by rw [e1]; exact hk q9 h1 (fun z => h2 (hfree q9 z)), fun q9 hq => by
      rcases List.mem_append.mp hq with h | h
      · exact hS.2.2 q9 h
      · exact hfree _ (hL q9 h)⟩, hA⟩
  have K : W p l e rmW_draft s m #[.ref (q0 0), .ref o] below meth c T'.heap ([] ++ L) 20 263 (vx_MQ below (PostWD n q0 q D cA σ0 σ o f (xL n q0 q cA σ0 σ o f) s.heap.size) XN #[.ref (q0 0), .ref o] s 20 263 (va_A (xL n q0 q cA σ0 σ o f) s.heap.size)) (F0 m 6 ls [.int (nI n), .int 0, .ref o]) := by
    clear X X' hT st
    refine lv_i2l (pc := 6) (v := (nI n).toInt64) hx hb dL_draft_6 rfl ?_
    refine g_last (pc := 7) (n := 1) (f := f) (ws' := (xL (n + 1) q0 (va_up q n qe) cA σ0 (va_up σ n (fun _ _ => 0)) o (vp_updL f 0 (nI n).toInt64))) C h 0 rfl (show inb (0 : Int32) 1 from by decide) rfl dL_draft_7 (fun H locs h => ?_)
    refine lv_goto (pc := 8) (tgt := 14) hx hb dL_draft_8 (by decide) ?_
    refine lv_iconst (pc := 14) (v := 0) hx hb dL_draft_14 (by decide) ?_
    exact vx_ret (W.iret (pc := 15) hx hb hr (fun t ht hW => ⟨rfl, qe, by rw [ht]; exact h.1, h.2.1, h.2.2.1.F ht⟩) h.2.2.1.2.2 dL_draft_15 (hlocks := hlk))
  obtain ⟨t2, a1, b1⟩ := K T' rfl X'
  exact ⟨t2, st t2 a1, b1⟩
set_option maxHeartbeats 400000 in
set_option maxRecDepth 100000 in
theorem wT_draft_0 {n : Nat} (hn : n = 6) {q0 : Nat → Nat} {q : Nat → Nat → Nat} {cA : Nat → ClassId} {D : va_G} (σ0 : Nat → Nat → Int32) (σ : Nat → Nat → Nat → Int32) (o : Nat) (f : Nat → Int64) : ∀ (l : Launch) (sz : Nat), l.stackTraces = false → vx_Met l yL_draft (.codeWith yL_draft cL_draft 3 (some .int) [(0, 8, 11, 13)] :: WS) rmW_draft (PreW D cA sz (xL n q0 q cA σ0 σ o f) [.ref (q0 0), .ref o]) (PostU D (xL n q0 q cA σ0 σ o f) (xL n q0 q cA σ0 σ o f) sz (some (.int 1))) XN 20 263 (va_A (xL n q0 q cA σ0 σ o f) sz) := by
  refine vxW_of (Qc := fun sz => PostU D (xL n q0 q cA σ0 σ o f) (xL n q0 q cA σ0 σ o f) sz (some (.int 1))) (by decide) (Nat.le_of_ble_eq_true rfl) ?_
  intro p l e s m below meth c ls hl0 C hr htab hX hN hR0 h hl
  have C : Cx p s m _ meth c cL_draft 3 RL D cA := C
  obtain ⟨hx, hb, hml, hown, hts, hK, hlk⟩ := id C
  replace hl : lv_has ls 3 [(0, .ref (q0 0)), (1, .ref o)] := hl
  refine lv_aload_n (pc := 0) hx hb dL_draft_0 rfl (lv_at hl 1 rfl) ?_
  refine lv_iconst (pc := 1) (v := 0) hx hb dL_draft_1 (by decide) ?_
  refine lv_aload_n (pc := 2) hx hb dL_draft_2 rfl (lv_at hl 0 rfl) ?_
  refine call_C (pc := 3) (hpc := 11) (As := []) (rest := [.int 0, .ref o]) (E := ISE) C hl0 hX hR0 h (kT_X4_draft hn σ0 σ) cw_L_7 1 (xL_c1 ..) rfl (List.range' 1 (sW n q0 q cA σ0 σ).length) (tail_map _ _) (nd_of _ List.nodup_range') rfl rfl hl.1 (Nat.le_of_ble_eq_true rfl) dL_draft_3 ⟨(Nat.le_of_ble_eq_true rfl), (Nat.le_of_ble_eq_true rfl)⟩ rfl rfl ⟨(Nat.le_of_ble_eq_true rfl), (Nat.le_of_ble_eq_true rfl)⟩ (fun H1 locs1 q9 ce h1 h2 h3 k => vx_catch (name := ISE) hown [] ⟨0, 8, 11, 13⟩ [] (htab.trans rfl) (fun z hz => by cases hz) (by decide) (by decide) (hts _ cl_13) (cast_ok hX.2.1 cs1.2.2) h1 h2 h3 k) (fun q9 H locs h => ?_)
  refine lv_astore_n (pc := 11) (lv' := [(2, .ref q9), (0, .ref (q0 0)), (1, .ref o)]) hx hb dL_draft_11 rfl hl (by decide) rfl (fun ls hl => ?_)
  refine lv_iconst (pc := 12) (v := 1) hx hb dL_draft_12 (by decide) ?_
  exact W.widen (by decide) (by decide) (vx_ret (ret_iU (pc := 13) C hr h dL_draft_13))
abbrev rmW_addSlot : Room := { frames := 8, cells := 1, slots := 6, locals := 128 }
set_option maxHeartbeats 400000 in
set_option maxRecDepth 100000 in
theorem w_addSlot {n : Nat} (hn : n ≤ 6) {q0 : Nat → Nat} {q : Nat → Nat → Nat} {cA : Nat → ClassId} {D : va_G} (σ0 : Nat → Nat → Int32) (σ : Nat → Nat → Nat → Int32) (x1 x2 x3 : Int32) {z : Int32 × (Nat → Nat → Int32) × (Nat → Nat → Nat → Int32)} (hf : f_X4_addSlot n σ0 σ x1 x2 x3 = some (.inr z)) (o : Nat) (f : Nat → Int64) : CtW yL_addSlot cL_addSlot 6 [(0, 12, 15, 19), (0, 12, 19, 21), (0, 12, 23, 13)] rmW_addSlot [.ref (q0 0), .int x1, .int x2, .int x3, .ref o] D cA (xL n q0 q cA σ0 σ o f) (xL n q0 q cA z.2.1 z.2.2 o (vp_updL f 0 z.1.toInt64)) 0 := by
  refine vxW_of (Qc := fun sz => PostU D (xL n q0 q cA σ0 σ o f) (xL n q0 q cA z.2.1 z.2.2 o (vp_updL f 0 z.1.toInt64)) sz (some (.int 0))) (by decide) (Nat.le_of_ble_eq_true rfl) ?_
  intro p l e s m below meth c ls hl0 C hr htab hX hN hR0 h hl
  have C : Cx p s m _ meth c cL_addSlot 6 RL D cA := C
  obtain ⟨hx, hb, hml, hown, hts, hK, hlk⟩ := id C
  replace hl : lv_has ls 6 [(0, .ref (q0 0)), (1, .int x1), (2, .int x2), (3, .int x3), (4, .ref o)] := hl
  refine lv_aload (pc := 0) hx hb dL_addSlot_0 (lv_at hl 4 rfl) ?_
  refine lv_iconst (pc := 2) (v := 0) hx hb dL_addSlot_2 (by decide) ?_
  refine lv_aload_n (pc := 3) hx hb dL_addSlot_3 rfl (lv_at hl 0 rfl) ?_
  refine lv_iload_n (pc := 4) hx hb dL_addSlot_4 rfl (lv_at hl 1 rfl) ?_
  refine lv_iload_n (pc := 5) hx hb dL_addSlot_5 rfl (lv_at hl 2 rfl) ?_
  refine lv_iload_n (pc := 6) hx hb dL_addSlot_6 rfl (lv_at hl 3 rfl) ?_
  refine call_VU (pc := 7) (As := [.int x1, .int x2, .int x3]) (rest := [.int 0, .ref o]) (ws' := (xL n q0 q cA z.2.1 z.2.2 o f)) C h (k_X4_addSlot hn σ0 σ x1 x2 x3 hf) cw_L_15 1 (xL_c1 ..) rfl (List.range' 1 (sW n q0 q cA σ0 σ).length) (tail_map _ _) (nd_of _ List.nodup_range') (sW_fst ..) (tail_put _ (sW_len ..)) rfl rfl hl.1 (Nat.le_of_ble_eq_true rfl) dL_addSlot_7 ⟨(Nat.le_of_ble_eq_true rfl), (Nat.le_of_ble_eq_true rfl)⟩ rfl rfl ⟨(Nat.le_of_ble_eq_true rfl), (Nat.le_of_ble_eq_true rfl)⟩ (fun H locs h => ?_)
  refine W.eq (g2 := F0 m 10 ls [.int z.1, .int 0, .ref o]) rfl ?_
  refine lv_i2l (pc := 10) (v := z.1.toInt64) hx hb dL_addSlot_10 rfl ?_
  refine g_last (pc := 11) (n := 1) (f := f) (ws' := (xL n q0 q cA z.2.1 z.2.2 o (vp_updL f 0 z.1.toInt64))) C h 0 rfl (show inb (0 : Int32) 1 from by decide) rfl dL_addSlot_11 (fun H locs h => ?_)
  refine lv_goto (pc := 12) (tgt := 27) hx hb dL_addSlot_12 (by decide) ?_
  refine lv_iconst (pc := 27) (v := 0) hx hb dL_addSlot_27 (by decide) ?_
  exact end_W (pc := 28) C hr (by decide) (by decide) h dL_addSlot_28
set_option maxHeartbeats 400000 in
set_option maxRecDepth 100000 in
theorem wT_addSlot_0 {n : Nat} (hn : n ≤ 6) {q0 : Nat → Nat} {q : Nat → Nat → Nat} {cA : Nat → ClassId} {D : va_G} (σ0 : Nat → Nat → Int32) (σ : Nat → Nat → Nat → Int32) (x1 x2 x3 : Int32) (hf : f_X4_addSlot n σ0 σ x1 x2 x3 = some (.inl IOB)) (o : Nat) (f : Nat → Int64) : CtW yL_addSlot cL_addSlot 6 [(0, 12, 15, 19), (0, 12, 19, 21), (0, 12, 23, 13)] rmW_addSlot [.ref (q0 0), .int x1, .int x2, .int x3, .ref o] D cA (xL n q0 q cA σ0 σ o f) (xL n q0 q cA σ0 σ o f) 1 := by
  refine vxW_of (Qc := fun sz => PostU D (xL n q0 q cA σ0 σ o f) (xL n q0 q cA σ0 σ o f) sz (some (.int 1))) (by decide) (Nat.le_of_ble_eq_true rfl) ?_
  intro p l e s m below meth c ls hl0 C hr htab hX hN hR0 h hl
  have C : Cx p s m _ meth c cL_addSlot 6 RL D cA := C
  obtain ⟨hx, hb, hml, hown, hts, hK, hlk⟩ := id C
  replace hl : lv_has ls 6 [(0, .ref (q0 0)), (1, .int x1), (2, .int x2), (3, .int x3), (4, .ref o)] := hl
  refine lv_aload (pc := 0) hx hb dL_addSlot_0 (lv_at hl 4 rfl) ?_
  refine lv_iconst (pc := 2) (v := 0) hx hb dL_addSlot_2 (by decide) ?_
  refine lv_aload_n (pc := 3) hx hb dL_addSlot_3 rfl (lv_at hl 0 rfl) ?_
  refine lv_iload_n (pc := 4) hx hb dL_addSlot_4 rfl (lv_at hl 1 rfl) ?_
  refine lv_iload_n (pc := 5) hx hb dL_addSlot_5 rfl (lv_at hl 2 rfl) ?_
  refine lv_iload_n (pc := 6) hx hb dL_addSlot_6 rfl (lv_at hl 3 rfl) ?_
  refine call_C (pc := 7) (hpc := 15) (As := [.int x1, .int x2, .int x3]) (rest := [.int 0, .ref o]) (E := IOB) C hl0 hX hR0 h (kT_X4_addSlot hn σ0 σ x1 x2 x3 hf) cw_L_15 1 (xL_c1 ..) rfl (List.range' 1 (sW n q0 q cA σ0 σ).length) (tail_map _ _) (nd_of _ List.nodup_range') rfl rfl hl.1 (Nat.le_of_ble_eq_true rfl) dL_addSlot_7 ⟨(Nat.le_of_ble_eq_true rfl), (Nat.le_of_ble_eq_true rfl)⟩ rfl rfl ⟨(Nat.le_of_ble_eq_true rfl), (Nat.le_of_ble_eq_true rfl)⟩ (fun H1 locs1 q9 ce h1 h2 h3 k => vx_catch (name := IOB) hown [] ⟨0, 12, 15, 19⟩ [⟨0, 12, 19, 21⟩, ⟨0, 12, 23, 13⟩] (htab.trans rfl) (fun z hz => by cases hz) (by decide) (by decide) (hts _ cl_19) (cast_ok hX.2.1 cs1.1) h1 h2 h3 k) (fun q9 H locs h => ?_)
  refine lv_astore (pc := 15) (lv' := [(5, .ref q9), (0, .ref (q0 0)), (1, .int x1), (2, .int x2), (3, .int x3), (4, .ref o)]) hx hb dL_addSlot_15 hl (by decide) rfl (fun ls hl => ?_)
  refine lv_iconst (pc := 17) (v := 1) hx hb dL_addSlot_17 (by decide) ?_
  exact end_W (pc := 18) C hr (by decide) (by decide) h dL_addSlot_18
set_option maxHeartbeats 400000 in
set_option maxRecDepth 100000 in
theorem wT_addSlot_1 {n : Nat} (hn : n ≤ 6) {q0 : Nat → Nat} {q : Nat → Nat → Nat} {cA : Nat → ClassId} {D : va_G} (σ0 : Nat → Nat → Int32) (σ : Nat → Nat → Nat → Int32) (x1 x2 x3 : Int32) (hf : f_X4_addSlot n σ0 σ x1 x2 x3 = some (.inl IAE)) (o : Nat) (f : Nat → Int64) : CtW yL_addSlot cL_addSlot 6 [(0, 12, 15, 19), (0, 12, 19, 21), (0, 12, 23, 13)] rmW_addSlot [.ref (q0 0), .int x1, .int x2, .int x3, .ref o] D cA (xL n q0 q cA σ0 σ o f) (xL n q0 q cA σ0 σ o f) 2 := by
  refine vxW_of (Qc := fun sz => PostU D (xL n q0 q cA σ0 σ o f) (xL n q0 q cA σ0 σ o f) sz (some (.int 2))) (by decide) (Nat.le_of_ble_eq_true rfl) ?_
  intro p l e s m below meth c ls hl0 C hr htab hX hN hR0 h hl
  have C : Cx p s m _ meth c cL_addSlot 6 RL D cA := C
  obtain ⟨hx, hb, hml, hown, hts, hK, hlk⟩ := id C
  replace hl : lv_has ls 6 [(0, .ref (q0 0)), (1, .int x1), (2, .int x2), (3, .int x3), (4, .ref o)] := hl
  refine lv_aload (pc := 0) hx hb dL_addSlot_0 (lv_at hl 4 rfl) ?_
  refine lv_iconst (pc := 2) (v := 0) hx hb dL_addSlot_2 (by decide) ?_
  refine lv_aload_n (pc := 3) hx hb dL_addSlot_3 rfl (lv_at hl 0 rfl) ?_
  refine lv_iload_n (pc := 4) hx hb dL_addSlot_4 rfl (lv_at hl 1 rfl) ?_
  refine lv_iload_n (pc := 5) hx hb dL_addSlot_5 rfl (lv_at hl 2 rfl) ?_
  refine lv_iload_n (pc := 6) hx hb dL_addSlot_6 rfl (lv_at hl 3 rfl) ?_
  refine call_C (pc := 7) (hpc := 19) (As := [.int x1, .int x2, .int x3]) (rest := [.int 0, .ref o]) (E := IAE) C hl0 hX hR0 h (kT_X4_addSlot hn σ0 σ x1 x2 x3 hf) cw_L_15 1 (xL_c1 ..) rfl (List.range' 1 (sW n q0 q cA σ0 σ).length) (tail_map _ _) (nd_of _ List.nodup_range') rfl rfl hl.1 (Nat.le_of_ble_eq_true rfl) dL_addSlot_7 ⟨(Nat.le_of_ble_eq_true rfl), (Nat.le_of_ble_eq_true rfl)⟩ rfl rfl ⟨(Nat.le_of_ble_eq_true rfl), (Nat.le_of_ble_eq_true rfl)⟩ (fun H1 locs1 q9 ce h1 h2 h3 k => vx_catch (name := IAE) hown [⟨0, 12, 15, 19⟩] ⟨0, 12, 19, 21⟩ [⟨0, 12, 23, 13⟩] (htab.trans rfl) (fun z hz => by
    rcases List.mem_cons.mp hz with rfl | hz
    · exact Or.inr ⟨by decide, IOB, hts _ cl_19, hN (IAE, IOB) (by decide +kernel)⟩
    cases hz) (by decide) (by decide) (hts _ cl_21) (cast_ok hX.2.1 cs1.2.1) h1 h2 h3 k) (fun q9 H locs h => ?_)
  refine lv_astore (pc := 19) (lv' := [(5, .ref q9), (0, .ref (q0 0)), (1, .int x1), (2, .int x2), (3, .int x3), (4, .ref o)]) hx hb dL_addSlot_19 hl (by decide) rfl (fun ls hl => ?_)
  refine lv_iconst (pc := 21) (v := 2) hx hb dL_addSlot_21 (by decide) ?_
  exact end_W (pc := 22) C hr (by decide) (by decide) h dL_addSlot_22
set_option maxHeartbeats 400000 in
set_option maxRecDepth 100000 in
theorem wT_addSlot_2 {n : Nat} (hn : n ≤ 6) {q0 : Nat → Nat} {q : Nat → Nat → Nat} {cA : Nat → ClassId} {D : va_G} (σ0 : Nat → Nat → Int32) (σ : Nat → Nat → Nat → Int32) (x1 x2 x3 : Int32) (hf : f_X4_addSlot n σ0 σ x1 x2 x3 = some (.inl ISE)) (o : Nat) (f : Nat → Int64) : CtW yL_addSlot cL_addSlot 6 [(0, 12, 15, 19), (0, 12, 19, 21), (0, 12, 23, 13)] rmW_addSlot [.ref (q0 0), .int x1, .int x2, .int x3, .ref o] D cA (xL n q0 q cA σ0 σ o f) (xL n q0 q cA σ0 σ o f) 3 := by
  refine vxW_of (Qc := fun sz => PostU D (xL n q0 q cA σ0 σ o f) (xL n q0 q cA σ0 σ o f) sz (some (.int 3))) (by decide) (Nat.le_of_ble_eq_true rfl) ?_
  intro p l e s m below meth c ls hl0 C hr htab hX hN hR0 h hl
  have C : Cx p s m _ meth c cL_addSlot 6 RL D cA := C
  obtain ⟨hx, hb, hml, hown, hts, hK, hlk⟩ := id C
  replace hl : lv_has ls 6 [(0, .ref (q0 0)), (1, .int x1), (2, .int x2), (3, .int x3), (4, .ref o)] := hl
  refine lv_aload (pc := 0) hx hb dL_addSlot_0 (lv_at hl 4 rfl) ?_
  refine lv_iconst (pc := 2) (v := 0) hx hb dL_addSlot_2 (by decide) ?_
  refine lv_aload_n (pc := 3) hx hb dL_addSlot_3 rfl (lv_at hl 0 rfl) ?_
  refine lv_iload_n (pc := 4) hx hb dL_addSlot_4 rfl (lv_at hl 1 rfl) ?_
  refine lv_iload_n (pc := 5) hx hb dL_addSlot_5 rfl (lv_at hl 2 rfl) ?_
  refine lv_iload_n (pc := 6) hx hb dL_addSlot_6 rfl (lv_at hl 3 rfl) ?_
  refine call_C (pc := 7) (hpc := 23) (As := [.int x1, .int x2, .int x3]) (rest := [.int 0, .ref o]) (E := ISE) C hl0 hX hR0 h (kT_X4_addSlot hn σ0 σ x1 x2 x3 hf) cw_L_15 1 (xL_c1 ..) rfl (List.range' 1 (sW n q0 q cA σ0 σ).length) (tail_map _ _) (nd_of _ List.nodup_range') rfl rfl hl.1 (Nat.le_of_ble_eq_true rfl) dL_addSlot_7 ⟨(Nat.le_of_ble_eq_true rfl), (Nat.le_of_ble_eq_true rfl)⟩ rfl rfl ⟨(Nat.le_of_ble_eq_true rfl), (Nat.le_of_ble_eq_true rfl)⟩ (fun H1 locs1 q9 ce h1 h2 h3 k => vx_catch (name := ISE) hown [⟨0, 12, 15, 19⟩, ⟨0, 12, 19, 21⟩] ⟨0, 12, 23, 13⟩ [] (htab.trans rfl) (fun z hz => by
    rcases List.mem_cons.mp hz with rfl | hz
    · exact Or.inr ⟨by decide, IOB, hts _ cl_19, hN (ISE, IOB) (by decide +kernel)⟩
    rcases List.mem_cons.mp hz with rfl | hz
    · exact Or.inr ⟨by decide, IAE, hts _ cl_21, hN (ISE, IAE) (by decide +kernel)⟩
    cases hz) (by decide) (by decide) (hts _ cl_13) (cast_ok hX.2.1 cs1.2.2) h1 h2 h3 k) (fun q9 H locs h => ?_)
  refine lv_astore (pc := 23) (lv' := [(5, .ref q9), (0, .ref (q0 0)), (1, .int x1), (2, .int x2), (3, .int x3), (4, .ref o)]) hx hb dL_addSlot_23 hl (by decide) rfl (fun ls hl => ?_)
  refine lv_iconst (pc := 25) (v := 3) hx hb dL_addSlot_25 (by decide) ?_
  exact end_W (pc := 26) C hr (by decide) (by decide) h dL_addSlot_26
abbrev rmW_addRound : Room := { frames := 8, cells := 1, slots := 6, locals := 129 }
set_option maxHeartbeats 400000 in
set_option maxRecDepth 100000 in
theorem w_addRound {n : Nat} (hn : n ≤ 6) {q0 : Nat → Nat} {q : Nat → Nat → Nat} {cA : Nat → ClassId} {D : va_G} (σ0 : Nat → Nat → Int32) (σ : Nat → Nat → Nat → Int32) (x1 x2 : Int32) {z : Int32 × (Nat → Nat → Int32) × (Nat → Nat → Nat → Int32)} (hf : f_X4_addRound n σ0 σ x1 x2 = some (.inr z)) (o : Nat) (f : Nat → Int64) : CtW yL_addRound cL_addRound 5 [(0, 10, 13, 19), (0, 10, 17, 21), (0, 10, 21, 13)] rmW_addRound [.ref (q0 0), .int x1, .int x2, .ref o] D cA (xL n q0 q cA σ0 σ o f) (xL n q0 q cA z.2.1 z.2.2 o (vp_updL f 0 z.1.toInt64)) 0 := by
  refine vxW_of (Qc := fun sz => PostU D (xL n q0 q cA σ0 σ o f) (xL n q0 q cA z.2.1 z.2.2 o (vp_updL f 0 z.1.toInt64)) sz (some (.int 0))) (by decide) (Nat.le_of_ble_eq_true rfl) ?_
  intro p l e s m below meth c ls hl0 C hr htab hX hN hR0 h hl
  have C : Cx p s m _ meth c cL_addRound 5 RL D cA := C
  obtain ⟨hx, hb, hml, hown, hts, hK, hlk⟩ := id C
  replace hl : lv_has ls 5 [(0, .ref (q0 0)), (1, .int x1), (2, .int x2), (3, .ref o)] := hl
  refine lv_aload_n (pc := 0) hx hb dL_addRound_0 rfl (lv_at hl 3 rfl) ?_
  refine lv_iconst (pc := 1) (v := 0) hx hb dL_addRound_1 (by decide) ?_
  refine lv_aload_n (pc := 2) hx hb dL_addRound_2 rfl (lv_at hl 0 rfl) ?_
  refine lv_iload_n (pc := 3) hx hb dL_addRound_3 rfl (lv_at hl 1 rfl) ?_
  refine lv_iload_n (pc := 4) hx hb dL_addRound_4 rfl (lv_at hl 2 rfl) ?_
  refine call_VU (pc := 5) (As := [.int x1, .int x2]) (rest := [.int 0, .ref o]) (ws' := (xL n q0 q cA z.2.1 z.2.2 o f)) C h (k_X4_addRound hn σ0 σ x1 x2 hf) cw_L_23 1 (xL_c1 ..) rfl (List.range' 1 (sW n q0 q cA σ0 σ).length) (tail_map _ _) (nd_of _ List.nodup_range') (sW_fst ..) (tail_put _ (sW_len ..)) rfl rfl hl.1 (Nat.le_of_ble_eq_true rfl) dL_addRound_5 ⟨(Nat.le_of_ble_eq_true rfl), (Nat.le_of_ble_eq_true rfl)⟩ rfl rfl ⟨(Nat.le_of_ble_eq_true rfl), (Nat.le_of_ble_eq_true rfl)⟩ (fun H locs h => ?_)
  refine W.eq (g2 := F0 m 8 ls [.int z.1, .int 0, .ref o]) rfl ?_
  refine lv_i2l (pc := 8) (v := z.1.toInt64) hx hb dL_addRound_8 rfl ?_
  refine g_last (pc := 9) (n := 1) (f := f) (ws' := (xL n q0 q cA z.2.1 z.2.2 o (vp_updL f 0 z.1.toInt64))) C h 0 rfl (show inb (0 : Int32) 1 from by decide) rfl dL_addRound_9 (fun H locs h => ?_)
  refine lv_goto (pc := 10) (tgt := 25) hx hb dL_addRound_10 (by decide) ?_
  refine lv_iconst (pc := 25) (v := 0) hx hb dL_addRound_25 (by decide) ?_
  exact end_W (pc := 26) C hr (by decide) (by decide) h dL_addRound_26
set_option maxHeartbeats 400000 in
set_option maxRecDepth 100000 in
theorem wT_addRound_0 {n : Nat} (hn : n ≤ 6) {q0 : Nat → Nat} {q : Nat → Nat → Nat} {cA : Nat → ClassId} {D : va_G} (σ0 : Nat → Nat → Int32) (σ : Nat → Nat → Nat → Int32) (x1 x2 : Int32) (hf : f_X4_addRound n σ0 σ x1 x2 = some (.inl IOB)) (o : Nat) (f : Nat → Int64) : CtW yL_addRound cL_addRound 5 [(0, 10, 13, 19), (0, 10, 17, 21), (0, 10, 21, 13)] rmW_addRound [.ref (q0 0), .int x1, .int x2, .ref o] D cA (xL n q0 q cA σ0 σ o f) (xL n q0 q cA σ0 σ o f) 1 := by
  refine vxW_of (Qc := fun sz => PostU D (xL n q0 q cA σ0 σ o f) (xL n q0 q cA σ0 σ o f) sz (some (.int 1))) (by decide) (Nat.le_of_ble_eq_true rfl) ?_
  intro p l e s m below meth c ls hl0 C hr htab hX hN hR0 h hl
  have C : Cx p s m _ meth c cL_addRound 5 RL D cA := C
  obtain ⟨hx, hb, hml, hown, hts, hK, hlk⟩ := id C
  replace hl : lv_has ls 5 [(0, .ref (q0 0)), (1, .int x1), (2, .int x2), (3, .ref o)] := hl
  refine lv_aload_n (pc := 0) hx hb dL_addRound_0 rfl (lv_at hl 3 rfl) ?_
  refine lv_iconst (pc := 1) (v := 0) hx hb dL_addRound_1 (by decide) ?_
  refine lv_aload_n (pc := 2) hx hb dL_addRound_2 rfl (lv_at hl 0 rfl) ?_
  refine lv_iload_n (pc := 3) hx hb dL_addRound_3 rfl (lv_at hl 1 rfl) ?_
  refine lv_iload_n (pc := 4) hx hb dL_addRound_4 rfl (lv_at hl 2 rfl) ?_
  refine call_C (pc := 5) (hpc := 13) (As := [.int x1, .int x2]) (rest := [.int 0, .ref o]) (E := IOB) C hl0 hX hR0 h (kT_X4_addRound hn σ0 σ x1 x2 hf) cw_L_23 1 (xL_c1 ..) rfl (List.range' 1 (sW n q0 q cA σ0 σ).length) (tail_map _ _) (nd_of _ List.nodup_range') rfl rfl hl.1 (Nat.le_of_ble_eq_true rfl) dL_addRound_5 ⟨(Nat.le_of_ble_eq_true rfl), (Nat.le_of_ble_eq_true rfl)⟩ rfl rfl ⟨(Nat.le_of_ble_eq_true rfl), (Nat.le_of_ble_eq_true rfl)⟩ (fun H1 locs1 q9 ce h1 h2 h3 k => vx_catch (name := IOB) hown [] ⟨0, 10, 13, 19⟩ [⟨0, 10, 17, 21⟩, ⟨0, 10, 21, 13⟩] (htab.trans rfl) (fun z hz => by cases hz) (by decide) (by decide) (hts _ cl_19) (cast_ok hX.2.1 cs1.1) h1 h2 h3 k) (fun q9 H locs h => ?_)
  refine lv_astore (pc := 13) (lv' := [(4, .ref q9), (0, .ref (q0 0)), (1, .int x1), (2, .int x2), (3, .ref o)]) hx hb dL_addRound_13 hl (by decide) rfl (fun ls hl => ?_)
  refine lv_iconst (pc := 15) (v := 1) hx hb dL_addRound_15 (by decide) ?_
  exact end_W (pc := 16) C hr (by decide) (by decide) h dL_addRound_16
set_option maxHeartbeats 400000 in
set_option maxRecDepth 100000 in
theorem wT_addRound_1 {n : Nat} (hn : n ≤ 6) {q0 : Nat → Nat} {q : Nat → Nat → Nat} {cA : Nat → ClassId} {D : va_G} (σ0 : Nat → Nat → Int32) (σ : Nat → Nat → Nat → Int32) (x1 x2 : Int32) (hf : f_X4_addRound n σ0 σ x1 x2 = some (.inl IAE)) (o : Nat) (f : Nat → Int64) : CtW yL_addRound cL_addRound 5 [(0, 10, 13, 19), (0, 10, 17, 21), (0, 10, 21, 13)] rmW_addRound [.ref (q0 0), .int x1, .int x2, .ref o] D cA (xL n q0 q cA σ0 σ o f) (xL n q0 q cA σ0 σ o f) 2 := by
  refine vxW_of (Qc := fun sz => PostU D (xL n q0 q cA σ0 σ o f) (xL n q0 q cA σ0 σ o f) sz (some (.int 2))) (by decide) (Nat.le_of_ble_eq_true rfl) ?_
  intro p l e s m below meth c ls hl0 C hr htab hX hN hR0 h hl
  have C : Cx p s m _ meth c cL_addRound 5 RL D cA := C
  obtain ⟨hx, hb, hml, hown, hts, hK, hlk⟩ := id C
  replace hl : lv_has ls 5 [(0, .ref (q0 0)), (1, .int x1), (2, .int x2), (3, .ref o)] := hl
  refine lv_aload_n (pc := 0) hx hb dL_addRound_0 rfl (lv_at hl 3 rfl) ?_
  refine lv_iconst (pc := 1) (v := 0) hx hb dL_addRound_1 (by decide) ?_
  refine lv_aload_n (pc := 2) hx hb dL_addRound_2 rfl (lv_at hl 0 rfl) ?_
  refine lv_iload_n (pc := 3) hx hb dL_addRound_3 rfl (lv_at hl 1 rfl) ?_
  refine lv_iload_n (pc := 4) hx hb dL_addRound_4 rfl (lv_at hl 2 rfl) ?_
  refine call_C (pc := 5) (hpc := 17) (As := [.int x1, .int x2]) (rest := [.int 0, .ref o]) (E := IAE) C hl0 hX hR0 h (kT_X4_addRound hn σ0 σ x1 x2 hf) cw_L_23 1 (xL_c1 ..) rfl (List.range' 1 (sW n q0 q cA σ0 σ).length) (tail_map _ _) (nd_of _ List.nodup_range') rfl rfl hl.1 (Nat.le_of_ble_eq_true rfl) dL_addRound_5 ⟨(Nat.le_of_ble_eq_true rfl), (Nat.le_of_ble_eq_true rfl)⟩ rfl rfl ⟨(Nat.le_of_ble_eq_true rfl), (Nat.le_of_ble_eq_true rfl)⟩ (fun H1 locs1 q9 ce h1 h2 h3 k => vx_catch (name := IAE) hown [⟨0, 10, 13, 19⟩] ⟨0, 10, 17, 21⟩ [⟨0, 10, 21, 13⟩] (htab.trans rfl) (fun z hz => by
    rcases List.mem_cons.mp hz with rfl | hz
    · exact Or.inr ⟨by decide, IOB, hts _ cl_19, hN (IAE, IOB) (by decide +kernel)⟩
    cases hz) (by decide) (by decide) (hts _ cl_21) (cast_ok hX.2.1 cs1.2.1) h1 h2 h3 k) (fun q9 H locs h => ?_)
  refine lv_astore (pc := 17) (lv' := [(4, .ref q9), (0, .ref (q0 0)), (1, .int x1), (2, .int x2), (3, .ref o)]) hx hb dL_addRound_17 hl (by decide) rfl (fun ls hl => ?_)
  refine lv_iconst (pc := 19) (v := 2) hx hb dL_addRound_19 (by decide) ?_
  exact end_W (pc := 20) C hr (by decide) (by decide) h dL_addRound_20
set_option maxHeartbeats 400000 in
set_option maxRecDepth 100000 in
theorem wT_addRound_2 {n : Nat} (hn : n ≤ 6) {q0 : Nat → Nat} {q : Nat → Nat → Nat} {cA : Nat → ClassId} {D : va_G} (σ0 : Nat → Nat → Int32) (σ : Nat → Nat → Nat → Int32) (x1 x2 : Int32) (hf : f_X4_addRound n σ0 σ x1 x2 = some (.inl ISE)) (o : Nat) (f : Nat → Int64) : CtW yL_addRound cL_addRound 5 [(0, 10, 13, 19), (0, 10, 17, 21), (0, 10, 21, 13)] rmW_addRound [.ref (q0 0), .int x1, .int x2, .ref o] D cA (xL n q0 q cA σ0 σ o f) (xL n q0 q cA σ0 σ o f) 3 := by
  refine vxW_of (Qc := fun sz => PostU D (xL n q0 q cA σ0 σ o f) (xL n q0 q cA σ0 σ o f) sz (some (.int 3))) (by decide) (Nat.le_of_ble_eq_true rfl) ?_
  intro p l e s m below meth c ls hl0 C hr htab hX hN hR0 h hl
  have C : Cx p s m _ meth c cL_addRound 5 RL D cA := C
  obtain ⟨hx, hb, hml, hown, hts, hK, hlk⟩ := id C
  replace hl : lv_has ls 5 [(0, .ref (q0 0)), (1, .int x1), (2, .int x2), (3, .ref o)] := hl
  refine lv_aload_n (pc := 0) hx hb dL_addRound_0 rfl (lv_at hl 3 rfl) ?_
  refine lv_iconst (pc := 1) (v := 0) hx hb dL_addRound_1 (by decide) ?_
  refine lv_aload_n (pc := 2) hx hb dL_addRound_2 rfl (lv_at hl 0 rfl) ?_
  refine lv_iload_n (pc := 3) hx hb dL_addRound_3 rfl (lv_at hl 1 rfl) ?_
  refine lv_iload_n (pc := 4) hx hb dL_addRound_4 rfl (lv_at hl 2 rfl) ?_
  refine call_C (pc := 5) (hpc := 21) (As := [.int x1, .int x2]) (rest := [.int 0, .ref o]) (E := ISE) C hl0 hX hR0 h (kT_X4_addRound hn σ0 σ x1 x2 hf) cw_L_23 1 (xL_c1 ..) rfl (List.range' 1 (sW n q0 q cA σ0 σ).length) (tail_map _ _) (nd_of _ List.nodup_range') rfl rfl hl.1 (Nat.le_of_ble_eq_true rfl) dL_addRound_5 ⟨(Nat.le_of_ble_eq_true rfl), (Nat.le_of_ble_eq_true rfl)⟩ rfl rfl ⟨(Nat.le_of_ble_eq_true rfl), (Nat.le_of_ble_eq_true rfl)⟩ (fun H1 locs1 q9 ce h1 h2 h3 k => vx_catch (name := ISE) hown [⟨0, 10, 13, 19⟩, ⟨0, 10, 17, 21⟩] ⟨0, 10, 21, 13⟩ [] (htab.trans rfl) (fun z hz => by
    rcases List.mem_cons.mp hz with rfl | hz
    · exact Or.inr ⟨by decide, IOB, hts _ cl_19, hN (ISE, IOB) (by decide +kernel)⟩
    rcases List.mem_cons.mp hz with rfl | hz
    · exact Or.inr ⟨by decide, IAE, hts _ cl_21, hN (ISE, IAE) (by decide +kernel)⟩
    cases hz) (by decide) (by decide) (hts _ cl_13) (cast_ok hX.2.1 cs1.2.2) h1 h2 h3 k) (fun q9 H locs h => ?_)
  refine lv_astore (pc := 21) (lv' := [(4, .ref q9), (0, .ref (q0 0)), (1, .int x1), (2, .int x2), (3, .ref o)]) hx hb dL_addRound_21 hl (by decide) rfl (fun ls hl => ?_)
  refine lv_iconst (pc := 23) (v := 3) hx hb dL_addRound_23 (by decide) ?_
  exact end_W (pc := 24) C hr (by decide) (by decide) h dL_addRound_24
abbrev rmW_setTimes : Room := { frames := 8, cells := 1, slots := 6, locals := 128 }
set_option maxHeartbeats 400000 in
set_option maxRecDepth 100000 in
theorem w_setTimes {n : Nat} (hn : n ≤ 6) {q0 : Nat → Nat} {q : Nat → Nat → Nat} {cA : Nat → ClassId} {D : va_G} (σ0 : Nat → Nat → Int32) (σ : Nat → Nat → Nat → Int32) (x1 x2 x3 : Int32) {z : (Nat → Nat → Int32) × (Nat → Nat → Nat → Int32)} (hf : f_X4_setTimes n σ0 σ x1 x2 x3 = some (.inr z)) : CtW yL_setTimes cL_setTimes 5 [(0, 7, 10, 19), (0, 7, 14, 21), (0, 7, 18, 13)] rmW_setTimes [.ref (q0 0), .int x1, .int x2, .int x3] D cA (sW n q0 q cA σ0 σ) (sW n q0 q cA z.1 z.2) 0 := by
  refine vxW_of (Qc := fun sz => PostU D (sW n q0 q cA σ0 σ) (sW n q0 q cA z.1 z.2) sz (some (.int 0))) (by decide) (Nat.le_of_ble_eq_true rfl) ?_
  intro p l e s m below meth c ls hl0 C hr htab hX hN hR0 h hl
  have C : Cx p s m _ meth c cL_setTimes 5 RL D cA := C
  obtain ⟨hx, hb, hml, hown, hts, hK, hlk⟩ := id C
  replace hl : lv_has ls 5 [(0, .ref (q0 0)), (1, .int x1), (2, .int x2), (3, .int x3)] := hl
  refine lv_aload_n (pc := 0) hx hb dL_setTimes_0 rfl (lv_at hl 0 rfl) ?_
  refine lv_iload_n (pc := 1) hx hb dL_setTimes_1 rfl (lv_at hl 1 rfl) ?_
  refine lv_iload_n (pc := 2) hx hb dL_setTimes_2 rfl (lv_at hl 2 rfl) ?_
  refine lv_iload_n (pc := 3) hx hb dL_setTimes_3 rfl (lv_at hl 3 rfl) ?_
  refine call_VUs (pc := 4) (As := [.int x1, .int x2, .int x3]) (rest := []) (ws' := (sW n q0 q cA z.1 z.2)) C h (k_X4_setTimes hn σ0 σ x1 x2 x3 hf) cw_L_27 0 (sW_c0 ..) rfl (sW_fst ..) rfl rfl hl.1 (Nat.le_of_ble_eq_true rfl) dL_setTimes_4 ⟨(Nat.le_of_ble_eq_true rfl), (Nat.le_of_ble_eq_true rfl)⟩ rfl rfl ⟨(Nat.le_of_ble_eq_true rfl), (Nat.le_of_ble_eq_true rfl)⟩ (fun H locs h => ?_)
  refine W.eq (g2 := F0 m 7 ls []) rfl ?_
  refine lv_goto (pc := 7) (tgt := 22) hx hb dL_setTimes_7 (by decide) ?_
  refine lv_iconst (pc := 22) (v := 0) hx hb dL_setTimes_22 (by decide) ?_
  exact end_W (pc := 23) C hr (by decide) (by decide) h dL_setTimes_23
set_option maxHeartbeats 400000 in
set_option maxRecDepth 100000 in
theorem wT_setTimes_0 {n : Nat} (hn : n ≤ 6) {q0 : Nat → Nat} {q : Nat → Nat → Nat} {cA : Nat → ClassId} {D : va_G} (σ0 : Nat → Nat → Int32) (σ : Nat → Nat → Nat → Int32) (x1 x2 x3 : Int32) (hf : f_X4_setTimes n σ0 σ x1 x2 x3 = some (.inl IOB)) : CtW yL_setTimes cL_setTimes 5 [(0, 7, 10, 19), (0, 7, 14, 21), (0, 7, 18, 13)] rmW_setTimes [.ref (q0 0), .int x1, .int x2, .int x3] D cA (sW n q0 q cA σ0 σ) (sW n q0 q cA σ0 σ) 1 := by
  refine vxW_of (Qc := fun sz => PostU D (sW n q0 q cA σ0 σ) (sW n q0 q cA σ0 σ) sz (some (.int 1))) (by decide) (Nat.le_of_ble_eq_true rfl) ?_
  intro p l e s m below meth c ls hl0 C hr htab hX hN hR0 h hl
  have C : Cx p s m _ meth c cL_setTimes 5 RL D cA := C
  obtain ⟨hx, hb, hml, hown, hts, hK, hlk⟩ := id C
  replace hl : lv_has ls 5 [(0, .ref (q0 0)), (1, .int x1), (2, .int x2), (3, .int x3)] := hl
  refine lv_aload_n (pc := 0) hx hb dL_setTimes_0 rfl (lv_at hl 0 rfl) ?_
  refine lv_iload_n (pc := 1) hx hb dL_setTimes_1 rfl (lv_at hl 1 rfl) ?_
  refine lv_iload_n (pc := 2) hx hb dL_setTimes_2 rfl (lv_at hl 2 rfl) ?_
  refine lv_iload_n (pc := 3) hx hb dL_setTimes_3 rfl (lv_at hl 3 rfl) ?_
  refine call_C (pc := 4) (hpc := 10) (As := [.int x1, .int x2, .int x3]) (rest := []) (E := IOB) C hl0 hX hR0 h (kT_X4_setTimes hn σ0 σ x1 x2 x3 hf) cw_L_27 0 (sW_c0 ..) rfl (List.range (sW n q0 q cA σ0 σ).length) (full_map _) (nd_of _ List.nodup_range) rfl rfl hl.1 (Nat.le_of_ble_eq_true rfl) dL_setTimes_4 ⟨(Nat.le_of_ble_eq_true rfl), (Nat.le_of_ble_eq_true rfl)⟩ rfl rfl ⟨(Nat.le_of_ble_eq_true rfl), (Nat.le_of_ble_eq_true rfl)⟩ (fun H1 locs1 q9 ce h1 h2 h3 k => vx_catch (name := IOB) hown [] ⟨0, 7, 10, 19⟩ [⟨0, 7, 14, 21⟩, ⟨0, 7, 18, 13⟩] (htab.trans rfl) (fun z hz => by cases hz) (by decide) (by decide) (hts _ cl_19) (cast_ok hX.2.1 cs1.1) h1 h2 h3 k) (fun q9 H locs h => ?_)
  refine lv_astore (pc := 10) (lv' := [(4, .ref q9), (0, .ref (q0 0)), (1, .int x1), (2, .int x2), (3, .int x3)]) hx hb dL_setTimes_10 hl (by decide) rfl (fun ls hl => ?_)
  refine lv_iconst (pc := 12) (v := 1) hx hb dL_setTimes_12 (by decide) ?_
  exact end_W (pc := 13) C hr (by decide) (by decide) h dL_setTimes_13
set_option maxHeartbeats 400000 in
set_option maxRecDepth 100000 in
theorem wT_setTimes_1 {n : Nat} (hn : n ≤ 6) {q0 : Nat → Nat} {q : Nat → Nat → Nat} {cA : Nat → ClassId} {D : va_G} (σ0 : Nat → Nat → Int32) (σ : Nat → Nat → Nat → Int32) (x1 x2 x3 : Int32) (hf : f_X4_setTimes n σ0 σ x1 x2 x3 = some (.inl IAE)) : CtW yL_setTimes cL_setTimes 5 [(0, 7, 10, 19), (0, 7, 14, 21), (0, 7, 18, 13)] rmW_setTimes [.ref (q0 0), .int x1, .int x2, .int x3] D cA (sW n q0 q cA σ0 σ) (sW n q0 q cA σ0 σ) 2 := by
  refine vxW_of (Qc := fun sz => PostU D (sW n q0 q cA σ0 σ) (sW n q0 q cA σ0 σ) sz (some (.int 2))) (by decide) (Nat.le_of_ble_eq_true rfl) ?_
  intro p l e s m below meth c ls hl0 C hr htab hX hN hR0 h hl
  have C : Cx p s m _ meth c cL_setTimes 5 RL D cA := C
  obtain ⟨hx, hb, hml, hown, hts, hK, hlk⟩ := id C
  replace hl : lv_has ls 5 [(0, .ref (q0 0)), (1, .int x1), (2, .int x2), (3, .int x3)] := hl
  refine lv_aload_n (pc := 0) hx hb dL_setTimes_0 rfl (lv_at hl 0 rfl) ?_
  refine lv_iload_n (pc := 1) hx hb dL_setTimes_1 rfl (lv_at hl 1 rfl) ?_
  refine lv_iload_n (pc := 2) hx hb dL_setTimes_2 rfl (lv_at hl 2 rfl) ?_
  refine lv_iload_n (pc := 3) hx hb dL_setTimes_3 rfl (lv_at hl 3 rfl) ?_
  refine call_C (pc := 4) (hpc := 14) (As := [.int x1, .int x2, .int x3]) (rest := []) (E := IAE) C hl0 hX hR0 h (kT_X4_setTimes hn σ0 σ x1 x2 x3 hf) cw_L_27 0 (sW_c0 ..) rfl (List.range (sW n q0 q cA σ0 σ).length) (full_map _) (nd_of _ List.nodup_range) rfl rfl hl.1 (Nat.le_of_ble_eq_true rfl) dL_setTimes_4 ⟨(Nat.le_of_ble_eq_true rfl), (Nat.le_of_ble_eq_true rfl)⟩ rfl rfl ⟨(Nat.le_of_ble_eq_true rfl), (Nat.le_of_ble_eq_true rfl)⟩ (fun H1 locs1 q9 ce h1 h2 h3 k => vx_catch (name := IAE) hown [⟨0, 7, 10, 19⟩] ⟨0, 7, 14, 21⟩ [⟨0, 7, 18, 13⟩] (htab.trans rfl) (fun z hz => by
    rcases List.mem_cons.mp hz with rfl | hz
    · exact Or.inr ⟨by decide, IOB, hts _ cl_19, hN (IAE, IOB) (by decide +kernel)⟩
    cases hz) (by decide) (by decide) (hts _ cl_21) (cast_ok hX.2.1 cs1.2.1) h1 h2 h3 k) (fun q9 H locs h => ?_)
  refine lv_astore (pc := 14) (lv' := [(4, .ref q9), (0, .ref (q0 0)), (1, .int x1), (2, .int x2), (3, .int x3)]) hx hb dL_setTimes_14 hl (by decide) rfl (fun ls hl => ?_)
  refine lv_iconst (pc := 16) (v := 2) hx hb dL_setTimes_16 (by decide) ?_
  exact end_W (pc := 17) C hr (by decide) (by decide) h dL_setTimes_17
set_option maxHeartbeats 400000 in
set_option maxRecDepth 100000 in
theorem wT_setTimes_2 {n : Nat} (hn : n ≤ 6) {q0 : Nat → Nat} {q : Nat → Nat → Nat} {cA : Nat → ClassId} {D : va_G} (σ0 : Nat → Nat → Int32) (σ : Nat → Nat → Nat → Int32) (x1 x2 x3 : Int32) (hf : f_X4_setTimes n σ0 σ x1 x2 x3 = some (.inl ISE)) : CtW yL_setTimes cL_setTimes 5 [(0, 7, 10, 19), (0, 7, 14, 21), (0, 7, 18, 13)] rmW_setTimes [.ref (q0 0), .int x1, .int x2, .int x3] D cA (sW n q0 q cA σ0 σ) (sW n q0 q cA σ0 σ) 3 := by
  refine vxW_of (Qc := fun sz => PostU D (sW n q0 q cA σ0 σ) (sW n q0 q cA σ0 σ) sz (some (.int 3))) (by decide) (Nat.le_of_ble_eq_true rfl) ?_
  intro p l e s m below meth c ls hl0 C hr htab hX hN hR0 h hl
  have C : Cx p s m _ meth c cL_setTimes 5 RL D cA := C
  obtain ⟨hx, hb, hml, hown, hts, hK, hlk⟩ := id C
  replace hl : lv_has ls 5 [(0, .ref (q0 0)), (1, .int x1), (2, .int x2), (3, .int x3)] := hl
  refine lv_aload_n (pc := 0) hx hb dL_setTimes_0 rfl (lv_at hl 0 rfl) ?_
  refine lv_iload_n (pc := 1) hx hb dL_setTimes_1 rfl (lv_at hl 1 rfl) ?_
  refine lv_iload_n (pc := 2) hx hb dL_setTimes_2 rfl (lv_at hl 2 rfl) ?_
  refine lv_iload_n (pc := 3) hx hb dL_setTimes_3 rfl (lv_at hl 3 rfl) ?_
  refine call_C (pc := 4) (hpc := 18) (As := [.int x1, .int x2, .int x3]) (rest := []) (E := ISE) C hl0 hX hR0 h (kT_X4_setTimes hn σ0 σ x1 x2 x3 hf) cw_L_27 0 (sW_c0 ..) rfl (List.range (sW n q0 q cA σ0 σ).length) (full_map _) (nd_of _ List.nodup_range) rfl rfl hl.1 (Nat.le_of_ble_eq_true rfl) dL_setTimes_4 ⟨(Nat.le_of_ble_eq_true rfl), (Nat.le_of_ble_eq_true rfl)⟩ rfl rfl ⟨(Nat.le_of_ble_eq_true rfl), (Nat.le_of_ble_eq_true rfl)⟩ (fun H1 locs1 q9 ce h1 h2 h3 k => vx_catch (name := ISE) hown [⟨0, 7, 10, 19⟩, ⟨0, 7, 14, 21⟩] ⟨0, 7, 18, 13⟩ [] (htab.trans rfl) (fun z hz => by
    rcases List.mem_cons.mp hz with rfl | hz
    · exact Or.inr ⟨by decide, IOB, hts _ cl_19, hN (ISE, IOB) (by decide +kernel)⟩
    rcases List.mem_cons.mp hz with rfl | hz
    · exact Or.inr ⟨by decide, IAE, hts _ cl_21, hN (ISE, IAE) (by decide +kernel)⟩
    cases hz) (by decide) (by decide) (hts _ cl_13) (cast_ok hX.2.1 cs1.2.2) h1 h2 h3 k) (fun q9 H locs h => ?_)
  refine lv_astore (pc := 18) (lv' := [(4, .ref q9), (0, .ref (q0 0)), (1, .int x1), (2, .int x2), (3, .int x3)]) hx hb dL_setTimes_18 hl (by decide) rfl (fun ls hl => ?_)
  refine lv_iconst (pc := 20) (v := 3) hx hb dL_setTimes_20 (by decide) ?_
  exact end_W (pc := 21) C hr (by decide) (by decide) h dL_setTimes_21
abbrev rmW_send : Room := { frames := 8, cells := 1, slots := 6, locals := 126 }
set_option maxHeartbeats 400000 in
set_option maxRecDepth 100000 in
theorem w_send {n : Nat} (hn : n ≤ 6) {q0 : Nat → Nat} {q : Nat → Nat → Nat} {cA : Nat → ClassId} {D : va_G} (σ0 : Nat → Nat → Int32) (σ : Nat → Nat → Nat → Int32) (x1 : Int32) {z : Int32 × (Nat → Nat → Int32) × (Nat → Nat → Nat → Int32)} (hf : f_X4_send n σ0 σ x1 = some (.inr z)) (o : Nat) (f : Nat → Int64) : CtW yL_send cL_send 4 [(0, 9, 12, 19), (0, 9, 15, 13)] rmW_send [.ref (q0 0), .int x1, .ref o] D cA (xL n q0 q cA σ0 σ o f) (xL n q0 q cA z.2.1 z.2.2 o (vp_updL f 0 z.1.toInt64)) 0 := by
  refine vxW_of (Qc := fun sz => PostU D (xL n q0 q cA σ0 σ o f) (xL n q0 q cA z.2.1 z.2.2 o (vp_updL f 0 z.1.toInt64)) sz (some (.int 0))) (by decide) (Nat.le_of_ble_eq_true rfl) ?_
  intro p l e s m below meth c ls hl0 C hr htab hX hN hR0 h hl
  have C : Cx p s m _ meth c cL_send 4 RL D cA := C
  obtain ⟨hx, hb, hml, hown, hts, hK, hlk⟩ := id C
  replace hl : lv_has ls 4 [(0, .ref (q0 0)), (1, .int x1), (2, .ref o)] := hl
  refine lv_aload_n (pc := 0) hx hb dL_send_0 rfl (lv_at hl 2 rfl) ?_
  refine lv_iconst (pc := 1) (v := 0) hx hb dL_send_1 (by decide) ?_
  refine lv_aload_n (pc := 2) hx hb dL_send_2 rfl (lv_at hl 0 rfl) ?_
  refine lv_iload_n (pc := 3) hx hb dL_send_3 rfl (lv_at hl 1 rfl) ?_
  refine call_VU (pc := 4) (As := [.int x1]) (rest := [.int 0, .ref o]) (ws' := (xL n q0 q cA z.2.1 z.2.2 o f)) C h (k_X4_send hn σ0 σ x1 hf) cw_L_31 1 (xL_c1 ..) rfl (List.range' 1 (sW n q0 q cA σ0 σ).length) (tail_map _ _) (nd_of _ List.nodup_range') (sW_fst ..) (tail_put _ (sW_len ..)) rfl rfl hl.1 (Nat.le_of_ble_eq_true rfl) dL_send_4 ⟨(Nat.le_of_ble_eq_true rfl), (Nat.le_of_ble_eq_true rfl)⟩ rfl rfl ⟨(Nat.le_of_ble_eq_true rfl), (Nat.le_of_ble_eq_true rfl)⟩ (fun H locs h => ?_)
  refine W.eq (g2 := F0 m 7 ls [.int z.1, .int 0, .ref o]) rfl ?_
  refine lv_i2l (pc := 7) (v := z.1.toInt64) hx hb dL_send_7 rfl ?_
  refine g_last (pc := 8) (n := 1) (f := f) (ws' := (xL n q0 q cA z.2.1 z.2.2 o (vp_updL f 0 z.1.toInt64))) C h 0 rfl (show inb (0 : Int32) 1 from by decide) rfl dL_send_8 (fun H locs h => ?_)
  refine lv_goto (pc := 9) (tgt := 18) hx hb dL_send_9 (by decide) ?_
  refine lv_iconst (pc := 18) (v := 0) hx hb dL_send_18 (by decide) ?_
  exact end_W (pc := 19) C hr (by decide) (by decide) h dL_send_19
set_option maxHeartbeats 400000 in
set_option maxRecDepth 100000 in
theorem wT_send_0 {n : Nat} (hn : n ≤ 6) {q0 : Nat → Nat} {q : Nat → Nat → Nat} {cA : Nat → ClassId} {D : va_G} (σ0 : Nat → Nat → Int32) (σ : Nat → Nat → Nat → Int32) (x1 : Int32) (hf : f_X4_send n σ0 σ x1 = some (.inl IOB)) (o : Nat) (f : Nat → Int64) : CtW yL_send cL_send 4 [(0, 9, 12, 19), (0, 9, 15, 13)] rmW_send [.ref (q0 0), .int x1, .ref o] D cA (xL n q0 q cA σ0 σ o f) (xL n q0 q cA σ0 σ o f) 1 := by
  refine vxW_of (Qc := fun sz => PostU D (xL n q0 q cA σ0 σ o f) (xL n q0 q cA σ0 σ o f) sz (some (.int 1))) (by decide) (Nat.le_of_ble_eq_true rfl) ?_
  intro p l e s m below meth c ls hl0 C hr htab hX hN hR0 h hl
  have C : Cx p s m _ meth c cL_send 4 RL D cA := C
  obtain ⟨hx, hb, hml, hown, hts, hK, hlk⟩ := id C
  replace hl : lv_has ls 4 [(0, .ref (q0 0)), (1, .int x1), (2, .ref o)] := hl
  refine lv_aload_n (pc := 0) hx hb dL_send_0 rfl (lv_at hl 2 rfl) ?_
  refine lv_iconst (pc := 1) (v := 0) hx hb dL_send_1 (by decide) ?_
  refine lv_aload_n (pc := 2) hx hb dL_send_2 rfl (lv_at hl 0 rfl) ?_
  refine lv_iload_n (pc := 3) hx hb dL_send_3 rfl (lv_at hl 1 rfl) ?_
  refine call_C (pc := 4) (hpc := 12) (As := [.int x1]) (rest := [.int 0, .ref o]) (E := IOB) C hl0 hX hR0 h (kT_X4_send hn σ0 σ x1 hf) cw_L_31 1 (xL_c1 ..) rfl (List.range' 1 (sW n q0 q cA σ0 σ).length) (tail_map _ _) (nd_of _ List.nodup_range') rfl rfl hl.1 (Nat.le_of_ble_eq_true rfl) dL_send_4 ⟨(Nat.le_of_ble_eq_true rfl), (Nat.le_of_ble_eq_true rfl)⟩ rfl rfl ⟨(Nat.le_of_ble_eq_true rfl), (Nat.le_of_ble_eq_true rfl)⟩ (fun H1 locs1 q9 ce h1 h2 h3 k => vx_catch (name := IOB) hown [] ⟨0, 9, 12, 19⟩ [⟨0, 9, 15, 13⟩] (htab.trans rfl) (fun z hz => by cases hz) (by decide) (by decide) (hts _ cl_19) (cast_ok hX.2.1 cs1.1) h1 h2 h3 k) (fun q9 H locs h => ?_)
  refine lv_astore_n (pc := 12) (lv' := [(3, .ref q9), (0, .ref (q0 0)), (1, .int x1), (2, .ref o)]) hx hb dL_send_12 rfl hl (by decide) rfl (fun ls hl => ?_)
  refine lv_iconst (pc := 13) (v := 1) hx hb dL_send_13 (by decide) ?_
  exact end_W (pc := 14) C hr (by decide) (by decide) h dL_send_14
set_option maxHeartbeats 400000 in
set_option maxRecDepth 100000 in
theorem wT_send_1 {n : Nat} (hn : n ≤ 6) {q0 : Nat → Nat} {q : Nat → Nat → Nat} {cA : Nat → ClassId} {D : va_G} (σ0 : Nat → Nat → Int32) (σ : Nat → Nat → Nat → Int32) (x1 : Int32) (hf : f_X4_send n σ0 σ x1 = some (.inl ISE)) (o : Nat) (f : Nat → Int64) : CtW yL_send cL_send 4 [(0, 9, 12, 19), (0, 9, 15, 13)] rmW_send [.ref (q0 0), .int x1, .ref o] D cA (xL n q0 q cA σ0 σ o f) (xL n q0 q cA σ0 σ o f) 2 := by
  refine vxW_of (Qc := fun sz => PostU D (xL n q0 q cA σ0 σ o f) (xL n q0 q cA σ0 σ o f) sz (some (.int 2))) (by decide) (Nat.le_of_ble_eq_true rfl) ?_
  intro p l e s m below meth c ls hl0 C hr htab hX hN hR0 h hl
  have C : Cx p s m _ meth c cL_send 4 RL D cA := C
  obtain ⟨hx, hb, hml, hown, hts, hK, hlk⟩ := id C
  replace hl : lv_has ls 4 [(0, .ref (q0 0)), (1, .int x1), (2, .ref o)] := hl
  refine lv_aload_n (pc := 0) hx hb dL_send_0 rfl (lv_at hl 2 rfl) ?_
  refine lv_iconst (pc := 1) (v := 0) hx hb dL_send_1 (by decide) ?_
  refine lv_aload_n (pc := 2) hx hb dL_send_2 rfl (lv_at hl 0 rfl) ?_
  refine lv_iload_n (pc := 3) hx hb dL_send_3 rfl (lv_at hl 1 rfl) ?_
  refine call_C (pc := 4) (hpc := 15) (As := [.int x1]) (rest := [.int 0, .ref o]) (E := ISE) C hl0 hX hR0 h (kT_X4_send hn σ0 σ x1 hf) cw_L_31 1 (xL_c1 ..) rfl (List.range' 1 (sW n q0 q cA σ0 σ).length) (tail_map _ _) (nd_of _ List.nodup_range') rfl rfl hl.1 (Nat.le_of_ble_eq_true rfl) dL_send_4 ⟨(Nat.le_of_ble_eq_true rfl), (Nat.le_of_ble_eq_true rfl)⟩ rfl rfl ⟨(Nat.le_of_ble_eq_true rfl), (Nat.le_of_ble_eq_true rfl)⟩ (fun H1 locs1 q9 ce h1 h2 h3 k => vx_catch (name := ISE) hown [⟨0, 9, 12, 19⟩] ⟨0, 9, 15, 13⟩ [] (htab.trans rfl) (fun z hz => by
    rcases List.mem_cons.mp hz with rfl | hz
    · exact Or.inr ⟨by decide, IOB, hts _ cl_19, hN (ISE, IOB) (by decide +kernel)⟩
    cases hz) (by decide) (by decide) (hts _ cl_13) (cast_ok hX.2.1 cs1.2.2) h1 h2 h3 k) (fun q9 H locs h => ?_)
  refine lv_astore_n (pc := 15) (lv' := [(3, .ref q9), (0, .ref (q0 0)), (1, .int x1), (2, .ref o)]) hx hb dL_send_15 rfl hl (by decide) rfl (fun ls hl => ?_)
  refine lv_iconst (pc := 16) (v := 2) hx hb dL_send_16 (by decide) ?_
  exact end_W (pc := 17) C hr (by decide) (by decide) h dL_send_17
abbrev rmW_sign : Room := { frames := 8, cells := 1, slots := 6, locals := 129 }
set_option maxHeartbeats 400000 in
set_option maxRecDepth 100000 in
theorem w_sign {n : Nat} (hn : n ≤ 6) {q0 : Nat → Nat} {q : Nat → Nat → Nat} {cA : Nat → ClassId} {D : va_G} (σ0 : Nat → Nat → Int32) (σ : Nat → Nat → Nat → Int32) (x1 x2 x3 : Int32) {z : Int32 × (Nat → Nat → Int32) × (Nat → Nat → Nat → Int32)} (hf : f_X4_sign n σ0 σ x1 x2 x3 = some (.inr z)) (o : Nat) (f : Nat → Int64) : CtW yL_sign cL_sign 6 [(0, 12, 15, 19), (0, 12, 19, 13)] rmW_sign [.ref (q0 0), .int x1, .int x2, .int x3, .ref o] D cA (xL n q0 q cA σ0 σ o f) (xL n q0 q cA z.2.1 z.2.2 o (vp_updL f 0 z.1.toInt64)) 0 := by
  refine vxW_of (Qc := fun sz => PostU D (xL n q0 q cA σ0 σ o f) (xL n q0 q cA z.2.1 z.2.2 o (vp_updL f 0 z.1.toInt64)) sz (some (.int 0))) (by decide) (Nat.le_of_ble_eq_true rfl) ?_
  intro p l e s m below meth c ls hl0 C hr htab hX hN hR0 h hl
  have C : Cx p s m _ meth c cL_sign 6 RL D cA := C
  obtain ⟨hx, hb, hml, hown, hts, hK, hlk⟩ := id C
  replace hl : lv_has ls 6 [(0, .ref (q0 0)), (1, .int x1), (2, .int x2), (3, .int x3), (4, .ref o)] := hl
  refine lv_aload (pc := 0) hx hb dL_sign_0 (lv_at hl 4 rfl) ?_
  refine lv_iconst (pc := 2) (v := 0) hx hb dL_sign_2 (by decide) ?_
  refine lv_aload_n (pc := 3) hx hb dL_sign_3 rfl (lv_at hl 0 rfl) ?_
  refine lv_iload_n (pc := 4) hx hb dL_sign_4 rfl (lv_at hl 1 rfl) ?_
  refine lv_iload_n (pc := 5) hx hb dL_sign_5 rfl (lv_at hl 2 rfl) ?_
  refine lv_iload_n (pc := 6) hx hb dL_sign_6 rfl (lv_at hl 3 rfl) ?_
  refine call_VU (pc := 7) (As := [.int x1, .int x2, .int x3]) (rest := [.int 0, .ref o]) (ws' := (xL n q0 q cA z.2.1 z.2.2 o f)) C h (k_X4_sign hn σ0 σ x1 x2 x3 hf) cw_L_35 1 (xL_c1 ..) rfl (List.range' 1 (sW n q0 q cA σ0 σ).length) (tail_map _ _) (nd_of _ List.nodup_range') (sW_fst ..) (tail_put _ (sW_len ..)) rfl rfl hl.1 (Nat.le_of_ble_eq_true rfl) dL_sign_7 ⟨(Nat.le_of_ble_eq_true rfl), (Nat.le_of_ble_eq_true rfl)⟩ rfl rfl ⟨(Nat.le_of_ble_eq_true rfl), (Nat.le_of_ble_eq_true rfl)⟩ (fun H locs h => ?_)
  refine W.eq (g2 := F0 m 10 ls [.int z.1, .int 0, .ref o]) rfl ?_
  refine lv_i2l (pc := 10) (v := z.1.toInt64) hx hb dL_sign_10 rfl ?_
  refine g_last (pc := 11) (n := 1) (f := f) (ws' := (xL n q0 q cA z.2.1 z.2.2 o (vp_updL f 0 z.1.toInt64))) C h 0 rfl (show inb (0 : Int32) 1 from by decide) rfl dL_sign_11 (fun H locs h => ?_)
  refine lv_goto (pc := 12) (tgt := 23) hx hb dL_sign_12 (by decide) ?_
  refine lv_iconst (pc := 23) (v := 0) hx hb dL_sign_23 (by decide) ?_
  exact end_W (pc := 24) C hr (by decide) (by decide) h dL_sign_24
set_option maxHeartbeats 400000 in
set_option maxRecDepth 100000 in
theorem wT_sign_0 {n : Nat} (hn : n ≤ 6) {q0 : Nat → Nat} {q : Nat → Nat → Nat} {cA : Nat → ClassId} {D : va_G} (σ0 : Nat → Nat → Int32) (σ : Nat → Nat → Nat → Int32) (x1 x2 x3 : Int32) (hf : f_X4_sign n σ0 σ x1 x2 x3 = some (.inl IOB)) (o : Nat) (f : Nat → Int64) : CtW yL_sign cL_sign 6 [(0, 12, 15, 19), (0, 12, 19, 13)] rmW_sign [.ref (q0 0), .int x1, .int x2, .int x3, .ref o] D cA (xL n q0 q cA σ0 σ o f) (xL n q0 q cA σ0 σ o f) 1 := by
  refine vxW_of (Qc := fun sz => PostU D (xL n q0 q cA σ0 σ o f) (xL n q0 q cA σ0 σ o f) sz (some (.int 1))) (by decide) (Nat.le_of_ble_eq_true rfl) ?_
  intro p l e s m below meth c ls hl0 C hr htab hX hN hR0 h hl
  have C : Cx p s m _ meth c cL_sign 6 RL D cA := C
  obtain ⟨hx, hb, hml, hown, hts, hK, hlk⟩ := id C
  replace hl : lv_has ls 6 [(0, .ref (q0 0)), (1, .int x1), (2, .int x2), (3, .int x3), (4, .ref o)] := hl
  refine lv_aload (pc := 0) hx hb dL_sign_0 (lv_at hl 4 rfl) ?_
  refine lv_iconst (pc := 2) (v := 0) hx hb dL_sign_2 (by decide) ?_
  refine lv_aload_n (pc := 3) hx hb dL_sign_3 rfl (lv_at hl 0 rfl) ?_
  refine lv_iload_n (pc := 4) hx hb dL_sign_4 rfl (lv_at hl 1 rfl) ?_
  refine lv_iload_n (pc := 5) hx hb dL_sign_5 rfl (lv_at hl 2 rfl) ?_
  refine lv_iload_n (pc := 6) hx hb dL_sign_6 rfl (lv_at hl 3 rfl) ?_
  refine call_C (pc := 7) (hpc := 15) (As := [.int x1, .int x2, .int x3]) (rest := [.int 0, .ref o]) (E := IOB) C hl0 hX hR0 h (kT_X4_sign hn σ0 σ x1 x2 x3 hf) cw_L_35 1 (xL_c1 ..) rfl (List.range' 1 (sW n q0 q cA σ0 σ).length) (tail_map _ _) (nd_of _ List.nodup_range') rfl rfl hl.1 (Nat.le_of_ble_eq_true rfl) dL_sign_7 ⟨(Nat.le_of_ble_eq_true rfl), (Nat.le_of_ble_eq_true rfl)⟩ rfl rfl ⟨(Nat.le_of_ble_eq_true rfl), (Nat.le_of_ble_eq_true rfl)⟩ (fun H1 locs1 q9 ce h1 h2 h3 k => vx_catch (name := IOB) hown [] ⟨0, 12, 15, 19⟩ [⟨0, 12, 19, 13⟩] (htab.trans rfl) (fun z hz => by cases hz) (by decide) (by decide) (hts _ cl_19) (cast_ok hX.2.1 cs1.1) h1 h2 h3 k) (fun q9 H locs h => ?_)
  refine lv_astore (pc := 15) (lv' := [(5, .ref q9), (0, .ref (q0 0)), (1, .int x1), (2, .int x2), (3, .int x3), (4, .ref o)]) hx hb dL_sign_15 hl (by decide) rfl (fun ls hl => ?_)
  refine lv_iconst (pc := 17) (v := 1) hx hb dL_sign_17 (by decide) ?_
  exact end_W (pc := 18) C hr (by decide) (by decide) h dL_sign_18
set_option maxHeartbeats 400000 in
set_option maxRecDepth 100000 in
theorem wT_sign_1 {n : Nat} (hn : n ≤ 6) {q0 : Nat → Nat} {q : Nat → Nat → Nat} {cA : Nat → ClassId} {D : va_G} (σ0 : Nat → Nat → Int32) (σ : Nat → Nat → Nat → Int32) (x1 x2 x3 : Int32) (hf : f_X4_sign n σ0 σ x1 x2 x3 = some (.inl ISE)) (o : Nat) (f : Nat → Int64) : CtW yL_sign cL_sign 6 [(0, 12, 15, 19), (0, 12, 19, 13)] rmW_sign [.ref (q0 0), .int x1, .int x2, .int x3, .ref o] D cA (xL n q0 q cA σ0 σ o f) (xL n q0 q cA σ0 σ o f) 2 := by
  refine vxW_of (Qc := fun sz => PostU D (xL n q0 q cA σ0 σ o f) (xL n q0 q cA σ0 σ o f) sz (some (.int 2))) (by decide) (Nat.le_of_ble_eq_true rfl) ?_
  intro p l e s m below meth c ls hl0 C hr htab hX hN hR0 h hl
  have C : Cx p s m _ meth c cL_sign 6 RL D cA := C
  obtain ⟨hx, hb, hml, hown, hts, hK, hlk⟩ := id C
  replace hl : lv_has ls 6 [(0, .ref (q0 0)), (1, .int x1), (2, .int x2), (3, .int x3), (4, .ref o)] := hl
  refine lv_aload (pc := 0) hx hb dL_sign_0 (lv_at hl 4 rfl) ?_
  refine lv_iconst (pc := 2) (v := 0) hx hb dL_sign_2 (by decide) ?_
  refine lv_aload_n (pc := 3) hx hb dL_sign_3 rfl (lv_at hl 0 rfl) ?_
  refine lv_iload_n (pc := 4) hx hb dL_sign_4 rfl (lv_at hl 1 rfl) ?_
  refine lv_iload_n (pc := 5) hx hb dL_sign_5 rfl (lv_at hl 2 rfl) ?_
  refine lv_iload_n (pc := 6) hx hb dL_sign_6 rfl (lv_at hl 3 rfl) ?_
  refine call_C (pc := 7) (hpc := 19) (As := [.int x1, .int x2, .int x3]) (rest := [.int 0, .ref o]) (E := ISE) C hl0 hX hR0 h (kT_X4_sign hn σ0 σ x1 x2 x3 hf) cw_L_35 1 (xL_c1 ..) rfl (List.range' 1 (sW n q0 q cA σ0 σ).length) (tail_map _ _) (nd_of _ List.nodup_range') rfl rfl hl.1 (Nat.le_of_ble_eq_true rfl) dL_sign_7 ⟨(Nat.le_of_ble_eq_true rfl), (Nat.le_of_ble_eq_true rfl)⟩ rfl rfl ⟨(Nat.le_of_ble_eq_true rfl), (Nat.le_of_ble_eq_true rfl)⟩ (fun H1 locs1 q9 ce h1 h2 h3 k => vx_catch (name := ISE) hown [⟨0, 12, 15, 19⟩] ⟨0, 12, 19, 13⟩ [] (htab.trans rfl) (fun z hz => by
    rcases List.mem_cons.mp hz with rfl | hz
    · exact Or.inr ⟨by decide, IOB, hts _ cl_19, hN (ISE, IOB) (by decide +kernel)⟩
    cases hz) (by decide) (by decide) (hts _ cl_13) (cast_ok hX.2.1 cs1.2.2) h1 h2 h3 k) (fun q9 H locs h => ?_)
  refine lv_astore (pc := 19) (lv' := [(5, .ref q9), (0, .ref (q0 0)), (1, .int x1), (2, .int x2), (3, .int x3), (4, .ref o)]) hx hb dL_sign_19 hl (by decide) rfl (fun ls hl => ?_)
  refine lv_iconst (pc := 21) (v := 2) hx hb dL_sign_21 (by decide) ?_
  exact end_W (pc := 22) C hr (by decide) (by decide) h dL_sign_22
abbrev rmW_whyNot : Room := { frames := 8, cells := 1, slots := 6, locals := 128 }
set_option maxHeartbeats 400000 in
set_option maxRecDepth 100000 in
theorem w_whyNot {n : Nat} (hn : n ≤ 6) {q0 : Nat → Nat} {q : Nat → Nat → Nat} {cA : Nat → ClassId} {D : va_G} (σ0 : Nat → Nat → Int32) (σ : Nat → Nat → Nat → Int32) (x1 x2 x3 : Int32) {z : Int32} (hf : f_X4_whyNot n σ0 σ x1 x2 x3 = some (.inr z)) (o : Nat) (f : Nat → Int64) : CtW yL_whyNot cL_whyNot 6 [(0, 12, 15, 19)] rmW_whyNot [.ref (q0 0), .int x1, .int x2, .int x3, .ref o] D cA (xL n q0 q cA σ0 σ o f) (xL n q0 q cA σ0 σ o (vp_updL f 0 z.toInt64)) 0 := by
  refine vxW_of (Qc := fun sz => PostU D (xL n q0 q cA σ0 σ o f) (xL n q0 q cA σ0 σ o (vp_updL f 0 z.toInt64)) sz (some (.int 0))) (by decide) (Nat.le_of_ble_eq_true rfl) ?_
  intro p l e s m below meth c ls hl0 C hr htab hX hN hR0 h hl
  have C : Cx p s m _ meth c cL_whyNot 6 RL D cA := C
  obtain ⟨hx, hb, hml, hown, hts, hK, hlk⟩ := id C
  replace hl : lv_has ls 6 [(0, .ref (q0 0)), (1, .int x1), (2, .int x2), (3, .int x3), (4, .ref o)] := hl
  refine lv_aload (pc := 0) hx hb dL_whyNot_0 (lv_at hl 4 rfl) ?_
  refine lv_iconst (pc := 2) (v := 0) hx hb dL_whyNot_2 (by decide) ?_
  refine lv_aload_n (pc := 3) hx hb dL_whyNot_3 rfl (lv_at hl 0 rfl) ?_
  refine lv_iload_n (pc := 4) hx hb dL_whyNot_4 rfl (lv_at hl 1 rfl) ?_
  refine lv_iload_n (pc := 5) hx hb dL_whyNot_5 rfl (lv_at hl 2 rfl) ?_
  refine lv_iload_n (pc := 6) hx hb dL_whyNot_6 rfl (lv_at hl 3 rfl) ?_
  refine call_VR (pc := 7) (As := [.int x1, .int x2, .int x3]) (rest := [.int 0, .ref o]) C h (k_X4_whyNot hn σ0 σ x1 x2 x3 hf) cw_L_38 1 (xL_c1 ..) rfl (List.range' 1 (sW n q0 q cA σ0 σ).length) (tail_map _ _) (nd_of _ List.nodup_range') rfl rfl hl.1 (Nat.le_of_ble_eq_true rfl) dL_whyNot_7 ⟨(Nat.le_of_ble_eq_true rfl), (Nat.le_of_ble_eq_true rfl)⟩ rfl rfl ⟨(Nat.le_of_ble_eq_true rfl), (Nat.le_of_ble_eq_true rfl)⟩ (fun H locs h => ?_)
  refine W.eq (g2 := F0 m 10 ls [.int z, .int 0, .ref o]) rfl ?_
  refine lv_i2l (pc := 10) (v := z.toInt64) hx hb dL_whyNot_10 rfl ?_
  refine g_last (pc := 11) (n := 1) (f := f) (ws' := (xL n q0 q cA σ0 σ o (vp_updL f 0 z.toInt64))) C h 0 rfl (show inb (0 : Int32) 1 from by decide) rfl dL_whyNot_11 (fun H locs h => ?_)
  refine lv_goto (pc := 12) (tgt := 19) hx hb dL_whyNot_12 (by decide) ?_
  refine lv_iconst (pc := 19) (v := 0) hx hb dL_whyNot_19 (by decide) ?_
  exact end_W (pc := 20) C hr (by decide) (by decide) h dL_whyNot_20
set_option maxHeartbeats 400000 in
set_option maxRecDepth 100000 in
theorem wT_whyNot_0 {n : Nat} (hn : n ≤ 6) {q0 : Nat → Nat} {q : Nat → Nat → Nat} {cA : Nat → ClassId} {D : va_G} (σ0 : Nat → Nat → Int32) (σ : Nat → Nat → Nat → Int32) (x1 x2 x3 : Int32) (hf : f_X4_whyNot n σ0 σ x1 x2 x3 = some (.inl IOB)) (o : Nat) (f : Nat → Int64) : CtW yL_whyNot cL_whyNot 6 [(0, 12, 15, 19)] rmW_whyNot [.ref (q0 0), .int x1, .int x2, .int x3, .ref o] D cA (xL n q0 q cA σ0 σ o f) (xL n q0 q cA σ0 σ o f) 1 := by
  refine vxW_of (Qc := fun sz => PostU D (xL n q0 q cA σ0 σ o f) (xL n q0 q cA σ0 σ o f) sz (some (.int 1))) (by decide) (Nat.le_of_ble_eq_true rfl) ?_
  intro p l e s m below meth c ls hl0 C hr htab hX hN hR0 h hl
  have C : Cx p s m _ meth c cL_whyNot 6 RL D cA := C
  obtain ⟨hx, hb, hml, hown, hts, hK, hlk⟩ := id C
  replace hl : lv_has ls 6 [(0, .ref (q0 0)), (1, .int x1), (2, .int x2), (3, .int x3), (4, .ref o)] := hl
  refine lv_aload (pc := 0) hx hb dL_whyNot_0 (lv_at hl 4 rfl) ?_
  refine lv_iconst (pc := 2) (v := 0) hx hb dL_whyNot_2 (by decide) ?_
  refine lv_aload_n (pc := 3) hx hb dL_whyNot_3 rfl (lv_at hl 0 rfl) ?_
  refine lv_iload_n (pc := 4) hx hb dL_whyNot_4 rfl (lv_at hl 1 rfl) ?_
  refine lv_iload_n (pc := 5) hx hb dL_whyNot_5 rfl (lv_at hl 2 rfl) ?_
  refine lv_iload_n (pc := 6) hx hb dL_whyNot_6 rfl (lv_at hl 3 rfl) ?_
  refine call_C (pc := 7) (hpc := 15) (As := [.int x1, .int x2, .int x3]) (rest := [.int 0, .ref o]) (E := IOB) C hl0 hX hR0 h (kT_X4_whyNot hn σ0 σ x1 x2 x3 hf) cw_L_38 1 (xL_c1 ..) rfl (List.range' 1 (sW n q0 q cA σ0 σ).length) (tail_map _ _) (nd_of _ List.nodup_range') rfl rfl hl.1 (Nat.le_of_ble_eq_true rfl) dL_whyNot_7 ⟨(Nat.le_of_ble_eq_true rfl), (Nat.le_of_ble_eq_true rfl)⟩ rfl rfl ⟨(Nat.le_of_ble_eq_true rfl), (Nat.le_of_ble_eq_true rfl)⟩ (fun H1 locs1 q9 ce h1 h2 h3 k => vx_catch (name := IOB) hown [] ⟨0, 12, 15, 19⟩ [] (htab.trans rfl) (fun z hz => by cases hz) (by decide) (by decide) (hts _ cl_19) (cast_ok hX.2.1 cs1.1) h1 h2 h3 k) (fun q9 H locs h => ?_)
  refine lv_astore (pc := 15) (lv' := [(5, .ref q9), (0, .ref (q0 0)), (1, .int x1), (2, .int x2), (3, .int x3), (4, .ref o)]) hx hb dL_whyNot_15 hl (by decide) rfl (fun ls hl => ?_)
  refine lv_iconst (pc := 17) (v := 1) hx hb dL_whyNot_17 (by decide) ?_
  exact end_W (pc := 18) C hr (by decide) (by decide) h dL_whyNot_18
abbrev rmW_decline : Room := { frames := 8, cells := 1, slots := 6, locals := 128 }
set_option maxHeartbeats 400000 in
set_option maxRecDepth 100000 in
theorem w_decline {n : Nat} (hn : n ≤ 6) {q0 : Nat → Nat} {q : Nat → Nat → Nat} {cA : Nat → ClassId} {D : va_G} (σ0 : Nat → Nat → Int32) (σ : Nat → Nat → Nat → Int32) (x1 x2 x3 : Int32) {z : Int32 × (Nat → Nat → Int32) × (Nat → Nat → Nat → Int32)} (hf : f_X4_decline n σ0 σ x1 x2 x3 = some (.inr z)) (o : Nat) (f : Nat → Int64) : CtW yL_decline cL_decline 6 [(0, 12, 15, 19), (0, 12, 19, 13)] rmW_decline [.ref (q0 0), .int x1, .int x2, .int x3, .ref o] D cA (xL n q0 q cA σ0 σ o f) (xL n q0 q cA z.2.1 z.2.2 o (vp_updL f 0 z.1.toInt64)) 0 := by
  refine vxW_of (Qc := fun sz => PostU D (xL n q0 q cA σ0 σ o f) (xL n q0 q cA z.2.1 z.2.2 o (vp_updL f 0 z.1.toInt64)) sz (some (.int 0))) (by decide) (Nat.le_of_ble_eq_true rfl) ?_
  intro p l e s m below meth c ls hl0 C hr htab hX hN hR0 h hl
  have C : Cx p s m _ meth c cL_decline 6 RL D cA := C
  obtain ⟨hx, hb, hml, hown, hts, hK, hlk⟩ := id C
  replace hl : lv_has ls 6 [(0, .ref (q0 0)), (1, .int x1), (2, .int x2), (3, .int x3), (4, .ref o)] := hl
  refine lv_aload (pc := 0) hx hb dL_decline_0 (lv_at hl 4 rfl) ?_
  refine lv_iconst (pc := 2) (v := 0) hx hb dL_decline_2 (by decide) ?_
  refine lv_aload_n (pc := 3) hx hb dL_decline_3 rfl (lv_at hl 0 rfl) ?_
  refine lv_iload_n (pc := 4) hx hb dL_decline_4 rfl (lv_at hl 1 rfl) ?_
  refine lv_iload_n (pc := 5) hx hb dL_decline_5 rfl (lv_at hl 2 rfl) ?_
  refine lv_iload_n (pc := 6) hx hb dL_decline_6 rfl (lv_at hl 3 rfl) ?_
  refine call_VU (pc := 7) (As := [.int x1, .int x2, .int x3]) (rest := [.int 0, .ref o]) (ws' := (xL n q0 q cA z.2.1 z.2.2 o f)) C h (k_X4_decline hn σ0 σ x1 x2 x3 hf) cw_L_41 1 (xL_c1 ..) rfl (List.range' 1 (sW n q0 q cA σ0 σ).length) (tail_map _ _) (nd_of _ List.nodup_range') (sW_fst ..) (tail_put _ (sW_len ..)) rfl rfl hl.1 (Nat.le_of_ble_eq_true rfl) dL_decline_7 ⟨(Nat.le_of_ble_eq_true rfl), (Nat.le_of_ble_eq_true rfl)⟩ rfl rfl ⟨(Nat.le_of_ble_eq_true rfl), (Nat.le_of_ble_eq_true rfl)⟩ (fun H locs h => ?_)
  refine W.eq (g2 := F0 m 10 ls [.int z.1, .int 0, .ref o]) rfl ?_
  refine lv_i2l (pc := 10) (v := z.1.toInt64) hx hb dL_decline_10 rfl ?_
  refine g_last (pc := 11) (n := 1) (f := f) (ws' := (xL n q0 q cA z.2.1 z.2.2 o (vp_updL f 0 z.1.toInt64))) C h 0 rfl (show inb (0 : Int32) 1 from by decide) rfl dL_decline_11 (fun H locs h => ?_)
  refine lv_goto (pc := 12) (tgt := 23) hx hb dL_decline_12 (by decide) ?_
  refine lv_iconst (pc := 23) (v := 0) hx hb dL_decline_23 (by decide) ?_
  exact end_W (pc := 24) C hr (by decide) (by decide) h dL_decline_24
set_option maxHeartbeats 400000 in
set_option maxRecDepth 100000 in
theorem wT_decline_0 {n : Nat} (hn : n ≤ 6) {q0 : Nat → Nat} {q : Nat → Nat → Nat} {cA : Nat → ClassId} {D : va_G} (σ0 : Nat → Nat → Int32) (σ : Nat → Nat → Nat → Int32) (x1 x2 x3 : Int32) (hf : f_X4_decline n σ0 σ x1 x2 x3 = some (.inl IOB)) (o : Nat) (f : Nat → Int64) : CtW yL_decline cL_decline 6 [(0, 12, 15, 19), (0, 12, 19, 13)] rmW_decline [.ref (q0 0), .int x1, .int x2, .int x3, .ref o] D cA (xL n q0 q cA σ0 σ o f) (xL n q0 q cA σ0 σ o f) 1 := by
  refine vxW_of (Qc := fun sz => PostU D (xL n q0 q cA σ0 σ o f) (xL n q0 q cA σ0 σ o f) sz (some (.int 1))) (by decide) (Nat.le_of_ble_eq_true rfl) ?_
  intro p l e s m below meth c ls hl0 C hr htab hX hN hR0 h hl
  have C : Cx p s m _ meth c cL_decline 6 RL D cA := C
  obtain ⟨hx, hb, hml, hown, hts, hK, hlk⟩ := id C
  replace hl : lv_has ls 6 [(0, .ref (q0 0)), (1, .int x1), (2, .int x2), (3, .int x3), (4, .ref o)] := hl
  refine lv_aload (pc := 0) hx hb dL_decline_0 (lv_at hl 4 rfl) ?_
  refine lv_iconst (pc := 2) (v := 0) hx hb dL_decline_2 (by decide) ?_
  refine lv_aload_n (pc := 3) hx hb dL_decline_3 rfl (lv_at hl 0 rfl) ?_
  refine lv_iload_n (pc := 4) hx hb dL_decline_4 rfl (lv_at hl 1 rfl) ?_
  refine lv_iload_n (pc := 5) hx hb dL_decline_5 rfl (lv_at hl 2 rfl) ?_
  refine lv_iload_n (pc := 6) hx hb dL_decline_6 rfl (lv_at hl 3 rfl) ?_
  refine call_C (pc := 7) (hpc := 15) (As := [.int x1, .int x2, .int x3]) (rest := [.int 0, .ref o]) (E := IOB) C hl0 hX hR0 h (kT_X4_decline hn σ0 σ x1 x2 x3 hf) cw_L_41 1 (xL_c1 ..) rfl (List.range' 1 (sW n q0 q cA σ0 σ).length) (tail_map _ _) (nd_of _ List.nodup_range') rfl rfl hl.1 (Nat.le_of_ble_eq_true rfl) dL_decline_7 ⟨(Nat.le_of_ble_eq_true rfl), (Nat.le_of_ble_eq_true rfl)⟩ rfl rfl ⟨(Nat.le_of_ble_eq_true rfl), (Nat.le_of_ble_eq_true rfl)⟩ (fun H1 locs1 q9 ce h1 h2 h3 k => vx_catch (name := IOB) hown [] ⟨0, 12, 15, 19⟩ [⟨0, 12, 19, 13⟩] (htab.trans rfl) (fun z hz => by cases hz) (by decide) (by decide) (hts _ cl_19) (cast_ok hX.2.1 cs1.1) h1 h2 h3 k) (fun q9 H locs h => ?_)
  refine lv_astore (pc := 15) (lv' := [(5, .ref q9), (0, .ref (q0 0)), (1, .int x1), (2, .int x2), (3, .int x3), (4, .ref o)]) hx hb dL_decline_15 hl (by decide) rfl (fun ls hl => ?_)
  refine lv_iconst (pc := 17) (v := 1) hx hb dL_decline_17 (by decide) ?_
  exact end_W (pc := 18) C hr (by decide) (by decide) h dL_decline_18
set_option maxHeartbeats 400000 in
set_option maxRecDepth 100000 in
theorem wT_decline_1 {n : Nat} (hn : n ≤ 6) {q0 : Nat → Nat} {q : Nat → Nat → Nat} {cA : Nat → ClassId} {D : va_G} (σ0 : Nat → Nat → Int32) (σ : Nat → Nat → Nat → Int32) (x1 x2 x3 : Int32) (hf : f_X4_decline n σ0 σ x1 x2 x3 = some (.inl ISE)) (o : Nat) (f : Nat → Int64) : CtW yL_decline cL_decline 6 [(0, 12, 15, 19), (0, 12, 19, 13)] rmW_decline [.ref (q0 0), .int x1, .int x2, .int x3, .ref o] D cA (xL n q0 q cA σ0 σ o f) (xL n q0 q cA σ0 σ o f) 2 := by
  refine vxW_of (Qc := fun sz => PostU D (xL n q0 q cA σ0 σ o f) (xL n q0 q cA σ0 σ o f) sz (some (.int 2))) (by decide) (Nat.le_of_ble_eq_true rfl) ?_
  intro p l e s m below meth c ls hl0 C hr htab hX hN hR0 h hl
  have C : Cx p s m _ meth c cL_decline 6 RL D cA := C
  obtain ⟨hx, hb, hml, hown, hts, hK, hlk⟩ := id C
  replace hl : lv_has ls 6 [(0, .ref (q0 0)), (1, .int x1), (2, .int x2), (3, .int x3), (4, .ref o)] := hl
  refine lv_aload (pc := 0) hx hb dL_decline_0 (lv_at hl 4 rfl) ?_
  refine lv_iconst (pc := 2) (v := 0) hx hb dL_decline_2 (by decide) ?_
  refine lv_aload_n (pc := 3) hx hb dL_decline_3 rfl (lv_at hl 0 rfl) ?_
  refine lv_iload_n (pc := 4) hx hb dL_decline_4 rfl (lv_at hl 1 rfl) ?_
  refine lv_iload_n (pc := 5) hx hb dL_decline_5 rfl (lv_at hl 2 rfl) ?_
  refine lv_iload_n (pc := 6) hx hb dL_decline_6 rfl (lv_at hl 3 rfl) ?_
  refine call_C (pc := 7) (hpc := 19) (As := [.int x1, .int x2, .int x3]) (rest := [.int 0, .ref o]) (E := ISE) C hl0 hX hR0 h (kT_X4_decline hn σ0 σ x1 x2 x3 hf) cw_L_41 1 (xL_c1 ..) rfl (List.range' 1 (sW n q0 q cA σ0 σ).length) (tail_map _ _) (nd_of _ List.nodup_range') rfl rfl hl.1 (Nat.le_of_ble_eq_true rfl) dL_decline_7 ⟨(Nat.le_of_ble_eq_true rfl), (Nat.le_of_ble_eq_true rfl)⟩ rfl rfl ⟨(Nat.le_of_ble_eq_true rfl), (Nat.le_of_ble_eq_true rfl)⟩ (fun H1 locs1 q9 ce h1 h2 h3 k => vx_catch (name := ISE) hown [⟨0, 12, 15, 19⟩] ⟨0, 12, 19, 13⟩ [] (htab.trans rfl) (fun z hz => by
    rcases List.mem_cons.mp hz with rfl | hz
    · exact Or.inr ⟨by decide, IOB, hts _ cl_19, hN (ISE, IOB) (by decide +kernel)⟩
    cases hz) (by decide) (by decide) (hts _ cl_13) (cast_ok hX.2.1 cs1.2.2) h1 h2 h3 k) (fun q9 H locs h => ?_)
  refine lv_astore (pc := 19) (lv' := [(5, .ref q9), (0, .ref (q0 0)), (1, .int x1), (2, .int x2), (3, .int x3), (4, .ref o)]) hx hb dL_decline_19 hl (by decide) rfl (fun ls hl => ?_)
  refine lv_iconst (pc := 21) (v := 2) hx hb dL_decline_21 (by decide) ?_
  exact end_W (pc := 22) C hr (by decide) (by decide) h dL_decline_22
abbrev rmW_cancel : Room := { frames := 8, cells := 1, slots := 6, locals := 126 }
set_option maxHeartbeats 400000 in
set_option maxRecDepth 100000 in
theorem w_cancel {n : Nat} (hn : n ≤ 6) {q0 : Nat → Nat} {q : Nat → Nat → Nat} {cA : Nat → ClassId} {D : va_G} (σ0 : Nat → Nat → Int32) (σ : Nat → Nat → Nat → Int32) (x1 : Int32) {z : Int32 × (Nat → Nat → Int32) × (Nat → Nat → Nat → Int32)} (hf : f_X4_cancel n σ0 σ x1 = some (.inr z)) (o : Nat) (f : Nat → Int64) : CtW yL_cancel cL_cancel 4 [(0, 9, 12, 19), (0, 9, 15, 13)] rmW_cancel [.ref (q0 0), .int x1, .ref o] D cA (xL n q0 q cA σ0 σ o f) (xL n q0 q cA z.2.1 z.2.2 o (vp_updL f 0 z.1.toInt64)) 0 := by
  refine vxW_of (Qc := fun sz => PostU D (xL n q0 q cA σ0 σ o f) (xL n q0 q cA z.2.1 z.2.2 o (vp_updL f 0 z.1.toInt64)) sz (some (.int 0))) (by decide) (Nat.le_of_ble_eq_true rfl) ?_
  intro p l e s m below meth c ls hl0 C hr htab hX hN hR0 h hl
  have C : Cx p s m _ meth c cL_cancel 4 RL D cA := C
  obtain ⟨hx, hb, hml, hown, hts, hK, hlk⟩ := id C
  replace hl : lv_has ls 4 [(0, .ref (q0 0)), (1, .int x1), (2, .ref o)] := hl
  refine lv_aload_n (pc := 0) hx hb dL_cancel_0 rfl (lv_at hl 2 rfl) ?_
  refine lv_iconst (pc := 1) (v := 0) hx hb dL_cancel_1 (by decide) ?_
  refine lv_aload_n (pc := 2) hx hb dL_cancel_2 rfl (lv_at hl 0 rfl) ?_
  refine lv_iload_n (pc := 3) hx hb dL_cancel_3 rfl (lv_at hl 1 rfl) ?_
  refine call_VU (pc := 4) (As := [.int x1]) (rest := [.int 0, .ref o]) (ws' := (xL n q0 q cA z.2.1 z.2.2 o f)) C h (k_X4_cancel hn σ0 σ x1 hf) cw_L_44 1 (xL_c1 ..) rfl (List.range' 1 (sW n q0 q cA σ0 σ).length) (tail_map _ _) (nd_of _ List.nodup_range') (sW_fst ..) (tail_put _ (sW_len ..)) rfl rfl hl.1 (Nat.le_of_ble_eq_true rfl) dL_cancel_4 ⟨(Nat.le_of_ble_eq_true rfl), (Nat.le_of_ble_eq_true rfl)⟩ rfl rfl ⟨(Nat.le_of_ble_eq_true rfl), (Nat.le_of_ble_eq_true rfl)⟩ (fun H locs h => ?_)
  refine W.eq (g2 := F0 m 7 ls [.int z.1, .int 0, .ref o]) rfl ?_
  refine lv_i2l (pc := 7) (v := z.1.toInt64) hx hb dL_cancel_7 rfl ?_
  refine g_last (pc := 8) (n := 1) (f := f) (ws' := (xL n q0 q cA z.2.1 z.2.2 o (vp_updL f 0 z.1.toInt64))) C h 0 rfl (show inb (0 : Int32) 1 from by decide) rfl dL_cancel_8 (fun H locs h => ?_)
  refine lv_goto (pc := 9) (tgt := 18) hx hb dL_cancel_9 (by decide) ?_
  refine lv_iconst (pc := 18) (v := 0) hx hb dL_cancel_18 (by decide) ?_
  exact end_W (pc := 19) C hr (by decide) (by decide) h dL_cancel_19
set_option maxHeartbeats 400000 in
set_option maxRecDepth 100000 in
theorem wT_cancel_0 {n : Nat} (hn : n ≤ 6) {q0 : Nat → Nat} {q : Nat → Nat → Nat} {cA : Nat → ClassId} {D : va_G} (σ0 : Nat → Nat → Int32) (σ : Nat → Nat → Nat → Int32) (x1 : Int32) (hf : f_X4_cancel n σ0 σ x1 = some (.inl IOB)) (o : Nat) (f : Nat → Int64) : CtW yL_cancel cL_cancel 4 [(0, 9, 12, 19), (0, 9, 15, 13)] rmW_cancel [.ref (q0 0), .int x1, .ref o] D cA (xL n q0 q cA σ0 σ o f) (xL n q0 q cA σ0 σ o f) 1 := by
  refine vxW_of (Qc := fun sz => PostU D (xL n q0 q cA σ0 σ o f) (xL n q0 q cA σ0 σ o f) sz (some (.int 1))) (by decide) (Nat.le_of_ble_eq_true rfl) ?_
  intro p l e s m below meth c ls hl0 C hr htab hX hN hR0 h hl
  have C : Cx p s m _ meth c cL_cancel 4 RL D cA := C
  obtain ⟨hx, hb, hml, hown, hts, hK, hlk⟩ := id C
  replace hl : lv_has ls 4 [(0, .ref (q0 0)), (1, .int x1), (2, .ref o)] := hl
  refine lv_aload_n (pc := 0) hx hb dL_cancel_0 rfl (lv_at hl 2 rfl) ?_
  refine lv_iconst (pc := 1) (v := 0) hx hb dL_cancel_1 (by decide) ?_
  refine lv_aload_n (pc := 2) hx hb dL_cancel_2 rfl (lv_at hl 0 rfl) ?_
  refine lv_iload_n (pc := 3) hx hb dL_cancel_3 rfl (lv_at hl 1 rfl) ?_
  refine call_C (pc := 4) (hpc := 12) (As := [.int x1]) (rest := [.int 0, .ref o]) (E := IOB) C hl0 hX hR0 h (kT_X4_cancel hn σ0 σ x1 hf) cw_L_44 1 (xL_c1 ..) rfl (List.range' 1 (sW n q0 q cA σ0 σ).length) (tail_map _ _) (nd_of _ List.nodup_range') rfl rfl hl.1 (Nat.le_of_ble_eq_true rfl) dL_cancel_4 ⟨(Nat.le_of_ble_eq_true rfl), (Nat.le_of_ble_eq_true rfl)⟩ rfl rfl ⟨(Nat.le_of_ble_eq_true rfl), (Nat.le_of_ble_eq_true rfl)⟩ (fun H1 locs1 q9 ce h1 h2 h3 k => vx_catch (name := IOB) hown [] ⟨0, 9, 12, 19⟩ [⟨0, 9, 15, 13⟩] (htab.trans rfl) (fun z hz => by cases hz) (by decide) (by decide) (hts _ cl_19) (cast_ok hX.2.1 cs1.1) h1 h2 h3 k) (fun q9 H locs h => ?_)
  refine lv_astore_n (pc := 12) (lv' := [(3, .ref q9), (0, .ref (q0 0)), (1, .int x1), (2, .ref o)]) hx hb dL_cancel_12 rfl hl (by decide) rfl (fun ls hl => ?_)
  refine lv_iconst (pc := 13) (v := 1) hx hb dL_cancel_13 (by decide) ?_
  exact end_W (pc := 14) C hr (by decide) (by decide) h dL_cancel_14
set_option maxHeartbeats 400000 in
set_option maxRecDepth 100000 in
theorem wT_cancel_1 {n : Nat} (hn : n ≤ 6) {q0 : Nat → Nat} {q : Nat → Nat → Nat} {cA : Nat → ClassId} {D : va_G} (σ0 : Nat → Nat → Int32) (σ : Nat → Nat → Nat → Int32) (x1 : Int32) (hf : f_X4_cancel n σ0 σ x1 = some (.inl ISE)) (o : Nat) (f : Nat → Int64) : CtW yL_cancel cL_cancel 4 [(0, 9, 12, 19), (0, 9, 15, 13)] rmW_cancel [.ref (q0 0), .int x1, .ref o] D cA (xL n q0 q cA σ0 σ o f) (xL n q0 q cA σ0 σ o f) 2 := by
  refine vxW_of (Qc := fun sz => PostU D (xL n q0 q cA σ0 σ o f) (xL n q0 q cA σ0 σ o f) sz (some (.int 2))) (by decide) (Nat.le_of_ble_eq_true rfl) ?_
  intro p l e s m below meth c ls hl0 C hr htab hX hN hR0 h hl
  have C : Cx p s m _ meth c cL_cancel 4 RL D cA := C
  obtain ⟨hx, hb, hml, hown, hts, hK, hlk⟩ := id C
  replace hl : lv_has ls 4 [(0, .ref (q0 0)), (1, .int x1), (2, .ref o)] := hl
  refine lv_aload_n (pc := 0) hx hb dL_cancel_0 rfl (lv_at hl 2 rfl) ?_
  refine lv_iconst (pc := 1) (v := 0) hx hb dL_cancel_1 (by decide) ?_
  refine lv_aload_n (pc := 2) hx hb dL_cancel_2 rfl (lv_at hl 0 rfl) ?_
  refine lv_iload_n (pc := 3) hx hb dL_cancel_3 rfl (lv_at hl 1 rfl) ?_
  refine call_C (pc := 4) (hpc := 15) (As := [.int x1]) (rest := [.int 0, .ref o]) (E := ISE) C hl0 hX hR0 h (kT_X4_cancel hn σ0 σ x1 hf) cw_L_44 1 (xL_c1 ..) rfl (List.range' 1 (sW n q0 q cA σ0 σ).length) (tail_map _ _) (nd_of _ List.nodup_range') rfl rfl hl.1 (Nat.le_of_ble_eq_true rfl) dL_cancel_4 ⟨(Nat.le_of_ble_eq_true rfl), (Nat.le_of_ble_eq_true rfl)⟩ rfl rfl ⟨(Nat.le_of_ble_eq_true rfl), (Nat.le_of_ble_eq_true rfl)⟩ (fun H1 locs1 q9 ce h1 h2 h3 k => vx_catch (name := ISE) hown [⟨0, 9, 12, 19⟩] ⟨0, 9, 15, 13⟩ [] (htab.trans rfl) (fun z hz => by
    rcases List.mem_cons.mp hz with rfl | hz
    · exact Or.inr ⟨by decide, IOB, hts _ cl_19, hN (ISE, IOB) (by decide +kernel)⟩
    cases hz) (by decide) (by decide) (hts _ cl_13) (cast_ok hX.2.1 cs1.2.2) h1 h2 h3 k) (fun q9 H locs h => ?_)
  refine lv_astore_n (pc := 15) (lv' := [(3, .ref q9), (0, .ref (q0 0)), (1, .int x1), (2, .ref o)]) hx hb dL_cancel_15 rfl hl (by decide) rfl (fun ls hl => ?_)
  refine lv_iconst (pc := 16) (v := 2) hx hb dL_cancel_16 (by decide) ?_
  exact end_W (pc := 17) C hr (by decide) (by decide) h dL_cancel_17
abbrev rmW_delegate : Room := { frames := 8, cells := 1, slots := 6, locals := 131 }
set_option maxHeartbeats 400000 in
set_option maxRecDepth 100000 in
theorem w_delegate {n : Nat} (hn : n ≤ 6) {q0 : Nat → Nat} {q : Nat → Nat → Nat} {cA : Nat → ClassId} {D : va_G} (σ0 : Nat → Nat → Int32) (σ : Nat → Nat → Nat → Int32) (x1 x2 x3 x4 x5 : Int32) {z : Int32 × (Nat → Nat → Int32) × (Nat → Nat → Nat → Int32)} (hf : f_X4_delegate n σ0 σ x1 x2 x3 x4 x5 = some (.inr z)) (o : Nat) (f : Nat → Int64) : CtW yL_delegate cL_delegate 8 [(0, 16, 19, 19), (0, 16, 23, 21)] rmW_delegate [.ref (q0 0), .int x1, .int x2, .int x3, .int x4, .int x5, .ref o] D cA (xL n q0 q cA σ0 σ o f) (xL n q0 q cA z.2.1 z.2.2 o (vp_updL f 0 z.1.toInt64)) 0 := by
  refine vxW_of (Qc := fun sz => PostU D (xL n q0 q cA σ0 σ o f) (xL n q0 q cA z.2.1 z.2.2 o (vp_updL f 0 z.1.toInt64)) sz (some (.int 0))) (by decide) (Nat.le_of_ble_eq_true rfl) ?_
  intro p l e s m below meth c ls hl0 C hr htab hX hN hR0 h hl
  have C : Cx p s m _ meth c cL_delegate 8 RL D cA := C
  obtain ⟨hx, hb, hml, hown, hts, hK, hlk⟩ := id C
  replace hl : lv_has ls 8 [(0, .ref (q0 0)), (1, .int x1), (2, .int x2), (3, .int x3), (4, .int x4), (5, .int x5), (6, .ref o)] := hl
  refine lv_aload (pc := 0) hx hb dL_delegate_0 (lv_at hl 6 rfl) ?_
  refine lv_iconst (pc := 2) (v := 0) hx hb dL_delegate_2 (by decide) ?_
  refine lv_aload_n (pc := 3) hx hb dL_delegate_3 rfl (lv_at hl 0 rfl) ?_
  refine lv_iload_n (pc := 4) hx hb dL_delegate_4 rfl (lv_at hl 1 rfl) ?_
  refine lv_iload_n (pc := 5) hx hb dL_delegate_5 rfl (lv_at hl 2 rfl) ?_
  refine lv_iload_n (pc := 6) hx hb dL_delegate_6 rfl (lv_at hl 3 rfl) ?_
  refine lv_iload (pc := 7) hx hb dL_delegate_7 (lv_at hl 4 rfl) ?_
  refine lv_iload (pc := 9) hx hb dL_delegate_9 (lv_at hl 5 rfl) ?_
  refine call_VU (pc := 11) (As := [.int x1, .int x2, .int x3, .int x4, .int x5]) (rest := [.int 0, .ref o]) (ws' := (xL n q0 q cA z.2.1 z.2.2 o f)) C h (k_X4_delegate hn σ0 σ x1 x2 x3 x4 x5 hf) cw_L_47 1 (xL_c1 ..) rfl (List.range' 1 (sW n q0 q cA σ0 σ).length) (tail_map _ _) (nd_of _ List.nodup_range') (sW_fst ..) (tail_put _ (sW_len ..)) rfl rfl hl.1 (Nat.le_of_ble_eq_true rfl) dL_delegate_11 ⟨(Nat.le_of_ble_eq_true rfl), (Nat.le_of_ble_eq_true rfl)⟩ rfl rfl ⟨(Nat.le_of_ble_eq_true rfl), (Nat.le_of_ble_eq_true rfl)⟩ (fun H locs h => ?_)
  refine W.eq (g2 := F0 m 14 ls [.int z.1, .int 0, .ref o]) rfl ?_
  refine lv_i2l (pc := 14) (v := z.1.toInt64) hx hb dL_delegate_14 rfl ?_
  refine g_last (pc := 15) (n := 1) (f := f) (ws' := (xL n q0 q cA z.2.1 z.2.2 o (vp_updL f 0 z.1.toInt64))) C h 0 rfl (show inb (0 : Int32) 1 from by decide) rfl dL_delegate_15 (fun H locs h => ?_)
  refine lv_goto (pc := 16) (tgt := 27) hx hb dL_delegate_16 (by decide) ?_
  refine lv_iconst (pc := 27) (v := 0) hx hb dL_delegate_27 (by decide) ?_
  exact end_W (pc := 28) C hr (by decide) (by decide) h dL_delegate_28
set_option maxHeartbeats 400000 in
set_option maxRecDepth 100000 in
theorem wT_delegate_0 {n : Nat} (hn : n ≤ 6) {q0 : Nat → Nat} {q : Nat → Nat → Nat} {cA : Nat → ClassId} {D : va_G} (σ0 : Nat → Nat → Int32) (σ : Nat → Nat → Nat → Int32) (x1 x2 x3 x4 x5 : Int32) (hf : f_X4_delegate n σ0 σ x1 x2 x3 x4 x5 = some (.inl IOB)) (o : Nat) (f : Nat → Int64) : CtW yL_delegate cL_delegate 8 [(0, 16, 19, 19), (0, 16, 23, 21)] rmW_delegate [.ref (q0 0), .int x1, .int x2, .int x3, .int x4, .int x5, .ref o] D cA (xL n q0 q cA σ0 σ o f) (xL n q0 q cA σ0 σ o f) 1 := by
  refine vxW_of (Qc := fun sz => PostU D (xL n q0 q cA σ0 σ o f) (xL n q0 q cA σ0 σ o f) sz (some (.int 1))) (by decide) (Nat.le_of_ble_eq_true rfl) ?_
  intro p l e s m below meth c ls hl0 C hr htab hX hN hR0 h hl
  have C : Cx p s m _ meth c cL_delegate 8 RL D cA := C
  obtain ⟨hx, hb, hml, hown, hts, hK, hlk⟩ := id C
  replace hl : lv_has ls 8 [(0, .ref (q0 0)), (1, .int x1), (2, .int x2), (3, .int x3), (4, .int x4), (5, .int x5), (6, .ref o)] := hl
  refine lv_aload (pc := 0) hx hb dL_delegate_0 (lv_at hl 6 rfl) ?_
  refine lv_iconst (pc := 2) (v := 0) hx hb dL_delegate_2 (by decide) ?_
  refine lv_aload_n (pc := 3) hx hb dL_delegate_3 rfl (lv_at hl 0 rfl) ?_
  refine lv_iload_n (pc := 4) hx hb dL_delegate_4 rfl (lv_at hl 1 rfl) ?_
  refine lv_iload_n (pc := 5) hx hb dL_delegate_5 rfl (lv_at hl 2 rfl) ?_
  refine lv_iload_n (pc := 6) hx hb dL_delegate_6 rfl (lv_at hl 3 rfl) ?_
  refine lv_iload (pc := 7) hx hb dL_delegate_7 (lv_at hl 4 rfl) ?_
  refine lv_iload (pc := 9) hx hb dL_delegate_9 (lv_at hl 5 rfl) ?_
  refine call_C (pc := 11) (hpc := 19) (As := [.int x1, .int x2, .int x3, .int x4, .int x5]) (rest := [.int 0, .ref o]) (E := IOB) C hl0 hX hR0 h (kT_X4_delegate hn σ0 σ x1 x2 x3 x4 x5 hf) cw_L_47 1 (xL_c1 ..) rfl (List.range' 1 (sW n q0 q cA σ0 σ).length) (tail_map _ _) (nd_of _ List.nodup_range') rfl rfl hl.1 (Nat.le_of_ble_eq_true rfl) dL_delegate_11 ⟨(Nat.le_of_ble_eq_true rfl), (Nat.le_of_ble_eq_true rfl)⟩ rfl rfl ⟨(Nat.le_of_ble_eq_true rfl), (Nat.le_of_ble_eq_true rfl)⟩ (fun H1 locs1 q9 ce h1 h2 h3 k => vx_catch (name := IOB) hown [] ⟨0, 16, 19, 19⟩ [⟨0, 16, 23, 21⟩] (htab.trans rfl) (fun z hz => by cases hz) (by decide) (by decide) (hts _ cl_19) (cast_ok hX.2.1 cs1.1) h1 h2 h3 k) (fun q9 H locs h => ?_)
  refine lv_astore (pc := 19) (lv' := [(7, .ref q9), (0, .ref (q0 0)), (1, .int x1), (2, .int x2), (3, .int x3), (4, .int x4), (5, .int x5), (6, .ref o)]) hx hb dL_delegate_19 hl (by decide) rfl (fun ls hl => ?_)
  refine lv_iconst (pc := 21) (v := 1) hx hb dL_delegate_21 (by decide) ?_
  exact end_W (pc := 22) C hr (by decide) (by decide) h dL_delegate_22
set_option maxHeartbeats 400000 in
set_option maxRecDepth 100000 in
theorem wT_delegate_1 {n : Nat} (hn : n ≤ 6) {q0 : Nat → Nat} {q : Nat → Nat → Nat} {cA : Nat → ClassId} {D : va_G} (σ0 : Nat → Nat → Int32) (σ : Nat → Nat → Nat → Int32) (x1 x2 x3 x4 x5 : Int32) (hf : f_X4_delegate n σ0 σ x1 x2 x3 x4 x5 = some (.inl IAE)) (o : Nat) (f : Nat → Int64) : CtW yL_delegate cL_delegate 8 [(0, 16, 19, 19), (0, 16, 23, 21)] rmW_delegate [.ref (q0 0), .int x1, .int x2, .int x3, .int x4, .int x5, .ref o] D cA (xL n q0 q cA σ0 σ o f) (xL n q0 q cA σ0 σ o f) 2 := by
  refine vxW_of (Qc := fun sz => PostU D (xL n q0 q cA σ0 σ o f) (xL n q0 q cA σ0 σ o f) sz (some (.int 2))) (by decide) (Nat.le_of_ble_eq_true rfl) ?_
  intro p l e s m below meth c ls hl0 C hr htab hX hN hR0 h hl
  have C : Cx p s m _ meth c cL_delegate 8 RL D cA := C
  obtain ⟨hx, hb, hml, hown, hts, hK, hlk⟩ := id C
  replace hl : lv_has ls 8 [(0, .ref (q0 0)), (1, .int x1), (2, .int x2), (3, .int x3), (4, .int x4), (5, .int x5), (6, .ref o)] := hl
  refine lv_aload (pc := 0) hx hb dL_delegate_0 (lv_at hl 6 rfl) ?_
  refine lv_iconst (pc := 2) (v := 0) hx hb dL_delegate_2 (by decide) ?_
  refine lv_aload_n (pc := 3) hx hb dL_delegate_3 rfl (lv_at hl 0 rfl) ?_
  refine lv_iload_n (pc := 4) hx hb dL_delegate_4 rfl (lv_at hl 1 rfl) ?_
  refine lv_iload_n (pc := 5) hx hb dL_delegate_5 rfl (lv_at hl 2 rfl) ?_
  refine lv_iload_n (pc := 6) hx hb dL_delegate_6 rfl (lv_at hl 3 rfl) ?_
  refine lv_iload (pc := 7) hx hb dL_delegate_7 (lv_at hl 4 rfl) ?_
  refine lv_iload (pc := 9) hx hb dL_delegate_9 (lv_at hl 5 rfl) ?_
  refine call_C (pc := 11) (hpc := 23) (As := [.int x1, .int x2, .int x3, .int x4, .int x5]) (rest := [.int 0, .ref o]) (E := IAE) C hl0 hX hR0 h (kT_X4_delegate hn σ0 σ x1 x2 x3 x4 x5 hf) cw_L_47 1 (xL_c1 ..) rfl (List.range' 1 (sW n q0 q cA σ0 σ).length) (tail_map _ _) (nd_of _ List.nodup_range') rfl rfl hl.1 (Nat.le_of_ble_eq_true rfl) dL_delegate_11 ⟨(Nat.le_of_ble_eq_true rfl), (Nat.le_of_ble_eq_true rfl)⟩ rfl rfl ⟨(Nat.le_of_ble_eq_true rfl), (Nat.le_of_ble_eq_true rfl)⟩ (fun H1 locs1 q9 ce h1 h2 h3 k => vx_catch (name := IAE) hown [⟨0, 16, 19, 19⟩] ⟨0, 16, 23, 21⟩ [] (htab.trans rfl) (fun z hz => by
    rcases List.mem_cons.mp hz with rfl | hz
    · exact Or.inr ⟨by decide, IOB, hts _ cl_19, hN (IAE, IOB) (by decide +kernel)⟩
    cases hz) (by decide) (by decide) (hts _ cl_21) (cast_ok hX.2.1 cs1.2.1) h1 h2 h3 k) (fun q9 H locs h => ?_)
  refine lv_astore (pc := 23) (lv' := [(7, .ref q9), (0, .ref (q0 0)), (1, .int x1), (2, .int x2), (3, .int x3), (4, .int x4), (5, .int x5), (6, .ref o)]) hx hb dL_delegate_23 hl (by decide) rfl (fun ls hl => ?_)
  refine lv_iconst (pc := 25) (v := 2) hx hb dL_delegate_25 (by decide) ?_
  exact end_W (pc := 26) C hr (by decide) (by decide) h dL_delegate_26
abbrev rmW_revoke : Room := { frames := 8, cells := 1, slots := 6, locals := 127 }
set_option maxHeartbeats 400000 in
set_option maxRecDepth 100000 in
theorem w_revoke {n : Nat} (hn : n ≤ 6) {q0 : Nat → Nat} {q : Nat → Nat → Nat} {cA : Nat → ClassId} {D : va_G} (σ0 : Nat → Nat → Int32) (σ : Nat → Nat → Nat → Int32) (x1 : Int32) {z : Int32 × (Nat → Nat → Int32) × (Nat → Nat → Nat → Int32)} (hf : f_X4_revoke n σ0 σ x1 = some (.inr z)) (o : Nat) (f : Nat → Int64) : CtW yL_revoke cL_revoke 4 [(0, 9, 12, 19), (0, 9, 15, 13)] rmW_revoke [.ref (q0 0), .int x1, .ref o] D cA (xL n q0 q cA σ0 σ o f) (xL n q0 q cA z.2.1 z.2.2 o (vp_updL f 0 z.1.toInt64)) 0 := by
  refine vxW_of (Qc := fun sz => PostU D (xL n q0 q cA σ0 σ o f) (xL n q0 q cA z.2.1 z.2.2 o (vp_updL f 0 z.1.toInt64)) sz (some (.int 0))) (by decide) (Nat.le_of_ble_eq_true rfl) ?_
  intro p l e s m below meth c ls hl0 C hr htab hX hN hR0 h hl
  have C : Cx p s m _ meth c cL_revoke 4 RL D cA := C
  obtain ⟨hx, hb, hml, hown, hts, hK, hlk⟩ := id C
  replace hl : lv_has ls 4 [(0, .ref (q0 0)), (1, .int x1), (2, .ref o)] := hl
  refine lv_aload_n (pc := 0) hx hb dL_revoke_0 rfl (lv_at hl 2 rfl) ?_
  refine lv_iconst (pc := 1) (v := 0) hx hb dL_revoke_1 (by decide) ?_
  refine lv_aload_n (pc := 2) hx hb dL_revoke_2 rfl (lv_at hl 0 rfl) ?_
  refine lv_iload_n (pc := 3) hx hb dL_revoke_3 rfl (lv_at hl 1 rfl) ?_
  refine call_VU (pc := 4) (As := [.int x1]) (rest := [.int 0, .ref o]) (ws' := (xL n q0 q cA z.2.1 z.2.2 o f)) C h (k_X4_revoke hn σ0 σ x1 hf) cw_L_51 1 (xL_c1 ..) rfl (List.range' 1 (sW n q0 q cA σ0 σ).length) (tail_map _ _) (nd_of _ List.nodup_range') (sW_fst ..) (tail_put _ (sW_len ..)) rfl rfl hl.1 (Nat.le_of_ble_eq_true rfl) dL_revoke_4 ⟨(Nat.le_of_ble_eq_true rfl), (Nat.le_of_ble_eq_true rfl)⟩ rfl rfl ⟨(Nat.le_of_ble_eq_true rfl), (Nat.le_of_ble_eq_true rfl)⟩ (fun H locs h => ?_)
  refine W.eq (g2 := F0 m 7 ls [.int z.1, .int 0, .ref o]) rfl ?_
  refine lv_i2l (pc := 7) (v := z.1.toInt64) hx hb dL_revoke_7 rfl ?_
  refine g_last (pc := 8) (n := 1) (f := f) (ws' := (xL n q0 q cA z.2.1 z.2.2 o (vp_updL f 0 z.1.toInt64))) C h 0 rfl (show inb (0 : Int32) 1 from by decide) rfl dL_revoke_8 (fun H locs h => ?_)
  refine lv_goto (pc := 9) (tgt := 18) hx hb dL_revoke_9 (by decide) ?_
  refine lv_iconst (pc := 18) (v := 0) hx hb dL_revoke_18 (by decide) ?_
  exact end_W (pc := 19) C hr (by decide) (by decide) h dL_revoke_19
set_option maxHeartbeats 400000 in
set_option maxRecDepth 100000 in
theorem wT_revoke_0 {n : Nat} (hn : n ≤ 6) {q0 : Nat → Nat} {q : Nat → Nat → Nat} {cA : Nat → ClassId} {D : va_G} (σ0 : Nat → Nat → Int32) (σ : Nat → Nat → Nat → Int32) (x1 : Int32) (hf : f_X4_revoke n σ0 σ x1 = some (.inl IOB)) (o : Nat) (f : Nat → Int64) : CtW yL_revoke cL_revoke 4 [(0, 9, 12, 19), (0, 9, 15, 13)] rmW_revoke [.ref (q0 0), .int x1, .ref o] D cA (xL n q0 q cA σ0 σ o f) (xL n q0 q cA σ0 σ o f) 1 := by
  refine vxW_of (Qc := fun sz => PostU D (xL n q0 q cA σ0 σ o f) (xL n q0 q cA σ0 σ o f) sz (some (.int 1))) (by decide) (Nat.le_of_ble_eq_true rfl) ?_
  intro p l e s m below meth c ls hl0 C hr htab hX hN hR0 h hl
  have C : Cx p s m _ meth c cL_revoke 4 RL D cA := C
  obtain ⟨hx, hb, hml, hown, hts, hK, hlk⟩ := id C
  replace hl : lv_has ls 4 [(0, .ref (q0 0)), (1, .int x1), (2, .ref o)] := hl
  refine lv_aload_n (pc := 0) hx hb dL_revoke_0 rfl (lv_at hl 2 rfl) ?_
  refine lv_iconst (pc := 1) (v := 0) hx hb dL_revoke_1 (by decide) ?_
  refine lv_aload_n (pc := 2) hx hb dL_revoke_2 rfl (lv_at hl 0 rfl) ?_
  refine lv_iload_n (pc := 3) hx hb dL_revoke_3 rfl (lv_at hl 1 rfl) ?_
  refine call_C (pc := 4) (hpc := 12) (As := [.int x1]) (rest := [.int 0, .ref o]) (E := IOB) C hl0 hX hR0 h (kT_X4_revoke hn σ0 σ x1 hf) cw_L_51 1 (xL_c1 ..) rfl (List.range' 1 (sW n q0 q cA σ0 σ).length) (tail_map _ _) (nd_of _ List.nodup_range') rfl rfl hl.1 (Nat.le_of_ble_eq_true rfl) dL_revoke_4 ⟨(Nat.le_of_ble_eq_true rfl), (Nat.le_of_ble_eq_true rfl)⟩ rfl rfl ⟨(Nat.le_of_ble_eq_true rfl), (Nat.le_of_ble_eq_true rfl)⟩ (fun H1 locs1 q9 ce h1 h2 h3 k => vx_catch (name := IOB) hown [] ⟨0, 9, 12, 19⟩ [⟨0, 9, 15, 13⟩] (htab.trans rfl) (fun z hz => by cases hz) (by decide) (by decide) (hts _ cl_19) (cast_ok hX.2.1 cs1.1) h1 h2 h3 k) (fun q9 H locs h => ?_)
  refine lv_astore_n (pc := 12) (lv' := [(3, .ref q9), (0, .ref (q0 0)), (1, .int x1), (2, .ref o)]) hx hb dL_revoke_12 rfl hl (by decide) rfl (fun ls hl => ?_)
  refine lv_iconst (pc := 13) (v := 1) hx hb dL_revoke_13 (by decide) ?_
  exact end_W (pc := 14) C hr (by decide) (by decide) h dL_revoke_14
set_option maxHeartbeats 400000 in
set_option maxRecDepth 100000 in
theorem wT_revoke_1 {n : Nat} (hn : n ≤ 6) {q0 : Nat → Nat} {q : Nat → Nat → Nat} {cA : Nat → ClassId} {D : va_G} (σ0 : Nat → Nat → Int32) (σ : Nat → Nat → Nat → Int32) (x1 : Int32) (hf : f_X4_revoke n σ0 σ x1 = some (.inl ISE)) (o : Nat) (f : Nat → Int64) : CtW yL_revoke cL_revoke 4 [(0, 9, 12, 19), (0, 9, 15, 13)] rmW_revoke [.ref (q0 0), .int x1, .ref o] D cA (xL n q0 q cA σ0 σ o f) (xL n q0 q cA σ0 σ o f) 2 := by
  refine vxW_of (Qc := fun sz => PostU D (xL n q0 q cA σ0 σ o f) (xL n q0 q cA σ0 σ o f) sz (some (.int 2))) (by decide) (Nat.le_of_ble_eq_true rfl) ?_
  intro p l e s m below meth c ls hl0 C hr htab hX hN hR0 h hl
  have C : Cx p s m _ meth c cL_revoke 4 RL D cA := C
  obtain ⟨hx, hb, hml, hown, hts, hK, hlk⟩ := id C
  replace hl : lv_has ls 4 [(0, .ref (q0 0)), (1, .int x1), (2, .ref o)] := hl
  refine lv_aload_n (pc := 0) hx hb dL_revoke_0 rfl (lv_at hl 2 rfl) ?_
  refine lv_iconst (pc := 1) (v := 0) hx hb dL_revoke_1 (by decide) ?_
  refine lv_aload_n (pc := 2) hx hb dL_revoke_2 rfl (lv_at hl 0 rfl) ?_
  refine lv_iload_n (pc := 3) hx hb dL_revoke_3 rfl (lv_at hl 1 rfl) ?_
  refine call_C (pc := 4) (hpc := 15) (As := [.int x1]) (rest := [.int 0, .ref o]) (E := ISE) C hl0 hX hR0 h (kT_X4_revoke hn σ0 σ x1 hf) cw_L_51 1 (xL_c1 ..) rfl (List.range' 1 (sW n q0 q cA σ0 σ).length) (tail_map _ _) (nd_of _ List.nodup_range') rfl rfl hl.1 (Nat.le_of_ble_eq_true rfl) dL_revoke_4 ⟨(Nat.le_of_ble_eq_true rfl), (Nat.le_of_ble_eq_true rfl)⟩ rfl rfl ⟨(Nat.le_of_ble_eq_true rfl), (Nat.le_of_ble_eq_true rfl)⟩ (fun H1 locs1 q9 ce h1 h2 h3 k => vx_catch (name := ISE) hown [⟨0, 9, 12, 19⟩] ⟨0, 9, 15, 13⟩ [] (htab.trans rfl) (fun z hz => by
    rcases List.mem_cons.mp hz with rfl | hz
    · exact Or.inr ⟨by decide, IOB, hts _ cl_19, hN (ISE, IOB) (by decide +kernel)⟩
    cases hz) (by decide) (by decide) (hts _ cl_13) (cast_ok hX.2.1 cs1.2.2) h1 h2 h3 k) (fun q9 H locs h => ?_)
  refine lv_astore_n (pc := 15) (lv' := [(3, .ref q9), (0, .ref (q0 0)), (1, .int x1), (2, .ref o)]) hx hb dL_revoke_15 rfl hl (by decide) rfl (fun ls hl => ?_)
  refine lv_iconst (pc := 16) (v := 2) hx hb dL_revoke_16 (by decide) ?_
  exact end_W (pc := 17) C hr (by decide) (by decide) h dL_revoke_17
abbrev rmW_delegateToday : Room := { frames := 8, cells := 1, slots := 6, locals := 125 }
set_option maxHeartbeats 400000 in
set_option maxRecDepth 100000 in
theorem w_delegateToday {n : Nat} (hn : n ≤ 6) {q0 : Nat → Nat} {q : Nat → Nat → Nat} {cA : Nat → ClassId} {D : va_G} (σ0 : Nat → Nat → Int32) (σ : Nat → Nat → Nat → Int32) (x1 : Int32) {z : Int32} (hf : f_X4_delegateToday n σ0 σ x1 = some (.inr z)) (o : Nat) (f : Nat → Int64) : CtW yL_delegateToday cL_delegateToday 4 [(0, 9, 12, 19)] rmW_delegateToday [.ref (q0 0), .int x1, .ref o] D cA (xL n q0 q cA σ0 σ o f) (xL n q0 q cA σ0 σ o (vp_updL f 0 z.toInt64)) 0 := by
  refine vxW_of (Qc := fun sz => PostU D (xL n q0 q cA σ0 σ o f) (xL n q0 q cA σ0 σ o (vp_updL f 0 z.toInt64)) sz (some (.int 0))) (by decide) (Nat.le_of_ble_eq_true rfl) ?_
  intro p l e s m below meth c ls hl0 C hr htab hX hN hR0 h hl
  have C : Cx p s m _ meth c cL_delegateToday 4 RL D cA := C
  obtain ⟨hx, hb, hml, hown, hts, hK, hlk⟩ := id C
  replace hl : lv_has ls 4 [(0, .ref (q0 0)), (1, .int x1), (2, .ref o)] := hl
  refine lv_aload_n (pc := 0) hx hb dL_delegateToday_0 rfl (lv_at hl 2 rfl) ?_
  refine lv_iconst (pc := 1) (v := 0) hx hb dL_delegateToday_1 (by decide) ?_
  refine lv_aload_n (pc := 2) hx hb dL_delegateToday_2 rfl (lv_at hl 0 rfl) ?_
  refine lv_iload_n (pc := 3) hx hb dL_delegateToday_3 rfl (lv_at hl 1 rfl) ?_
  refine call_VR (pc := 4) (As := [.int x1]) (rest := [.int 0, .ref o]) C h (k_X4_delegateToday hn σ0 σ x1 hf) cw_L_54 1 (xL_c1 ..) rfl (List.range' 1 (sW n q0 q cA σ0 σ).length) (tail_map _ _) (nd_of _ List.nodup_range') rfl rfl hl.1 (Nat.le_of_ble_eq_true rfl) dL_delegateToday_4 ⟨(Nat.le_of_ble_eq_true rfl), (Nat.le_of_ble_eq_true rfl)⟩ rfl rfl ⟨(Nat.le_of_ble_eq_true rfl), (Nat.le_of_ble_eq_true rfl)⟩ (fun H locs h => ?_)
  refine W.eq (g2 := F0 m 7 ls [.int z, .int 0, .ref o]) rfl ?_
  refine lv_i2l (pc := 7) (v := z.toInt64) hx hb dL_delegateToday_7 rfl ?_
  refine g_last (pc := 8) (n := 1) (f := f) (ws' := (xL n q0 q cA σ0 σ o (vp_updL f 0 z.toInt64))) C h 0 rfl (show inb (0 : Int32) 1 from by decide) rfl dL_delegateToday_8 (fun H locs h => ?_)
  refine lv_goto (pc := 9) (tgt := 15) hx hb dL_delegateToday_9 (by decide) ?_
  refine lv_iconst (pc := 15) (v := 0) hx hb dL_delegateToday_15 (by decide) ?_
  exact end_W (pc := 16) C hr (by decide) (by decide) h dL_delegateToday_16
set_option maxHeartbeats 400000 in
set_option maxRecDepth 100000 in
theorem wT_delegateToday_0 {n : Nat} (hn : n ≤ 6) {q0 : Nat → Nat} {q : Nat → Nat → Nat} {cA : Nat → ClassId} {D : va_G} (σ0 : Nat → Nat → Int32) (σ : Nat → Nat → Nat → Int32) (x1 : Int32) (hf : f_X4_delegateToday n σ0 σ x1 = some (.inl IOB)) (o : Nat) (f : Nat → Int64) : CtW yL_delegateToday cL_delegateToday 4 [(0, 9, 12, 19)] rmW_delegateToday [.ref (q0 0), .int x1, .ref o] D cA (xL n q0 q cA σ0 σ o f) (xL n q0 q cA σ0 σ o f) 1 := by
  refine vxW_of (Qc := fun sz => PostU D (xL n q0 q cA σ0 σ o f) (xL n q0 q cA σ0 σ o f) sz (some (.int 1))) (by decide) (Nat.le_of_ble_eq_true rfl) ?_
  intro p l e s m below meth c ls hl0 C hr htab hX hN hR0 h hl
  have C : Cx p s m _ meth c cL_delegateToday 4 RL D cA := C
  obtain ⟨hx, hb, hml, hown, hts, hK, hlk⟩ := id C
  replace hl : lv_has ls 4 [(0, .ref (q0 0)), (1, .int x1), (2, .ref o)] := hl
  refine lv_aload_n (pc := 0) hx hb dL_delegateToday_0 rfl (lv_at hl 2 rfl) ?_
  refine lv_iconst (pc := 1) (v := 0) hx hb dL_delegateToday_1 (by decide) ?_
  refine lv_aload_n (pc := 2) hx hb dL_delegateToday_2 rfl (lv_at hl 0 rfl) ?_
  refine lv_iload_n (pc := 3) hx hb dL_delegateToday_3 rfl (lv_at hl 1 rfl) ?_
  refine call_C (pc := 4) (hpc := 12) (As := [.int x1]) (rest := [.int 0, .ref o]) (E := IOB) C hl0 hX hR0 h (kT_X4_delegateToday hn σ0 σ x1 hf) cw_L_54 1 (xL_c1 ..) rfl (List.range' 1 (sW n q0 q cA σ0 σ).length) (tail_map _ _) (nd_of _ List.nodup_range') rfl rfl hl.1 (Nat.le_of_ble_eq_true rfl) dL_delegateToday_4 ⟨(Nat.le_of_ble_eq_true rfl), (Nat.le_of_ble_eq_true rfl)⟩ rfl rfl ⟨(Nat.le_of_ble_eq_true rfl), (Nat.le_of_ble_eq_true rfl)⟩ (fun H1 locs1 q9 ce h1 h2 h3 k => vx_catch (name := IOB) hown [] ⟨0, 9, 12, 19⟩ [] (htab.trans rfl) (fun z hz => by cases hz) (by decide) (by decide) (hts _ cl_19) (cast_ok hX.2.1 cs1.1) h1 h2 h3 k) (fun q9 H locs h => ?_)
  refine lv_astore_n (pc := 12) (lv' := [(3, .ref q9), (0, .ref (q0 0)), (1, .int x1), (2, .ref o)]) hx hb dL_delegateToday_12 rfl hl (by decide) rfl (fun ls hl => ?_)
  refine lv_iconst (pc := 13) (v := 1) hx hb dL_delegateToday_13 (by decide) ?_
  exact end_W (pc := 14) C hr (by decide) (by decide) h dL_delegateToday_14
abbrev rmW_signedFor : Room := { frames := 8, cells := 1, slots := 6, locals := 125 }
set_option maxHeartbeats 400000 in
set_option maxRecDepth 100000 in
theorem w_signedFor {n : Nat} (hn : n ≤ 6) {q0 : Nat → Nat} {q : Nat → Nat → Nat} {cA : Nat → ClassId} {D : va_G} (σ0 : Nat → Nat → Int32) (σ : Nat → Nat → Nat → Int32) (x1 : Int32) {z : Int32} (hf : f_X4_signedFor n σ0 σ x1 = some (.inr z)) (o : Nat) (f : Nat → Int64) : CtW yL_signedFor cL_signedFor 4 [(0, 9, 12, 19)] rmW_signedFor [.ref (q0 0), .int x1, .ref o] D cA (xL n q0 q cA σ0 σ o f) (xL n q0 q cA σ0 σ o (vp_updL f 0 z.toInt64)) 0 := by
  refine vxW_of (Qc := fun sz => PostU D (xL n q0 q cA σ0 σ o f) (xL n q0 q cA σ0 σ o (vp_updL f 0 z.toInt64)) sz (some (.int 0))) (by decide) (Nat.le_of_ble_eq_true rfl) ?_
  intro p l e s m below meth c ls hl0 C hr htab hX hN hR0 h hl
  have C : Cx p s m _ meth c cL_signedFor 4 RL D cA := C
  obtain ⟨hx, hb, hml, hown, hts, hK, hlk⟩ := id C
  replace hl : lv_has ls 4 [(0, .ref (q0 0)), (1, .int x1), (2, .ref o)] := hl
  refine lv_aload_n (pc := 0) hx hb dL_signedFor_0 rfl (lv_at hl 2 rfl) ?_
  refine lv_iconst (pc := 1) (v := 0) hx hb dL_signedFor_1 (by decide) ?_
  refine lv_aload_n (pc := 2) hx hb dL_signedFor_2 rfl (lv_at hl 0 rfl) ?_
  refine lv_iload_n (pc := 3) hx hb dL_signedFor_3 rfl (lv_at hl 1 rfl) ?_
  refine call_VR (pc := 4) (As := [.int x1]) (rest := [.int 0, .ref o]) C h (k_X4_signedFor hn σ0 σ x1 hf) cw_L_57 1 (xL_c1 ..) rfl (List.range' 1 (sW n q0 q cA σ0 σ).length) (tail_map _ _) (nd_of _ List.nodup_range') rfl rfl hl.1 (Nat.le_of_ble_eq_true rfl) dL_signedFor_4 ⟨(Nat.le_of_ble_eq_true rfl), (Nat.le_of_ble_eq_true rfl)⟩ rfl rfl ⟨(Nat.le_of_ble_eq_true rfl), (Nat.le_of_ble_eq_true rfl)⟩ (fun H locs h => ?_)
  refine W.eq (g2 := F0 m 7 ls [.int z, .int 0, .ref o]) rfl ?_
  refine lv_i2l (pc := 7) (v := z.toInt64) hx hb dL_signedFor_7 rfl ?_
  refine g_last (pc := 8) (n := 1) (f := f) (ws' := (xL n q0 q cA σ0 σ o (vp_updL f 0 z.toInt64))) C h 0 rfl (show inb (0 : Int32) 1 from by decide) rfl dL_signedFor_8 (fun H locs h => ?_)
  refine lv_goto (pc := 9) (tgt := 15) hx hb dL_signedFor_9 (by decide) ?_
  refine lv_iconst (pc := 15) (v := 0) hx hb dL_signedFor_15 (by decide) ?_
  exact end_W (pc := 16) C hr (by decide) (by decide) h dL_signedFor_16
set_option maxHeartbeats 400000 in
set_option maxRecDepth 100000 in
theorem wT_signedFor_0 {n : Nat} (hn : n ≤ 6) {q0 : Nat → Nat} {q : Nat → Nat → Nat} {cA : Nat → ClassId} {D : va_G} (σ0 : Nat → Nat → Int32) (σ : Nat → Nat → Nat → Int32) (x1 : Int32) (hf : f_X4_signedFor n σ0 σ x1 = some (.inl IOB)) (o : Nat) (f : Nat → Int64) : CtW yL_signedFor cL_signedFor 4 [(0, 9, 12, 19)] rmW_signedFor [.ref (q0 0), .int x1, .ref o] D cA (xL n q0 q cA σ0 σ o f) (xL n q0 q cA σ0 σ o f) 1 := by
  refine vxW_of (Qc := fun sz => PostU D (xL n q0 q cA σ0 σ o f) (xL n q0 q cA σ0 σ o f) sz (some (.int 1))) (by decide) (Nat.le_of_ble_eq_true rfl) ?_
  intro p l e s m below meth c ls hl0 C hr htab hX hN hR0 h hl
  have C : Cx p s m _ meth c cL_signedFor 4 RL D cA := C
  obtain ⟨hx, hb, hml, hown, hts, hK, hlk⟩ := id C
  replace hl : lv_has ls 4 [(0, .ref (q0 0)), (1, .int x1), (2, .ref o)] := hl
  refine lv_aload_n (pc := 0) hx hb dL_signedFor_0 rfl (lv_at hl 2 rfl) ?_
  refine lv_iconst (pc := 1) (v := 0) hx hb dL_signedFor_1 (by decide) ?_
  refine lv_aload_n (pc := 2) hx hb dL_signedFor_2 rfl (lv_at hl 0 rfl) ?_
  refine lv_iload_n (pc := 3) hx hb dL_signedFor_3 rfl (lv_at hl 1 rfl) ?_
  refine call_C (pc := 4) (hpc := 12) (As := [.int x1]) (rest := [.int 0, .ref o]) (E := IOB) C hl0 hX hR0 h (kT_X4_signedFor hn σ0 σ x1 hf) cw_L_57 1 (xL_c1 ..) rfl (List.range' 1 (sW n q0 q cA σ0 σ).length) (tail_map _ _) (nd_of _ List.nodup_range') rfl rfl hl.1 (Nat.le_of_ble_eq_true rfl) dL_signedFor_4 ⟨(Nat.le_of_ble_eq_true rfl), (Nat.le_of_ble_eq_true rfl)⟩ rfl rfl ⟨(Nat.le_of_ble_eq_true rfl), (Nat.le_of_ble_eq_true rfl)⟩ (fun H1 locs1 q9 ce h1 h2 h3 k => vx_catch (name := IOB) hown [] ⟨0, 9, 12, 19⟩ [] (htab.trans rfl) (fun z hz => by cases hz) (by decide) (by decide) (hts _ cl_19) (cast_ok hX.2.1 cs1.1) h1 h2 h3 k) (fun q9 H locs h => ?_)
  refine lv_astore_n (pc := 12) (lv' := [(3, .ref q9), (0, .ref (q0 0)), (1, .int x1), (2, .ref o)]) hx hb dL_signedFor_12 rfl hl (by decide) rfl (fun ls hl => ?_)
  refine lv_iconst (pc := 13) (v := 1) hx hb dL_signedFor_13 (by decide) ?_
  exact end_W (pc := 14) C hr (by decide) (by decide) h dL_signedFor_14
abbrev rmW_toSign : Room := { frames := 8, cells := 1, slots := 6, locals := 130 }
set_option maxHeartbeats 400000 in
set_option maxRecDepth 100000 in
theorem w_toSign {n : Nat} (hn : n ≤ 6) {q0 : Nat → Nat} {q : Nat → Nat → Nat} {cA : Nat → ClassId} {D : va_G} (σ0 : Nat → Nat → Int32) (σ : Nat → Nat → Nat → Int32) (x1 : Int32) {z : Int32} (hf : f_X4_toSign n σ0 σ x1 = some (.inr z)) (o : Nat) (f : Nat → Int64) : CtW yL_toSign cL_toSign 4 [(0, 9, 12, 19)] rmW_toSign [.ref (q0 0), .int x1, .ref o] D cA (xL n q0 q cA σ0 σ o f) (xL n q0 q cA σ0 σ o (vp_updL f 0 z.toInt64)) 0 := by
  refine vxW_of (Qc := fun sz => PostU D (xL n q0 q cA σ0 σ o f) (xL n q0 q cA σ0 σ o (vp_updL f 0 z.toInt64)) sz (some (.int 0))) (by decide) (Nat.le_of_ble_eq_true rfl) ?_
  intro p l e s m below meth c ls hl0 C hr htab hX hN hR0 h hl
  have C : Cx p s m _ meth c cL_toSign 4 RL D cA := C
  obtain ⟨hx, hb, hml, hown, hts, hK, hlk⟩ := id C
  replace hl : lv_has ls 4 [(0, .ref (q0 0)), (1, .int x1), (2, .ref o)] := hl
  refine lv_aload_n (pc := 0) hx hb dL_toSign_0 rfl (lv_at hl 2 rfl) ?_
  refine lv_iconst (pc := 1) (v := 0) hx hb dL_toSign_1 (by decide) ?_
  refine lv_aload_n (pc := 2) hx hb dL_toSign_2 rfl (lv_at hl 0 rfl) ?_
  refine lv_iload_n (pc := 3) hx hb dL_toSign_3 rfl (lv_at hl 1 rfl) ?_
  refine call_VR (pc := 4) (As := [.int x1]) (rest := [.int 0, .ref o]) C h (k_X4_toSign hn σ0 σ x1 hf) cw_L_60 1 (xL_c1 ..) rfl (List.range' 1 (sW n q0 q cA σ0 σ).length) (tail_map _ _) (nd_of _ List.nodup_range') rfl rfl hl.1 (Nat.le_of_ble_eq_true rfl) dL_toSign_4 ⟨(Nat.le_of_ble_eq_true rfl), (Nat.le_of_ble_eq_true rfl)⟩ rfl rfl ⟨(Nat.le_of_ble_eq_true rfl), (Nat.le_of_ble_eq_true rfl)⟩ (fun H locs h => ?_)
  refine W.eq (g2 := F0 m 7 ls [.int z, .int 0, .ref o]) rfl ?_
  refine lv_i2l (pc := 7) (v := z.toInt64) hx hb dL_toSign_7 rfl ?_
  refine g_last (pc := 8) (n := 1) (f := f) (ws' := (xL n q0 q cA σ0 σ o (vp_updL f 0 z.toInt64))) C h 0 rfl (show inb (0 : Int32) 1 from by decide) rfl dL_toSign_8 (fun H locs h => ?_)
  refine lv_goto (pc := 9) (tgt := 15) hx hb dL_toSign_9 (by decide) ?_
  refine lv_iconst (pc := 15) (v := 0) hx hb dL_toSign_15 (by decide) ?_
  exact end_W (pc := 16) C hr (by decide) (by decide) h dL_toSign_16
set_option maxHeartbeats 400000 in
set_option maxRecDepth 100000 in
theorem wT_toSign_0 {n : Nat} (hn : n ≤ 6) {q0 : Nat → Nat} {q : Nat → Nat → Nat} {cA : Nat → ClassId} {D : va_G} (σ0 : Nat → Nat → Int32) (σ : Nat → Nat → Nat → Int32) (x1 : Int32) (hf : f_X4_toSign n σ0 σ x1 = some (.inl IOB)) (o : Nat) (f : Nat → Int64) : CtW yL_toSign cL_toSign 4 [(0, 9, 12, 19)] rmW_toSign [.ref (q0 0), .int x1, .ref o] D cA (xL n q0 q cA σ0 σ o f) (xL n q0 q cA σ0 σ o f) 1 := by
  refine vxW_of (Qc := fun sz => PostU D (xL n q0 q cA σ0 σ o f) (xL n q0 q cA σ0 σ o f) sz (some (.int 1))) (by decide) (Nat.le_of_ble_eq_true rfl) ?_
  intro p l e s m below meth c ls hl0 C hr htab hX hN hR0 h hl
  have C : Cx p s m _ meth c cL_toSign 4 RL D cA := C
  obtain ⟨hx, hb, hml, hown, hts, hK, hlk⟩ := id C
  replace hl : lv_has ls 4 [(0, .ref (q0 0)), (1, .int x1), (2, .ref o)] := hl
  refine lv_aload_n (pc := 0) hx hb dL_toSign_0 rfl (lv_at hl 2 rfl) ?_
  refine lv_iconst (pc := 1) (v := 0) hx hb dL_toSign_1 (by decide) ?_
  refine lv_aload_n (pc := 2) hx hb dL_toSign_2 rfl (lv_at hl 0 rfl) ?_
  refine lv_iload_n (pc := 3) hx hb dL_toSign_3 rfl (lv_at hl 1 rfl) ?_
  refine call_C (pc := 4) (hpc := 12) (As := [.int x1]) (rest := [.int 0, .ref o]) (E := IOB) C hl0 hX hR0 h (kT_X4_toSign hn σ0 σ x1 hf) cw_L_60 1 (xL_c1 ..) rfl (List.range' 1 (sW n q0 q cA σ0 σ).length) (tail_map _ _) (nd_of _ List.nodup_range') rfl rfl hl.1 (Nat.le_of_ble_eq_true rfl) dL_toSign_4 ⟨(Nat.le_of_ble_eq_true rfl), (Nat.le_of_ble_eq_true rfl)⟩ rfl rfl ⟨(Nat.le_of_ble_eq_true rfl), (Nat.le_of_ble_eq_true rfl)⟩ (fun H1 locs1 q9 ce h1 h2 h3 k => vx_catch (name := IOB) hown [] ⟨0, 9, 12, 19⟩ [] (htab.trans rfl) (fun z hz => by cases hz) (by decide) (by decide) (hts _ cl_19) (cast_ok hX.2.1 cs1.1) h1 h2 h3 k) (fun q9 H locs h => ?_)
  refine lv_astore_n (pc := 12) (lv' := [(3, .ref q9), (0, .ref (q0 0)), (1, .int x1), (2, .ref o)]) hx hb dL_toSign_12 rfl hl (by decide) rfl (fun ls hl => ?_)
  refine lv_iconst (pc := 13) (v := 1) hx hb dL_toSign_13 (by decide) ?_
  exact end_W (pc := 14) C hr (by decide) (by decide) h dL_toSign_14
abbrev rmW_pass : Room := { frames := 7, cells := 1, slots := 6, locals := 137 }
set_option maxHeartbeats 400000 in
set_option maxRecDepth 100000 in
theorem w_pass {n : Nat} (hn : n ≤ 6) {q0 : Nat → Nat} {q : Nat → Nat → Nat} {cA : Nat → ClassId} {D : va_G} (σ0 : Nat → Nat → Int32) (σ : Nat → Nat → Nat → Int32) (x1 : Int32) {z : Int32 × (Nat → Nat → Int32) × (Nat → Nat → Nat → Int32)} (hf : f_X4_pass n σ0 σ x1 = some (.inr z)) (o : Nat) (f : Nat → Int64) : CtW yL_pass cL_pass 4 [(0, 9, 12, 21)] rmW_pass [.ref (q0 0), .int x1, .ref o] D cA (xL n q0 q cA σ0 σ o f) (xL n q0 q cA z.2.1 z.2.2 o (vp_updL f 0 z.1.toInt64)) 0 := by
  refine vxW_of (Qc := fun sz => PostU D (xL n q0 q cA σ0 σ o f) (xL n q0 q cA z.2.1 z.2.2 o (vp_updL f 0 z.1.toInt64)) sz (some (.int 0))) (by decide) (Nat.le_of_ble_eq_true rfl) ?_
  intro p l e s m below meth c ls hl0 C hr htab hX hN hR0 h hl
  have C : Cx p s m _ meth c cL_pass 4 RL D cA := C
  obtain ⟨hx, hb, hml, hown, hts, hK, hlk⟩ := id C
  replace hl : lv_has ls 4 [(0, .ref (q0 0)), (1, .int x1), (2, .ref o)] := hl
  refine lv_aload_n (pc := 0) hx hb dL_pass_0 rfl (lv_at hl 2 rfl) ?_
  refine lv_iconst (pc := 1) (v := 0) hx hb dL_pass_1 (by decide) ?_
  refine lv_aload_n (pc := 2) hx hb dL_pass_2 rfl (lv_at hl 0 rfl) ?_
  refine lv_iload_n (pc := 3) hx hb dL_pass_3 rfl (lv_at hl 1 rfl) ?_
  refine call_VU (pc := 4) (As := [.int x1]) (rest := [.int 0, .ref o]) (ws' := (xL n q0 q cA z.2.1 z.2.2 o f)) C h (k_X4_pass hn σ0 σ x1 hf) cw_L_63 1 (xL_c1 ..) rfl (List.range' 1 (sW n q0 q cA σ0 σ).length) (tail_map _ _) (nd_of _ List.nodup_range') (sW_fst ..) (tail_put _ (sW_len ..)) rfl rfl hl.1 (Nat.le_of_ble_eq_true rfl) dL_pass_4 ⟨(Nat.le_of_ble_eq_true rfl), (Nat.le_of_ble_eq_true rfl)⟩ rfl rfl ⟨(Nat.le_of_ble_eq_true rfl), (Nat.le_of_ble_eq_true rfl)⟩ (fun H locs h => ?_)
  refine W.eq (g2 := F0 m 7 ls [.int z.1, .int 0, .ref o]) rfl ?_
  refine lv_i2l (pc := 7) (v := z.1.toInt64) hx hb dL_pass_7 rfl ?_
  refine g_last (pc := 8) (n := 1) (f := f) (ws' := (xL n q0 q cA z.2.1 z.2.2 o (vp_updL f 0 z.1.toInt64))) C h 0 rfl (show inb (0 : Int32) 1 from by decide) rfl dL_pass_8 (fun H locs h => ?_)
  refine lv_goto (pc := 9) (tgt := 15) hx hb dL_pass_9 (by decide) ?_
  refine lv_iconst (pc := 15) (v := 0) hx hb dL_pass_15 (by decide) ?_
  exact end_W (pc := 16) C hr (by decide) (by decide) h dL_pass_16
set_option maxHeartbeats 400000 in
set_option maxRecDepth 100000 in
theorem wT_pass_0 {n : Nat} (hn : n ≤ 6) {q0 : Nat → Nat} {q : Nat → Nat → Nat} {cA : Nat → ClassId} {D : va_G} (σ0 : Nat → Nat → Int32) (σ : Nat → Nat → Nat → Int32) (x1 : Int32) (hf : f_X4_pass n σ0 σ x1 = some (.inl IAE)) (o : Nat) (f : Nat → Int64) : CtW yL_pass cL_pass 4 [(0, 9, 12, 21)] rmW_pass [.ref (q0 0), .int x1, .ref o] D cA (xL n q0 q cA σ0 σ o f) (xL n q0 q cA σ0 σ o f) 1 := by
  refine vxW_of (Qc := fun sz => PostU D (xL n q0 q cA σ0 σ o f) (xL n q0 q cA σ0 σ o f) sz (some (.int 1))) (by decide) (Nat.le_of_ble_eq_true rfl) ?_
  intro p l e s m below meth c ls hl0 C hr htab hX hN hR0 h hl
  have C : Cx p s m _ meth c cL_pass 4 RL D cA := C
  obtain ⟨hx, hb, hml, hown, hts, hK, hlk⟩ := id C
  replace hl : lv_has ls 4 [(0, .ref (q0 0)), (1, .int x1), (2, .ref o)] := hl
  refine lv_aload_n (pc := 0) hx hb dL_pass_0 rfl (lv_at hl 2 rfl) ?_
  refine lv_iconst (pc := 1) (v := 0) hx hb dL_pass_1 (by decide) ?_
  refine lv_aload_n (pc := 2) hx hb dL_pass_2 rfl (lv_at hl 0 rfl) ?_
  refine lv_iload_n (pc := 3) hx hb dL_pass_3 rfl (lv_at hl 1 rfl) ?_
  refine call_C (pc := 4) (hpc := 12) (As := [.int x1]) (rest := [.int 0, .ref o]) (E := IAE) C hl0 hX hR0 h (kT_X4_pass hn σ0 σ x1 hf) cw_L_63 1 (xL_c1 ..) rfl (List.range' 1 (sW n q0 q cA σ0 σ).length) (tail_map _ _) (nd_of _ List.nodup_range') rfl rfl hl.1 (Nat.le_of_ble_eq_true rfl) dL_pass_4 ⟨(Nat.le_of_ble_eq_true rfl), (Nat.le_of_ble_eq_true rfl)⟩ rfl rfl ⟨(Nat.le_of_ble_eq_true rfl), (Nat.le_of_ble_eq_true rfl)⟩ (fun H1 locs1 q9 ce h1 h2 h3 k => vx_catch (name := IAE) hown [] ⟨0, 9, 12, 21⟩ [] (htab.trans rfl) (fun z hz => by cases hz) (by decide) (by decide) (hts _ cl_21) (cast_ok hX.2.1 cs1.2.1) h1 h2 h3 k) (fun q9 H locs h => ?_)
  refine lv_astore_n (pc := 12) (lv' := [(3, .ref q9), (0, .ref (q0 0)), (1, .int x1), (2, .ref o)]) hx hb dL_pass_12 rfl hl (by decide) rfl (fun ls hl => ?_)
  refine lv_iconst (pc := 13) (v := 1) hx hb dL_pass_13 (by decide) ?_
  exact end_W (pc := 14) C hr (by decide) (by decide) h dL_pass_14
abbrev rmW_nextReminder : Room := { frames := 8, cells := 1, slots := 6, locals := 125 }
set_option maxHeartbeats 400000 in
set_option maxRecDepth 100000 in
theorem w_nextReminder {n : Nat} (hn : n ≤ 6) {q0 : Nat → Nat} {q : Nat → Nat → Nat} {cA : Nat → ClassId} {D : va_G} (σ0 : Nat → Nat → Int32) (σ : Nat → Nat → Nat → Int32) (x1 : Int32) {z : Int32} (hf : f_X4_nextReminder n σ0 σ x1 = some (.inr z)) (o : Nat) (f : Nat → Int64) : CtW yL_nextReminder cL_nextReminder 4 [(0, 9, 12, 19)] rmW_nextReminder [.ref (q0 0), .int x1, .ref o] D cA (xL n q0 q cA σ0 σ o f) (xL n q0 q cA σ0 σ o (vp_updL f 0 z.toInt64)) 0 := by
  refine vxW_of (Qc := fun sz => PostU D (xL n q0 q cA σ0 σ o f) (xL n q0 q cA σ0 σ o (vp_updL f 0 z.toInt64)) sz (some (.int 0))) (by decide) (Nat.le_of_ble_eq_true rfl) ?_
  intro p l e s m below meth c ls hl0 C hr htab hX hN hR0 h hl
  have C : Cx p s m _ meth c cL_nextReminder 4 RL D cA := C
  obtain ⟨hx, hb, hml, hown, hts, hK, hlk⟩ := id C
  replace hl : lv_has ls 4 [(0, .ref (q0 0)), (1, .int x1), (2, .ref o)] := hl
  refine lv_aload_n (pc := 0) hx hb dL_nextReminder_0 rfl (lv_at hl 2 rfl) ?_
  refine lv_iconst (pc := 1) (v := 0) hx hb dL_nextReminder_1 (by decide) ?_
  refine lv_aload_n (pc := 2) hx hb dL_nextReminder_2 rfl (lv_at hl 0 rfl) ?_
  refine lv_iload_n (pc := 3) hx hb dL_nextReminder_3 rfl (lv_at hl 1 rfl) ?_
  refine call_VR (pc := 4) (As := [.int x1]) (rest := [.int 0, .ref o]) C h (k_X4_nextReminder hn σ0 σ x1 hf) cw_L_66 1 (xL_c1 ..) rfl (List.range' 1 (sW n q0 q cA σ0 σ).length) (tail_map _ _) (nd_of _ List.nodup_range') rfl rfl hl.1 (Nat.le_of_ble_eq_true rfl) dL_nextReminder_4 ⟨(Nat.le_of_ble_eq_true rfl), (Nat.le_of_ble_eq_true rfl)⟩ rfl rfl ⟨(Nat.le_of_ble_eq_true rfl), (Nat.le_of_ble_eq_true rfl)⟩ (fun H locs h => ?_)
  refine W.eq (g2 := F0 m 7 ls [.int z, .int 0, .ref o]) rfl ?_
  refine lv_i2l (pc := 7) (v := z.toInt64) hx hb dL_nextReminder_7 rfl ?_
  refine g_last (pc := 8) (n := 1) (f := f) (ws' := (xL n q0 q cA σ0 σ o (vp_updL f 0 z.toInt64))) C h 0 rfl (show inb (0 : Int32) 1 from by decide) rfl dL_nextReminder_8 (fun H locs h => ?_)
  refine lv_goto (pc := 9) (tgt := 15) hx hb dL_nextReminder_9 (by decide) ?_
  refine lv_iconst (pc := 15) (v := 0) hx hb dL_nextReminder_15 (by decide) ?_
  exact end_W (pc := 16) C hr (by decide) (by decide) h dL_nextReminder_16
set_option maxHeartbeats 400000 in
set_option maxRecDepth 100000 in
theorem wT_nextReminder_0 {n : Nat} (hn : n ≤ 6) {q0 : Nat → Nat} {q : Nat → Nat → Nat} {cA : Nat → ClassId} {D : va_G} (σ0 : Nat → Nat → Int32) (σ : Nat → Nat → Nat → Int32) (x1 : Int32) (hf : f_X4_nextReminder n σ0 σ x1 = some (.inl IOB)) (o : Nat) (f : Nat → Int64) : CtW yL_nextReminder cL_nextReminder 4 [(0, 9, 12, 19)] rmW_nextReminder [.ref (q0 0), .int x1, .ref o] D cA (xL n q0 q cA σ0 σ o f) (xL n q0 q cA σ0 σ o f) 1 := by
  refine vxW_of (Qc := fun sz => PostU D (xL n q0 q cA σ0 σ o f) (xL n q0 q cA σ0 σ o f) sz (some (.int 1))) (by decide) (Nat.le_of_ble_eq_true rfl) ?_
  intro p l e s m below meth c ls hl0 C hr htab hX hN hR0 h hl
  have C : Cx p s m _ meth c cL_nextReminder 4 RL D cA := C
  obtain ⟨hx, hb, hml, hown, hts, hK, hlk⟩ := id C
  replace hl : lv_has ls 4 [(0, .ref (q0 0)), (1, .int x1), (2, .ref o)] := hl
  refine lv_aload_n (pc := 0) hx hb dL_nextReminder_0 rfl (lv_at hl 2 rfl) ?_
  refine lv_iconst (pc := 1) (v := 0) hx hb dL_nextReminder_1 (by decide) ?_
  refine lv_aload_n (pc := 2) hx hb dL_nextReminder_2 rfl (lv_at hl 0 rfl) ?_
  refine lv_iload_n (pc := 3) hx hb dL_nextReminder_3 rfl (lv_at hl 1 rfl) ?_
  refine call_C (pc := 4) (hpc := 12) (As := [.int x1]) (rest := [.int 0, .ref o]) (E := IOB) C hl0 hX hR0 h (kT_X4_nextReminder hn σ0 σ x1 hf) cw_L_66 1 (xL_c1 ..) rfl (List.range' 1 (sW n q0 q cA σ0 σ).length) (tail_map _ _) (nd_of _ List.nodup_range') rfl rfl hl.1 (Nat.le_of_ble_eq_true rfl) dL_nextReminder_4 ⟨(Nat.le_of_ble_eq_true rfl), (Nat.le_of_ble_eq_true rfl)⟩ rfl rfl ⟨(Nat.le_of_ble_eq_true rfl), (Nat.le_of_ble_eq_true rfl)⟩ (fun H1 locs1 q9 ce h1 h2 h3 k => vx_catch (name := IOB) hown [] ⟨0, 9, 12, 19⟩ [] (htab.trans rfl) (fun z hz => by cases hz) (by decide) (by decide) (hts _ cl_19) (cast_ok hX.2.1 cs1.1) h1 h2 h3 k) (fun q9 H locs h => ?_)
  refine lv_astore_n (pc := 12) (lv' := [(3, .ref q9), (0, .ref (q0 0)), (1, .int x1), (2, .ref o)]) hx hb dL_nextReminder_12 rfl hl (by decide) rfl (fun ls hl => ?_)
  refine lv_iconst (pc := 13) (v := 1) hx hb dL_nextReminder_13 (by decide) ?_
  exact end_W (pc := 14) C hr (by decide) (by decide) h dL_nextReminder_14
abbrev rmW_state : Room := { frames := 8, cells := 1, slots := 6, locals := 125 }
set_option maxHeartbeats 400000 in
set_option maxRecDepth 100000 in
theorem w_state {n : Nat} (hn : n ≤ 6) {q0 : Nat → Nat} {q : Nat → Nat → Nat} {cA : Nat → ClassId} {D : va_G} (σ0 : Nat → Nat → Int32) (σ : Nat → Nat → Nat → Int32) (x1 : Int32) {z : Int32} (hf : f_X4_state n σ0 σ x1 = some (.inr z)) (o : Nat) (f : Nat → Int64) : CtW yL_state cL_state 4 [(0, 9, 12, 19)] rmW_state [.ref (q0 0), .int x1, .ref o] D cA (xL n q0 q cA σ0 σ o f) (xL n q0 q cA σ0 σ o (vp_updL f 0 z.toInt64)) 0 := by
  refine vxW_of (Qc := fun sz => PostU D (xL n q0 q cA σ0 σ o f) (xL n q0 q cA σ0 σ o (vp_updL f 0 z.toInt64)) sz (some (.int 0))) (by decide) (Nat.le_of_ble_eq_true rfl) ?_
  intro p l e s m below meth c ls hl0 C hr htab hX hN hR0 h hl
  have C : Cx p s m _ meth c cL_state 4 RL D cA := C
  obtain ⟨hx, hb, hml, hown, hts, hK, hlk⟩ := id C
  replace hl : lv_has ls 4 [(0, .ref (q0 0)), (1, .int x1), (2, .ref o)] := hl
  refine lv_aload_n (pc := 0) hx hb dL_state_0 rfl (lv_at hl 2 rfl) ?_
  refine lv_iconst (pc := 1) (v := 0) hx hb dL_state_1 (by decide) ?_
  refine lv_aload_n (pc := 2) hx hb dL_state_2 rfl (lv_at hl 0 rfl) ?_
  refine lv_iload_n (pc := 3) hx hb dL_state_3 rfl (lv_at hl 1 rfl) ?_
  refine call_VR (pc := 4) (As := [.int x1]) (rest := [.int 0, .ref o]) C h (k_X4_state hn σ0 σ x1 hf) cw_L_69 1 (xL_c1 ..) rfl (List.range' 1 (sW n q0 q cA σ0 σ).length) (tail_map _ _) (nd_of _ List.nodup_range') rfl rfl hl.1 (Nat.le_of_ble_eq_true rfl) dL_state_4 ⟨(Nat.le_of_ble_eq_true rfl), (Nat.le_of_ble_eq_true rfl)⟩ rfl rfl ⟨(Nat.le_of_ble_eq_true rfl), (Nat.le_of_ble_eq_true rfl)⟩ (fun H locs h => ?_)
  refine W.eq (g2 := F0 m 7 ls [.int z, .int 0, .ref o]) rfl ?_
  refine lv_i2l (pc := 7) (v := z.toInt64) hx hb dL_state_7 rfl ?_
  refine g_last (pc := 8) (n := 1) (f := f) (ws' := (xL n q0 q cA σ0 σ o (vp_updL f 0 z.toInt64))) C h 0 rfl (show inb (0 : Int32) 1 from by decide) rfl dL_state_8 (fun H locs h => ?_)
  refine lv_goto (pc := 9) (tgt := 15) hx hb dL_state_9 (by decide) ?_
  refine lv_iconst (pc := 15) (v := 0) hx hb dL_state_15 (by decide) ?_
  exact end_W (pc := 16) C hr (by decide) (by decide) h dL_state_16
set_option maxHeartbeats 400000 in
set_option maxRecDepth 100000 in
theorem wT_state_0 {n : Nat} (hn : n ≤ 6) {q0 : Nat → Nat} {q : Nat → Nat → Nat} {cA : Nat → ClassId} {D : va_G} (σ0 : Nat → Nat → Int32) (σ : Nat → Nat → Nat → Int32) (x1 : Int32) (hf : f_X4_state n σ0 σ x1 = some (.inl IOB)) (o : Nat) (f : Nat → Int64) : CtW yL_state cL_state 4 [(0, 9, 12, 19)] rmW_state [.ref (q0 0), .int x1, .ref o] D cA (xL n q0 q cA σ0 σ o f) (xL n q0 q cA σ0 σ o f) 1 := by
  refine vxW_of (Qc := fun sz => PostU D (xL n q0 q cA σ0 σ o f) (xL n q0 q cA σ0 σ o f) sz (some (.int 1))) (by decide) (Nat.le_of_ble_eq_true rfl) ?_
  intro p l e s m below meth c ls hl0 C hr htab hX hN hR0 h hl
  have C : Cx p s m _ meth c cL_state 4 RL D cA := C
  obtain ⟨hx, hb, hml, hown, hts, hK, hlk⟩ := id C
  replace hl : lv_has ls 4 [(0, .ref (q0 0)), (1, .int x1), (2, .ref o)] := hl
  refine lv_aload_n (pc := 0) hx hb dL_state_0 rfl (lv_at hl 2 rfl) ?_
  refine lv_iconst (pc := 1) (v := 0) hx hb dL_state_1 (by decide) ?_
  refine lv_aload_n (pc := 2) hx hb dL_state_2 rfl (lv_at hl 0 rfl) ?_
  refine lv_iload_n (pc := 3) hx hb dL_state_3 rfl (lv_at hl 1 rfl) ?_
  refine call_C (pc := 4) (hpc := 12) (As := [.int x1]) (rest := [.int 0, .ref o]) (E := IOB) C hl0 hX hR0 h (kT_X4_state hn σ0 σ x1 hf) cw_L_69 1 (xL_c1 ..) rfl (List.range' 1 (sW n q0 q cA σ0 σ).length) (tail_map _ _) (nd_of _ List.nodup_range') rfl rfl hl.1 (Nat.le_of_ble_eq_true rfl) dL_state_4 ⟨(Nat.le_of_ble_eq_true rfl), (Nat.le_of_ble_eq_true rfl)⟩ rfl rfl ⟨(Nat.le_of_ble_eq_true rfl), (Nat.le_of_ble_eq_true rfl)⟩ (fun H1 locs1 q9 ce h1 h2 h3 k => vx_catch (name := IOB) hown [] ⟨0, 9, 12, 19⟩ [] (htab.trans rfl) (fun z hz => by cases hz) (by decide) (by decide) (hts _ cl_19) (cast_ok hX.2.1 cs1.1) h1 h2 h3 k) (fun q9 H locs h => ?_)
  refine lv_astore_n (pc := 12) (lv' := [(3, .ref q9), (0, .ref (q0 0)), (1, .int x1), (2, .ref o)]) hx hb dL_state_12 rfl hl (by decide) rfl (fun ls hl => ?_)
  refine lv_iconst (pc := 13) (v := 1) hx hb dL_state_13 (by decide) ?_
  exact end_W (pc := 14) C hr (by decide) (by decide) h dL_state_14
abbrev rmW_slots : Room := { frames := 8, cells := 1, slots := 6, locals := 125 }
set_option maxHeartbeats 400000 in
set_option maxRecDepth 100000 in
theorem w_slots {n : Nat} (hn : n ≤ 6) {q0 : Nat → Nat} {q : Nat → Nat → Nat} {cA : Nat → ClassId} {D : va_G} (σ0 : Nat → Nat → Int32) (σ : Nat → Nat → Nat → Int32) (x1 : Int32) {z : Int32} (hf : f_X4_slots n σ0 σ x1 = some (.inr z)) (o : Nat) (f : Nat → Int64) : CtW yL_slots cL_slots 4 [(0, 9, 12, 19)] rmW_slots [.ref (q0 0), .int x1, .ref o] D cA (xL n q0 q cA σ0 σ o f) (xL n q0 q cA σ0 σ o (vp_updL f 0 z.toInt64)) 0 := by
  refine vxW_of (Qc := fun sz => PostU D (xL n q0 q cA σ0 σ o f) (xL n q0 q cA σ0 σ o (vp_updL f 0 z.toInt64)) sz (some (.int 0))) (by decide) (Nat.le_of_ble_eq_true rfl) ?_
  intro p l e s m below meth c ls hl0 C hr htab hX hN hR0 h hl
  have C : Cx p s m _ meth c cL_slots 4 RL D cA := C
  obtain ⟨hx, hb, hml, hown, hts, hK, hlk⟩ := id C
  replace hl : lv_has ls 4 [(0, .ref (q0 0)), (1, .int x1), (2, .ref o)] := hl
  refine lv_aload_n (pc := 0) hx hb dL_slots_0 rfl (lv_at hl 2 rfl) ?_
  refine lv_iconst (pc := 1) (v := 0) hx hb dL_slots_1 (by decide) ?_
  refine lv_aload_n (pc := 2) hx hb dL_slots_2 rfl (lv_at hl 0 rfl) ?_
  refine lv_iload_n (pc := 3) hx hb dL_slots_3 rfl (lv_at hl 1 rfl) ?_
  refine call_VR (pc := 4) (As := [.int x1]) (rest := [.int 0, .ref o]) C h (k_X4_slots hn σ0 σ x1 hf) cw_L_72 1 (xL_c1 ..) rfl (List.range' 1 (sW n q0 q cA σ0 σ).length) (tail_map _ _) (nd_of _ List.nodup_range') rfl rfl hl.1 (Nat.le_of_ble_eq_true rfl) dL_slots_4 ⟨(Nat.le_of_ble_eq_true rfl), (Nat.le_of_ble_eq_true rfl)⟩ rfl rfl ⟨(Nat.le_of_ble_eq_true rfl), (Nat.le_of_ble_eq_true rfl)⟩ (fun H locs h => ?_)
  refine W.eq (g2 := F0 m 7 ls [.int z, .int 0, .ref o]) rfl ?_
  refine lv_i2l (pc := 7) (v := z.toInt64) hx hb dL_slots_7 rfl ?_
  refine g_last (pc := 8) (n := 1) (f := f) (ws' := (xL n q0 q cA σ0 σ o (vp_updL f 0 z.toInt64))) C h 0 rfl (show inb (0 : Int32) 1 from by decide) rfl dL_slots_8 (fun H locs h => ?_)
  refine lv_goto (pc := 9) (tgt := 15) hx hb dL_slots_9 (by decide) ?_
  refine lv_iconst (pc := 15) (v := 0) hx hb dL_slots_15 (by decide) ?_
  exact end_W (pc := 16) C hr (by decide) (by decide) h dL_slots_16
set_option maxHeartbeats 400000 in
set_option maxRecDepth 100000 in
theorem wT_slots_0 {n : Nat} (hn : n ≤ 6) {q0 : Nat → Nat} {q : Nat → Nat → Nat} {cA : Nat → ClassId} {D : va_G} (σ0 : Nat → Nat → Int32) (σ : Nat → Nat → Nat → Int32) (x1 : Int32) (hf : f_X4_slots n σ0 σ x1 = some (.inl IOB)) (o : Nat) (f : Nat → Int64) : CtW yL_slots cL_slots 4 [(0, 9, 12, 19)] rmW_slots [.ref (q0 0), .int x1, .ref o] D cA (xL n q0 q cA σ0 σ o f) (xL n q0 q cA σ0 σ o f) 1 := by
  refine vxW_of (Qc := fun sz => PostU D (xL n q0 q cA σ0 σ o f) (xL n q0 q cA σ0 σ o f) sz (some (.int 1))) (by decide) (Nat.le_of_ble_eq_true rfl) ?_
  intro p l e s m below meth c ls hl0 C hr htab hX hN hR0 h hl
  have C : Cx p s m _ meth c cL_slots 4 RL D cA := C
  obtain ⟨hx, hb, hml, hown, hts, hK, hlk⟩ := id C
  replace hl : lv_has ls 4 [(0, .ref (q0 0)), (1, .int x1), (2, .ref o)] := hl
  refine lv_aload_n (pc := 0) hx hb dL_slots_0 rfl (lv_at hl 2 rfl) ?_
  refine lv_iconst (pc := 1) (v := 0) hx hb dL_slots_1 (by decide) ?_
  refine lv_aload_n (pc := 2) hx hb dL_slots_2 rfl (lv_at hl 0 rfl) ?_
  refine lv_iload_n (pc := 3) hx hb dL_slots_3 rfl (lv_at hl 1 rfl) ?_
  refine call_C (pc := 4) (hpc := 12) (As := [.int x1]) (rest := [.int 0, .ref o]) (E := IOB) C hl0 hX hR0 h (kT_X4_slots hn σ0 σ x1 hf) cw_L_72 1 (xL_c1 ..) rfl (List.range' 1 (sW n q0 q cA σ0 σ).length) (tail_map _ _) (nd_of _ List.nodup_range') rfl rfl hl.1 (Nat.le_of_ble_eq_true rfl) dL_slots_4 ⟨(Nat.le_of_ble_eq_true rfl), (Nat.le_of_ble_eq_true rfl)⟩ rfl rfl ⟨(Nat.le_of_ble_eq_true rfl), (Nat.le_of_ble_eq_true rfl)⟩ (fun H1 locs1 q9 ce h1 h2 h3 k => vx_catch (name := IOB) hown [] ⟨0, 9, 12, 19⟩ [] (htab.trans rfl) (fun z hz => by cases hz) (by decide) (by decide) (hts _ cl_19) (cast_ok hX.2.1 cs1.1) h1 h2 h3 k) (fun q9 H locs h => ?_)
  refine lv_astore_n (pc := 12) (lv' := [(3, .ref q9), (0, .ref (q0 0)), (1, .int x1), (2, .ref o)]) hx hb dL_slots_12 rfl hl (by decide) rfl (fun ls hl => ?_)
  refine lv_iconst (pc := 13) (v := 1) hx hb dL_slots_13 (by decide) ?_
  exact end_W (pc := 14) C hr (by decide) (by decide) h dL_slots_14
abbrev rmW_slotState : Room := { frames := 8, cells := 1, slots := 6, locals := 127 }
set_option maxHeartbeats 400000 in
set_option maxRecDepth 100000 in
theorem w_slotState {n : Nat} (hn : n ≤ 6) {q0 : Nat → Nat} {q : Nat → Nat → Nat} {cA : Nat → ClassId} {D : va_G} (σ0 : Nat → Nat → Int32) (σ : Nat → Nat → Nat → Int32) (x1 x2 : Int32) {z : Int32} (hf : f_X4_slotState n σ0 σ x1 x2 = some (.inr z)) (o : Nat) (f : Nat → Int64) : CtW yL_slotState cL_slotState 5 [(0, 10, 13, 19)] rmW_slotState [.ref (q0 0), .int x1, .int x2, .ref o] D cA (xL n q0 q cA σ0 σ o f) (xL n q0 q cA σ0 σ o (vp_updL f 0 z.toInt64)) 0 := by
  refine vxW_of (Qc := fun sz => PostU D (xL n q0 q cA σ0 σ o f) (xL n q0 q cA σ0 σ o (vp_updL f 0 z.toInt64)) sz (some (.int 0))) (by decide) (Nat.le_of_ble_eq_true rfl) ?_
  intro p l e s m below meth c ls hl0 C hr htab hX hN hR0 h hl
  have C : Cx p s m _ meth c cL_slotState 5 RL D cA := C
  obtain ⟨hx, hb, hml, hown, hts, hK, hlk⟩ := id C
  replace hl : lv_has ls 5 [(0, .ref (q0 0)), (1, .int x1), (2, .int x2), (3, .ref o)] := hl
  refine lv_aload_n (pc := 0) hx hb dL_slotState_0 rfl (lv_at hl 3 rfl) ?_
  refine lv_iconst (pc := 1) (v := 0) hx hb dL_slotState_1 (by decide) ?_
  refine lv_aload_n (pc := 2) hx hb dL_slotState_2 rfl (lv_at hl 0 rfl) ?_
  refine lv_iload_n (pc := 3) hx hb dL_slotState_3 rfl (lv_at hl 1 rfl) ?_
  refine lv_iload_n (pc := 4) hx hb dL_slotState_4 rfl (lv_at hl 2 rfl) ?_
  refine call_VR (pc := 5) (As := [.int x1, .int x2]) (rest := [.int 0, .ref o]) C h (k_X4_slotState hn σ0 σ x1 x2 hf) cw_L_75 1 (xL_c1 ..) rfl (List.range' 1 (sW n q0 q cA σ0 σ).length) (tail_map _ _) (nd_of _ List.nodup_range') rfl rfl hl.1 (Nat.le_of_ble_eq_true rfl) dL_slotState_5 ⟨(Nat.le_of_ble_eq_true rfl), (Nat.le_of_ble_eq_true rfl)⟩ rfl rfl ⟨(Nat.le_of_ble_eq_true rfl), (Nat.le_of_ble_eq_true rfl)⟩ (fun H locs h => ?_)
  refine W.eq (g2 := F0 m 8 ls [.int z, .int 0, .ref o]) rfl ?_
  refine lv_i2l (pc := 8) (v := z.toInt64) hx hb dL_slotState_8 rfl ?_
  refine g_last (pc := 9) (n := 1) (f := f) (ws' := (xL n q0 q cA σ0 σ o (vp_updL f 0 z.toInt64))) C h 0 rfl (show inb (0 : Int32) 1 from by decide) rfl dL_slotState_9 (fun H locs h => ?_)
  refine lv_goto (pc := 10) (tgt := 17) hx hb dL_slotState_10 (by decide) ?_
  refine lv_iconst (pc := 17) (v := 0) hx hb dL_slotState_17 (by decide) ?_
  exact end_W (pc := 18) C hr (by decide) (by decide) h dL_slotState_18
set_option maxHeartbeats 400000 in
set_option maxRecDepth 100000 in
theorem wT_slotState_0 {n : Nat} (hn : n ≤ 6) {q0 : Nat → Nat} {q : Nat → Nat → Nat} {cA : Nat → ClassId} {D : va_G} (σ0 : Nat → Nat → Int32) (σ : Nat → Nat → Nat → Int32) (x1 x2 : Int32) (hf : f_X4_slotState n σ0 σ x1 x2 = some (.inl IOB)) (o : Nat) (f : Nat → Int64) : CtW yL_slotState cL_slotState 5 [(0, 10, 13, 19)] rmW_slotState [.ref (q0 0), .int x1, .int x2, .ref o] D cA (xL n q0 q cA σ0 σ o f) (xL n q0 q cA σ0 σ o f) 1 := by
  refine vxW_of (Qc := fun sz => PostU D (xL n q0 q cA σ0 σ o f) (xL n q0 q cA σ0 σ o f) sz (some (.int 1))) (by decide) (Nat.le_of_ble_eq_true rfl) ?_
  intro p l e s m below meth c ls hl0 C hr htab hX hN hR0 h hl
  have C : Cx p s m _ meth c cL_slotState 5 RL D cA := C
  obtain ⟨hx, hb, hml, hown, hts, hK, hlk⟩ := id C
  replace hl : lv_has ls 5 [(0, .ref (q0 0)), (1, .int x1), (2, .int x2), (3, .ref o)] := hl
  refine lv_aload_n (pc := 0) hx hb dL_slotState_0 rfl (lv_at hl 3 rfl) ?_
  refine lv_iconst (pc := 1) (v := 0) hx hb dL_slotState_1 (by decide) ?_
  refine lv_aload_n (pc := 2) hx hb dL_slotState_2 rfl (lv_at hl 0 rfl) ?_
  refine lv_iload_n (pc := 3) hx hb dL_slotState_3 rfl (lv_at hl 1 rfl) ?_
  refine lv_iload_n (pc := 4) hx hb dL_slotState_4 rfl (lv_at hl 2 rfl) ?_
  refine call_C (pc := 5) (hpc := 13) (As := [.int x1, .int x2]) (rest := [.int 0, .ref o]) (E := IOB) C hl0 hX hR0 h (kT_X4_slotState hn σ0 σ x1 x2 hf) cw_L_75 1 (xL_c1 ..) rfl (List.range' 1 (sW n q0 q cA σ0 σ).length) (tail_map _ _) (nd_of _ List.nodup_range') rfl rfl hl.1 (Nat.le_of_ble_eq_true rfl) dL_slotState_5 ⟨(Nat.le_of_ble_eq_true rfl), (Nat.le_of_ble_eq_true rfl)⟩ rfl rfl ⟨(Nat.le_of_ble_eq_true rfl), (Nat.le_of_ble_eq_true rfl)⟩ (fun H1 locs1 q9 ce h1 h2 h3 k => vx_catch (name := IOB) hown [] ⟨0, 10, 13, 19⟩ [] (htab.trans rfl) (fun z hz => by cases hz) (by decide) (by decide) (hts _ cl_19) (cast_ok hX.2.1 cs1.1) h1 h2 h3 k) (fun q9 H locs h => ?_)
  refine lv_astore (pc := 13) (lv' := [(4, .ref q9), (0, .ref (q0 0)), (1, .int x1), (2, .int x2), (3, .ref o)]) hx hb dL_slotState_13 hl (by decide) rfl (fun ls hl => ?_)
  refine lv_iconst (pc := 15) (v := 1) hx hb dL_slotState_15 (by decide) ?_
  exact end_W (pc := 16) C hr (by decide) (by decide) h dL_slotState_16
abbrev rmW_missing : Room := { frames := 8, cells := 1, slots := 6, locals := 127 }
set_option maxHeartbeats 400000 in
set_option maxRecDepth 100000 in
theorem w_missing {n : Nat} (hn : n ≤ 6) {q0 : Nat → Nat} {q : Nat → Nat → Nat} {cA : Nat → ClassId} {D : va_G} (σ0 : Nat → Nat → Int32) (σ : Nat → Nat → Nat → Int32) (x1 x2 : Int32) {z : Int32} (hf : f_X4_missing n σ0 σ x1 x2 = some (.inr z)) (o : Nat) (f : Nat → Int64) : CtW yL_missing cL_missing 5 [(0, 10, 13, 19)] rmW_missing [.ref (q0 0), .int x1, .int x2, .ref o] D cA (xL n q0 q cA σ0 σ o f) (xL n q0 q cA σ0 σ o (vp_updL f 0 z.toInt64)) 0 := by
  refine vxW_of (Qc := fun sz => PostU D (xL n q0 q cA σ0 σ o f) (xL n q0 q cA σ0 σ o (vp_updL f 0 z.toInt64)) sz (some (.int 0))) (by decide) (Nat.le_of_ble_eq_true rfl) ?_
  intro p l e s m below meth c ls hl0 C hr htab hX hN hR0 h hl
  have C : Cx p s m _ meth c cL_missing 5 RL D cA := C
  obtain ⟨hx, hb, hml, hown, hts, hK, hlk⟩ := id C
  replace hl : lv_has ls 5 [(0, .ref (q0 0)), (1, .int x1), (2, .int x2), (3, .ref o)] := hl
  refine lv_aload_n (pc := 0) hx hb dL_missing_0 rfl (lv_at hl 3 rfl) ?_
  refine lv_iconst (pc := 1) (v := 0) hx hb dL_missing_1 (by decide) ?_
  refine lv_aload_n (pc := 2) hx hb dL_missing_2 rfl (lv_at hl 0 rfl) ?_
  refine lv_iload_n (pc := 3) hx hb dL_missing_3 rfl (lv_at hl 1 rfl) ?_
  refine lv_iload_n (pc := 4) hx hb dL_missing_4 rfl (lv_at hl 2 rfl) ?_
  refine call_VR (pc := 5) (As := [.int x1, .int x2]) (rest := [.int 0, .ref o]) C h (k_X4_missing hn σ0 σ x1 x2 hf) cw_L_78 1 (xL_c1 ..) rfl (List.range' 1 (sW n q0 q cA σ0 σ).length) (tail_map _ _) (nd_of _ List.nodup_range') rfl rfl hl.1 (Nat.le_of_ble_eq_true rfl) dL_missing_5 ⟨(Nat.le_of_ble_eq_true rfl), (Nat.le_of_ble_eq_true rfl)⟩ rfl rfl ⟨(Nat.le_of_ble_eq_true rfl), (Nat.le_of_ble_eq_true rfl)⟩ (fun H locs h => ?_)
  refine W.eq (g2 := F0 m 8 ls [.int z, .int 0, .ref o]) rfl ?_
  refine lv_i2l (pc := 8) (v := z.toInt64) hx hb dL_missing_8 rfl ?_
  refine g_last (pc := 9) (n := 1) (f := f) (ws' := (xL n q0 q cA σ0 σ o (vp_updL f 0 z.toInt64))) C h 0 rfl (show inb (0 : Int32) 1 from by decide) rfl dL_missing_9 (fun H locs h => ?_)
  refine lv_goto (pc := 10) (tgt := 17) hx hb dL_missing_10 (by decide) ?_
  refine lv_iconst (pc := 17) (v := 0) hx hb dL_missing_17 (by decide) ?_
  exact end_W (pc := 18) C hr (by decide) (by decide) h dL_missing_18
set_option maxHeartbeats 400000 in
set_option maxRecDepth 100000 in
theorem wT_missing_0 {n : Nat} (hn : n ≤ 6) {q0 : Nat → Nat} {q : Nat → Nat → Nat} {cA : Nat → ClassId} {D : va_G} (σ0 : Nat → Nat → Int32) (σ : Nat → Nat → Nat → Int32) (x1 x2 : Int32) (hf : f_X4_missing n σ0 σ x1 x2 = some (.inl IOB)) (o : Nat) (f : Nat → Int64) : CtW yL_missing cL_missing 5 [(0, 10, 13, 19)] rmW_missing [.ref (q0 0), .int x1, .int x2, .ref o] D cA (xL n q0 q cA σ0 σ o f) (xL n q0 q cA σ0 σ o f) 1 := by
  refine vxW_of (Qc := fun sz => PostU D (xL n q0 q cA σ0 σ o f) (xL n q0 q cA σ0 σ o f) sz (some (.int 1))) (by decide) (Nat.le_of_ble_eq_true rfl) ?_
  intro p l e s m below meth c ls hl0 C hr htab hX hN hR0 h hl
  have C : Cx p s m _ meth c cL_missing 5 RL D cA := C
  obtain ⟨hx, hb, hml, hown, hts, hK, hlk⟩ := id C
  replace hl : lv_has ls 5 [(0, .ref (q0 0)), (1, .int x1), (2, .int x2), (3, .ref o)] := hl
  refine lv_aload_n (pc := 0) hx hb dL_missing_0 rfl (lv_at hl 3 rfl) ?_
  refine lv_iconst (pc := 1) (v := 0) hx hb dL_missing_1 (by decide) ?_
  refine lv_aload_n (pc := 2) hx hb dL_missing_2 rfl (lv_at hl 0 rfl) ?_
  refine lv_iload_n (pc := 3) hx hb dL_missing_3 rfl (lv_at hl 1 rfl) ?_
  refine lv_iload_n (pc := 4) hx hb dL_missing_4 rfl (lv_at hl 2 rfl) ?_
  refine call_C (pc := 5) (hpc := 13) (As := [.int x1, .int x2]) (rest := [.int 0, .ref o]) (E := IOB) C hl0 hX hR0 h (kT_X4_missing hn σ0 σ x1 x2 hf) cw_L_78 1 (xL_c1 ..) rfl (List.range' 1 (sW n q0 q cA σ0 σ).length) (tail_map _ _) (nd_of _ List.nodup_range') rfl rfl hl.1 (Nat.le_of_ble_eq_true rfl) dL_missing_5 ⟨(Nat.le_of_ble_eq_true rfl), (Nat.le_of_ble_eq_true rfl)⟩ rfl rfl ⟨(Nat.le_of_ble_eq_true rfl), (Nat.le_of_ble_eq_true rfl)⟩ (fun H1 locs1 q9 ce h1 h2 h3 k => vx_catch (name := IOB) hown [] ⟨0, 10, 13, 19⟩ [] (htab.trans rfl) (fun z hz => by cases hz) (by decide) (by decide) (hts _ cl_19) (cast_ok hX.2.1 cs1.1) h1 h2 h3 k) (fun q9 H locs h => ?_)
  refine lv_astore (pc := 13) (lv' := [(4, .ref q9), (0, .ref (q0 0)), (1, .int x1), (2, .int x2), (3, .ref o)]) hx hb dL_missing_13 hl (by decide) rfl (fun ls hl => ?_)
  refine lv_iconst (pc := 15) (v := 1) hx hb dL_missing_15 (by decide) ?_
  exact end_W (pc := 16) C hr (by decide) (by decide) h dL_missing_16
abbrev rmW_share : Room := { frames := 8, cells := 1, slots := 6, locals := 126 }
set_option maxHeartbeats 400000 in
set_option maxRecDepth 100000 in
theorem w_share {n : Nat} (hn : n ≤ 6) {q0 : Nat → Nat} {q : Nat → Nat → Nat} {cA : Nat → ClassId} {D : va_G} (σ0 : Nat → Nat → Int32) (σ : Nat → Nat → Nat → Int32) (x1 : Int32) {z : UInt32} (hf : f_X4_share n σ0 σ x1 = some (.inr z)) (hnd : vf_n64 (FP.f2d z)) (o : Nat) (f : Nat → UInt64) : CtW yL_share cL_share 4 [(0, 9, 12, 19)] rmW_share [.ref (q0 0), .int x1, .ref o] D cA (xD n q0 q cA σ0 σ o f) (xD n q0 q cA σ0 σ o (vf_upd f 0 (FP.f2d z))) 0 := by
  refine vxW_of (Qc := fun sz => PostU D (xD n q0 q cA σ0 σ o f) (xD n q0 q cA σ0 σ o (vf_upd f 0 (FP.f2d z))) sz (some (.int 0))) (by decide) (Nat.le_of_ble_eq_true rfl) ?_
  intro p l e s m below meth c ls hl0 C hr htab hX hN hR0 h hl
  have C : Cx p s m _ meth c cL_share 4 RL D cA := C
  obtain ⟨hx, hb, hml, hown, hts, hK, hlk⟩ := id C
  replace hl : lv_has ls 4 [(0, .ref (q0 0)), (1, .int x1), (2, .ref o)] := hl
  refine lv_aload_n (pc := 0) hx hb dL_share_0 rfl (lv_at hl 2 rfl) ?_
  refine lv_iconst (pc := 1) (v := 0) hx hb dL_share_1 (by decide) ?_
  refine lv_aload_n (pc := 2) hx hb dL_share_2 rfl (lv_at hl 0 rfl) ?_
  refine lv_iload_n (pc := 3) hx hb dL_share_3 rfl (lv_at hl 1 rfl) ?_
  refine call_VR (pc := 4) (As := [.int x1]) (rest := [.int 0, .ref o]) C h (k_X4_share hn σ0 σ x1 hf) cw_L_81 1 (xD_c1 ..) rfl (List.range' 1 (sW n q0 q cA σ0 σ).length) (tail_map _ _) (nd_of _ List.nodup_range') rfl rfl hl.1 (Nat.le_of_ble_eq_true rfl) dL_share_4 ⟨(Nat.le_of_ble_eq_true rfl), (Nat.le_of_ble_eq_true rfl)⟩ rfl rfl ⟨(Nat.le_of_ble_eq_true rfl), (Nat.le_of_ble_eq_true rfl)⟩ (fun H locs h => ?_)
  refine W.eq (g2 := F0 m 7 ls [.float z, .int 0, .ref o]) rfl ?_
  refine lv_f2d (pc := 7) hx hb dL_share_7 hnd ?_
  refine g_dast (pc := 8) (n := 1) (f := f) (ws' := (xD n q0 q cA σ0 σ o (vf_upd f 0 (FP.f2d z)))) C h 0 rfl (show inb (0 : Int32) 1 from by decide) rfl dL_share_8 (fun H locs h => ?_)
  refine lv_goto (pc := 9) (tgt := 15) hx hb dL_share_9 (by decide) ?_
  refine lv_iconst (pc := 15) (v := 0) hx hb dL_share_15 (by decide) ?_
  exact end_W (pc := 16) C hr (by decide) (by decide) h dL_share_16
set_option maxHeartbeats 400000 in
set_option maxRecDepth 100000 in
theorem wT_share_0 {n : Nat} (hn : n ≤ 6) {q0 : Nat → Nat} {q : Nat → Nat → Nat} {cA : Nat → ClassId} {D : va_G} (σ0 : Nat → Nat → Int32) (σ : Nat → Nat → Nat → Int32) (x1 : Int32) (hf : f_X4_share n σ0 σ x1 = some (.inl IOB)) (o : Nat) (f : Nat → UInt64) : CtW yL_share cL_share 4 [(0, 9, 12, 19)] rmW_share [.ref (q0 0), .int x1, .ref o] D cA (xD n q0 q cA σ0 σ o f) (xD n q0 q cA σ0 σ o f) 1 := by
  refine vxW_of (Qc := fun sz => PostU D (xD n q0 q cA σ0 σ o f) (xD n q0 q cA σ0 σ o f) sz (some (.int 1))) (by decide) (Nat.le_of_ble_eq_true rfl) ?_
  intro p l e s m below meth c ls hl0 C hr htab hX hN hR0 h hl
  have C : Cx p s m _ meth c cL_share 4 RL D cA := C
  obtain ⟨hx, hb, hml, hown, hts, hK, hlk⟩ := id C
  replace hl : lv_has ls 4 [(0, .ref (q0 0)), (1, .int x1), (2, .ref o)] := hl
  refine lv_aload_n (pc := 0) hx hb dL_share_0 rfl (lv_at hl 2 rfl) ?_
  refine lv_iconst (pc := 1) (v := 0) hx hb dL_share_1 (by decide) ?_
  refine lv_aload_n (pc := 2) hx hb dL_share_2 rfl (lv_at hl 0 rfl) ?_
  refine lv_iload_n (pc := 3) hx hb dL_share_3 rfl (lv_at hl 1 rfl) ?_
  refine call_C (pc := 4) (hpc := 12) (As := [.int x1]) (rest := [.int 0, .ref o]) (E := IOB) C hl0 hX hR0 h (kT_X4_share hn σ0 σ x1 hf) cw_L_81 1 (xD_c1 ..) rfl (List.range' 1 (sW n q0 q cA σ0 σ).length) (tail_map _ _) (nd_of _ List.nodup_range') rfl rfl hl.1 (Nat.le_of_ble_eq_true rfl) dL_share_4 ⟨(Nat.le_of_ble_eq_true rfl), (Nat.le_of_ble_eq_true rfl)⟩ rfl rfl ⟨(Nat.le_of_ble_eq_true rfl), (Nat.le_of_ble_eq_true rfl)⟩ (fun H1 locs1 q9 ce h1 h2 h3 k => vx_catch (name := IOB) hown [] ⟨0, 9, 12, 19⟩ [] (htab.trans rfl) (fun z hz => by cases hz) (by decide) (by decide) (hts _ cl_19) (cast_ok hX.2.1 cs1.1) h1 h2 h3 k) (fun q9 H locs h => ?_)
  refine lv_astore_n (pc := 12) (lv' := [(3, .ref q9), (0, .ref (q0 0)), (1, .int x1), (2, .ref o)]) hx hb dL_share_12 rfl hl (by decide) rfl (fun ls hl => ?_)
  refine lv_iconst (pc := 13) (v := 1) hx hb dL_share_13 (by decide) ?_
  exact end_W (pc := 14) C hr (by decide) (by decide) h dL_share_14
abbrev rmW_ahead : Room := { frames := 8, cells := 1, slots := 6, locals := 127 }
set_option maxHeartbeats 400000 in
set_option maxRecDepth 100000 in
theorem w_ahead {n : Nat} (hn : n ≤ 6) {q0 : Nat → Nat} {q : Nat → Nat → Nat} {cA : Nat → ClassId} {D : va_G} (σ0 : Nat → Nat → Int32) (σ : Nat → Nat → Nat → Int32) (x1 x2 : Int32) {z : Int32} (hf : f_X4_ahead n σ0 σ x1 x2 = some (.inr z)) (o : Nat) (f : Nat → Int64) : CtW yL_ahead cL_ahead 5 [(0, 10, 13, 19)] rmW_ahead [.ref (q0 0), .int x1, .int x2, .ref o] D cA (xL n q0 q cA σ0 σ o f) (xL n q0 q cA σ0 σ o (vp_updL f 0 z.toInt64)) 0 := by
  refine vxW_of (Qc := fun sz => PostU D (xL n q0 q cA σ0 σ o f) (xL n q0 q cA σ0 σ o (vp_updL f 0 z.toInt64)) sz (some (.int 0))) (by decide) (Nat.le_of_ble_eq_true rfl) ?_
  intro p l e s m below meth c ls hl0 C hr htab hX hN hR0 h hl
  have C : Cx p s m _ meth c cL_ahead 5 RL D cA := C
  obtain ⟨hx, hb, hml, hown, hts, hK, hlk⟩ := id C
  replace hl : lv_has ls 5 [(0, .ref (q0 0)), (1, .int x1), (2, .int x2), (3, .ref o)] := hl
  refine lv_aload_n (pc := 0) hx hb dL_ahead_0 rfl (lv_at hl 3 rfl) ?_
  refine lv_iconst (pc := 1) (v := 0) hx hb dL_ahead_1 (by decide) ?_
  refine lv_aload_n (pc := 2) hx hb dL_ahead_2 rfl (lv_at hl 0 rfl) ?_
  refine lv_iload_n (pc := 3) hx hb dL_ahead_3 rfl (lv_at hl 1 rfl) ?_
  refine lv_iload_n (pc := 4) hx hb dL_ahead_4 rfl (lv_at hl 2 rfl) ?_
  refine call_VR (pc := 5) (As := [.int x1, .int x2]) (rest := [.int 0, .ref o]) C h (k_X4_ahead hn σ0 σ x1 x2 hf) cw_L_85 1 (xL_c1 ..) rfl (List.range' 1 (sW n q0 q cA σ0 σ).length) (tail_map _ _) (nd_of _ List.nodup_range') rfl rfl hl.1 (Nat.le_of_ble_eq_true rfl) dL_ahead_5 ⟨(Nat.le_of_ble_eq_true rfl), (Nat.le_of_ble_eq_true rfl)⟩ rfl rfl ⟨(Nat.le_of_ble_eq_true rfl), (Nat.le_of_ble_eq_true rfl)⟩ (fun H locs h => ?_)
  refine W.eq (g2 := F0 m 8 ls [.int z, .int 0, .ref o]) rfl ?_
  refine lv_i2l (pc := 8) (v := z.toInt64) hx hb dL_ahead_8 rfl ?_
  refine g_last (pc := 9) (n := 1) (f := f) (ws' := (xL n q0 q cA σ0 σ o (vp_updL f 0 z.toInt64))) C h 0 rfl (show inb (0 : Int32) 1 from by decide) rfl dL_ahead_9 (fun H locs h => ?_)
  refine lv_goto (pc := 10) (tgt := 17) hx hb dL_ahead_10 (by decide) ?_
  refine lv_iconst (pc := 17) (v := 0) hx hb dL_ahead_17 (by decide) ?_
  exact end_W (pc := 18) C hr (by decide) (by decide) h dL_ahead_18
set_option maxHeartbeats 400000 in
set_option maxRecDepth 100000 in
theorem wT_ahead_0 {n : Nat} (hn : n ≤ 6) {q0 : Nat → Nat} {q : Nat → Nat → Nat} {cA : Nat → ClassId} {D : va_G} (σ0 : Nat → Nat → Int32) (σ : Nat → Nat → Nat → Int32) (x1 x2 : Int32) (hf : f_X4_ahead n σ0 σ x1 x2 = some (.inl IOB)) (o : Nat) (f : Nat → Int64) : CtW yL_ahead cL_ahead 5 [(0, 10, 13, 19)] rmW_ahead [.ref (q0 0), .int x1, .int x2, .ref o] D cA (xL n q0 q cA σ0 σ o f) (xL n q0 q cA σ0 σ o f) 1 := by
  refine vxW_of (Qc := fun sz => PostU D (xL n q0 q cA σ0 σ o f) (xL n q0 q cA σ0 σ o f) sz (some (.int 1))) (by decide) (Nat.le_of_ble_eq_true rfl) ?_
  intro p l e s m below meth c ls hl0 C hr htab hX hN hR0 h hl
  have C : Cx p s m _ meth c cL_ahead 5 RL D cA := C
  obtain ⟨hx, hb, hml, hown, hts, hK, hlk⟩ := id C
  replace hl : lv_has ls 5 [(0, .ref (q0 0)), (1, .int x1), (2, .int x2), (3, .ref o)] := hl
  refine lv_aload_n (pc := 0) hx hb dL_ahead_0 rfl (lv_at hl 3 rfl) ?_
  refine lv_iconst (pc := 1) (v := 0) hx hb dL_ahead_1 (by decide) ?_
  refine lv_aload_n (pc := 2) hx hb dL_ahead_2 rfl (lv_at hl 0 rfl) ?_
  refine lv_iload_n (pc := 3) hx hb dL_ahead_3 rfl (lv_at hl 1 rfl) ?_
  refine lv_iload_n (pc := 4) hx hb dL_ahead_4 rfl (lv_at hl 2 rfl) ?_
  refine call_C (pc := 5) (hpc := 13) (As := [.int x1, .int x2]) (rest := [.int 0, .ref o]) (E := IOB) C hl0 hX hR0 h (kT_X4_ahead hn σ0 σ x1 x2 hf) cw_L_85 1 (xL_c1 ..) rfl (List.range' 1 (sW n q0 q cA σ0 σ).length) (tail_map _ _) (nd_of _ List.nodup_range') rfl rfl hl.1 (Nat.le_of_ble_eq_true rfl) dL_ahead_5 ⟨(Nat.le_of_ble_eq_true rfl), (Nat.le_of_ble_eq_true rfl)⟩ rfl rfl ⟨(Nat.le_of_ble_eq_true rfl), (Nat.le_of_ble_eq_true rfl)⟩ (fun H1 locs1 q9 ce h1 h2 h3 k => vx_catch (name := IOB) hown [] ⟨0, 10, 13, 19⟩ [] (htab.trans rfl) (fun z hz => by cases hz) (by decide) (by decide) (hts _ cl_19) (cast_ok hX.2.1 cs1.1) h1 h2 h3 k) (fun q9 H locs h => ?_)
  refine lv_astore (pc := 13) (lv' := [(4, .ref q9), (0, .ref (q0 0)), (1, .int x1), (2, .int x2), (3, .ref o)]) hx hb dL_ahead_13 hl (by decide) rfl (fun ls hl => ?_)
  refine lv_iconst (pc := 15) (v := 1) hx hb dL_ahead_15 (by decide) ?_
  exact end_W (pc := 16) C hr (by decide) (by decide) h dL_ahead_16
abbrev rmW_roundOf : Room := { frames := 8, cells := 1, slots := 6, locals := 127 }
set_option maxHeartbeats 400000 in
set_option maxRecDepth 100000 in
theorem w_roundOf {n : Nat} (hn : n ≤ 6) {q0 : Nat → Nat} {q : Nat → Nat → Nat} {cA : Nat → ClassId} {D : va_G} (σ0 : Nat → Nat → Int32) (σ : Nat → Nat → Nat → Int32) (x1 x2 : Int32) {z : Int32} (hf : f_X4_roundOf n σ0 σ x1 x2 = some (.inr z)) (o : Nat) (f : Nat → Int64) : CtW yL_roundOf cL_roundOf 5 [(0, 10, 13, 19)] rmW_roundOf [.ref (q0 0), .int x1, .int x2, .ref o] D cA (xL n q0 q cA σ0 σ o f) (xL n q0 q cA σ0 σ o (vp_updL f 0 z.toInt64)) 0 := by
  refine vxW_of (Qc := fun sz => PostU D (xL n q0 q cA σ0 σ o f) (xL n q0 q cA σ0 σ o (vp_updL f 0 z.toInt64)) sz (some (.int 0))) (by decide) (Nat.le_of_ble_eq_true rfl) ?_
  intro p l e s m below meth c ls hl0 C hr htab hX hN hR0 h hl
  have C : Cx p s m _ meth c cL_roundOf 5 RL D cA := C
  obtain ⟨hx, hb, hml, hown, hts, hK, hlk⟩ := id C
  replace hl : lv_has ls 5 [(0, .ref (q0 0)), (1, .int x1), (2, .int x2), (3, .ref o)] := hl
  refine lv_aload_n (pc := 0) hx hb dL_roundOf_0 rfl (lv_at hl 3 rfl) ?_
  refine lv_iconst (pc := 1) (v := 0) hx hb dL_roundOf_1 (by decide) ?_
  refine lv_aload_n (pc := 2) hx hb dL_roundOf_2 rfl (lv_at hl 0 rfl) ?_
  refine lv_iload_n (pc := 3) hx hb dL_roundOf_3 rfl (lv_at hl 1 rfl) ?_
  refine lv_iload_n (pc := 4) hx hb dL_roundOf_4 rfl (lv_at hl 2 rfl) ?_
  refine call_VR (pc := 5) (As := [.int x1, .int x2]) (rest := [.int 0, .ref o]) C h (k_X4_roundOf hn σ0 σ x1 x2 hf) cw_L_88 1 (xL_c1 ..) rfl (List.range' 1 (sW n q0 q cA σ0 σ).length) (tail_map _ _) (nd_of _ List.nodup_range') rfl rfl hl.1 (Nat.le_of_ble_eq_true rfl) dL_roundOf_5 ⟨(Nat.le_of_ble_eq_true rfl), (Nat.le_of_ble_eq_true rfl)⟩ rfl rfl ⟨(Nat.le_of_ble_eq_true rfl), (Nat.le_of_ble_eq_true rfl)⟩ (fun H locs h => ?_)
  refine W.eq (g2 := F0 m 8 ls [.int z, .int 0, .ref o]) rfl ?_
  refine lv_i2l (pc := 8) (v := z.toInt64) hx hb dL_roundOf_8 rfl ?_
  refine g_last (pc := 9) (n := 1) (f := f) (ws' := (xL n q0 q cA σ0 σ o (vp_updL f 0 z.toInt64))) C h 0 rfl (show inb (0 : Int32) 1 from by decide) rfl dL_roundOf_9 (fun H locs h => ?_)
  refine lv_goto (pc := 10) (tgt := 17) hx hb dL_roundOf_10 (by decide) ?_
  refine lv_iconst (pc := 17) (v := 0) hx hb dL_roundOf_17 (by decide) ?_
  exact end_W (pc := 18) C hr (by decide) (by decide) h dL_roundOf_18
set_option maxHeartbeats 400000 in
set_option maxRecDepth 100000 in
theorem wT_roundOf_0 {n : Nat} (hn : n ≤ 6) {q0 : Nat → Nat} {q : Nat → Nat → Nat} {cA : Nat → ClassId} {D : va_G} (σ0 : Nat → Nat → Int32) (σ : Nat → Nat → Nat → Int32) (x1 x2 : Int32) (hf : f_X4_roundOf n σ0 σ x1 x2 = some (.inl IOB)) (o : Nat) (f : Nat → Int64) : CtW yL_roundOf cL_roundOf 5 [(0, 10, 13, 19)] rmW_roundOf [.ref (q0 0), .int x1, .int x2, .ref o] D cA (xL n q0 q cA σ0 σ o f) (xL n q0 q cA σ0 σ o f) 1 := by
  refine vxW_of (Qc := fun sz => PostU D (xL n q0 q cA σ0 σ o f) (xL n q0 q cA σ0 σ o f) sz (some (.int 1))) (by decide) (Nat.le_of_ble_eq_true rfl) ?_
  intro p l e s m below meth c ls hl0 C hr htab hX hN hR0 h hl
  have C : Cx p s m _ meth c cL_roundOf 5 RL D cA := C
  obtain ⟨hx, hb, hml, hown, hts, hK, hlk⟩ := id C
  replace hl : lv_has ls 5 [(0, .ref (q0 0)), (1, .int x1), (2, .int x2), (3, .ref o)] := hl
  refine lv_aload_n (pc := 0) hx hb dL_roundOf_0 rfl (lv_at hl 3 rfl) ?_
  refine lv_iconst (pc := 1) (v := 0) hx hb dL_roundOf_1 (by decide) ?_
  refine lv_aload_n (pc := 2) hx hb dL_roundOf_2 rfl (lv_at hl 0 rfl) ?_
  refine lv_iload_n (pc := 3) hx hb dL_roundOf_3 rfl (lv_at hl 1 rfl) ?_
  refine lv_iload_n (pc := 4) hx hb dL_roundOf_4 rfl (lv_at hl 2 rfl) ?_
  refine call_C (pc := 5) (hpc := 13) (As := [.int x1, .int x2]) (rest := [.int 0, .ref o]) (E := IOB) C hl0 hX hR0 h (kT_X4_roundOf hn σ0 σ x1 x2 hf) cw_L_88 1 (xL_c1 ..) rfl (List.range' 1 (sW n q0 q cA σ0 σ).length) (tail_map _ _) (nd_of _ List.nodup_range') rfl rfl hl.1 (Nat.le_of_ble_eq_true rfl) dL_roundOf_5 ⟨(Nat.le_of_ble_eq_true rfl), (Nat.le_of_ble_eq_true rfl)⟩ rfl rfl ⟨(Nat.le_of_ble_eq_true rfl), (Nat.le_of_ble_eq_true rfl)⟩ (fun H1 locs1 q9 ce h1 h2 h3 k => vx_catch (name := IOB) hown [] ⟨0, 10, 13, 19⟩ [] (htab.trans rfl) (fun z hz => by cases hz) (by decide) (by decide) (hts _ cl_19) (cast_ok hX.2.1 cs1.1) h1 h2 h3 k) (fun q9 H locs h => ?_)
  refine lv_astore (pc := 13) (lv' := [(4, .ref q9), (0, .ref (q0 0)), (1, .int x1), (2, .int x2), (3, .ref o)]) hx hb dL_roundOf_13 hl (by decide) rfl (fun ls hl => ?_)
  refine lv_iconst (pc := 15) (v := 1) hx hb dL_roundOf_15 (by decide) ?_
  exact end_W (pc := 16) C hr (by decide) (by decide) h dL_roundOf_16
abbrev rmW_orders : Room := { frames := 8, cells := 1, slots := 6, locals := 125 }
set_option maxHeartbeats 400000 in
set_option maxRecDepth 100000 in
theorem w_orders {n : Nat} (hn : n ≤ 6) {q0 : Nat → Nat} {q : Nat → Nat → Nat} {cA : Nat → ClassId} {D : va_G} (σ0 : Nat → Nat → Int32) (σ : Nat → Nat → Nat → Int32) (x1 : Int32) {z : Int32 × (Nat → Nat → Int32) × (Nat → Nat → Nat → Int32)} (hf : f_X4_orders n σ0 σ x1 = some (.inr z)) (o : Nat) (f : Nat → Int64) : CtW yL_orders cL_orders 4 [(0, 9, 12, 19)] rmW_orders [.ref (q0 0), .int x1, .ref o] D cA (xL n q0 q cA σ0 σ o f) (xL n q0 q cA z.2.1 z.2.2 o (vp_updL f 0 z.1.toInt64)) 0 := by
  refine vxW_of (Qc := fun sz => PostU D (xL n q0 q cA σ0 σ o f) (xL n q0 q cA z.2.1 z.2.2 o (vp_updL f 0 z.1.toInt64)) sz (some (.int 0))) (by decide) (Nat.le_of_ble_eq_true rfl) ?_
  intro p l e s m below meth c ls hl0 C hr htab hX hN hR0 h hl
  have C : Cx p s m _ meth c cL_orders 4 RL D cA := C
  obtain ⟨hx, hb, hml, hown, hts, hK, hlk⟩ := id C
  replace hl : lv_has ls 4 [(0, .ref (q0 0)), (1, .int x1), (2, .ref o)] := hl
  refine lv_aload_n (pc := 0) hx hb dL_orders_0 rfl (lv_at hl 2 rfl) ?_
  refine lv_iconst (pc := 1) (v := 0) hx hb dL_orders_1 (by decide) ?_
  refine lv_aload_n (pc := 2) hx hb dL_orders_2 rfl (lv_at hl 0 rfl) ?_
  refine lv_iload_n (pc := 3) hx hb dL_orders_3 rfl (lv_at hl 1 rfl) ?_
  refine call_VU (pc := 4) (As := [.int x1]) (rest := [.int 0, .ref o]) (ws' := (xL n q0 q cA z.2.1 z.2.2 o f)) C h (k_X4_orders hn σ0 σ x1 hf) cw_L_91 1 (xL_c1 ..) rfl (List.range' 1 (sW n q0 q cA σ0 σ).length) (tail_map _ _) (nd_of _ List.nodup_range') (sW_fst ..) (tail_put _ (sW_len ..)) rfl rfl hl.1 (Nat.le_of_ble_eq_true rfl) dL_orders_4 ⟨(Nat.le_of_ble_eq_true rfl), (Nat.le_of_ble_eq_true rfl)⟩ rfl rfl ⟨(Nat.le_of_ble_eq_true rfl), (Nat.le_of_ble_eq_true rfl)⟩ (fun H locs h => ?_)
  refine W.eq (g2 := F0 m 7 ls [.int z.1, .int 0, .ref o]) rfl ?_
  refine lv_i2l (pc := 7) (v := z.1.toInt64) hx hb dL_orders_7 rfl ?_
  refine g_last (pc := 8) (n := 1) (f := f) (ws' := (xL n q0 q cA z.2.1 z.2.2 o (vp_updL f 0 z.1.toInt64))) C h 0 rfl (show inb (0 : Int32) 1 from by decide) rfl dL_orders_8 (fun H locs h => ?_)
  refine lv_goto (pc := 9) (tgt := 15) hx hb dL_orders_9 (by decide) ?_
  refine lv_iconst (pc := 15) (v := 0) hx hb dL_orders_15 (by decide) ?_
  exact end_W (pc := 16) C hr (by decide) (by decide) h dL_orders_16
set_option maxHeartbeats 400000 in
set_option maxRecDepth 100000 in
theorem wT_orders_0 {n : Nat} (hn : n ≤ 6) {q0 : Nat → Nat} {q : Nat → Nat → Nat} {cA : Nat → ClassId} {D : va_G} (σ0 : Nat → Nat → Int32) (σ : Nat → Nat → Nat → Int32) (x1 : Int32) (hf : f_X4_orders n σ0 σ x1 = some (.inl IOB)) (o : Nat) (f : Nat → Int64) : CtW yL_orders cL_orders 4 [(0, 9, 12, 19)] rmW_orders [.ref (q0 0), .int x1, .ref o] D cA (xL n q0 q cA σ0 σ o f) (xL n q0 q cA σ0 σ o f) 1 := by
  refine vxW_of (Qc := fun sz => PostU D (xL n q0 q cA σ0 σ o f) (xL n q0 q cA σ0 σ o f) sz (some (.int 1))) (by decide) (Nat.le_of_ble_eq_true rfl) ?_
  intro p l e s m below meth c ls hl0 C hr htab hX hN hR0 h hl
  have C : Cx p s m _ meth c cL_orders 4 RL D cA := C
  obtain ⟨hx, hb, hml, hown, hts, hK, hlk⟩ := id C
  replace hl : lv_has ls 4 [(0, .ref (q0 0)), (1, .int x1), (2, .ref o)] := hl
  refine lv_aload_n (pc := 0) hx hb dL_orders_0 rfl (lv_at hl 2 rfl) ?_
  refine lv_iconst (pc := 1) (v := 0) hx hb dL_orders_1 (by decide) ?_
  refine lv_aload_n (pc := 2) hx hb dL_orders_2 rfl (lv_at hl 0 rfl) ?_
  refine lv_iload_n (pc := 3) hx hb dL_orders_3 rfl (lv_at hl 1 rfl) ?_
  refine call_C (pc := 4) (hpc := 12) (As := [.int x1]) (rest := [.int 0, .ref o]) (E := IOB) C hl0 hX hR0 h (kT_X4_orders hn σ0 σ x1 hf) cw_L_91 1 (xL_c1 ..) rfl (List.range' 1 (sW n q0 q cA σ0 σ).length) (tail_map _ _) (nd_of _ List.nodup_range') rfl rfl hl.1 (Nat.le_of_ble_eq_true rfl) dL_orders_4 ⟨(Nat.le_of_ble_eq_true rfl), (Nat.le_of_ble_eq_true rfl)⟩ rfl rfl ⟨(Nat.le_of_ble_eq_true rfl), (Nat.le_of_ble_eq_true rfl)⟩ (fun H1 locs1 q9 ce h1 h2 h3 k => vx_catch (name := IOB) hown [] ⟨0, 9, 12, 19⟩ [] (htab.trans rfl) (fun z hz => by cases hz) (by decide) (by decide) (hts _ cl_19) (cast_ok hX.2.1 cs1.1) h1 h2 h3 k) (fun q9 H locs h => ?_)
  refine lv_astore_n (pc := 12) (lv' := [(3, .ref q9), (0, .ref (q0 0)), (1, .int x1), (2, .ref o)]) hx hb dL_orders_12 rfl hl (by decide) rfl (fun ls hl => ?_)
  refine lv_iconst (pc := 13) (v := 1) hx hb dL_orders_13 (by decide) ?_
  exact end_W (pc := 14) C hr (by decide) (by decide) h dL_orders_14
abbrev rmW_ordersByAll : Room := { frames := 16, cells := 1, slots := 6, locals := 390 }
set_option maxHeartbeats 400000 in
set_option maxRecDepth 100000 in
theorem w_ordersByAll {n : Nat} (hn : n ≤ 6) {q0 : Nat → Nat} {q : Nat → Nat → Nat} {cA : Nat → ClassId} {D : va_G} (σ0 : Nat → Nat → Int32) (σ : Nat → Nat → Nat → Int32) (x1 : Int32) {z : Int32} (hf : f_X4_ordersByAll n σ0 σ x1 = some (.inr z)) (o : Nat) (f : Nat → Int64) : CtW yL_ordersByAll cL_ordersByAll 4 [(0, 9, 12, 19)] rmW_ordersByAll [.ref (q0 0), .int x1, .ref o] D cA (xL n q0 q cA σ0 σ o f) (xL n q0 q cA σ0 σ o (vp_updL f 0 z.toInt64)) 0 := by
  refine vxW_of (Qc := fun sz => PostU D (xL n q0 q cA σ0 σ o f) (xL n q0 q cA σ0 σ o (vp_updL f 0 z.toInt64)) sz (some (.int 0))) (by decide) (Nat.le_of_ble_eq_true rfl) ?_
  intro p l e s m below meth c ls hl0 C hr htab hX hN hR0 h hl
  have C : Cx p s m _ meth c cL_ordersByAll 4 RL D cA := C
  obtain ⟨hx, hb, hml, hown, hts, hK, hlk⟩ := id C
  replace hl : lv_has ls 4 [(0, .ref (q0 0)), (1, .int x1), (2, .ref o)] := hl
  refine lv_aload_n (pc := 0) hx hb dL_ordersByAll_0 rfl (lv_at hl 2 rfl) ?_
  refine lv_iconst (pc := 1) (v := 0) hx hb dL_ordersByAll_1 (by decide) ?_
  refine lv_aload_n (pc := 2) hx hb dL_ordersByAll_2 rfl (lv_at hl 0 rfl) ?_
  refine lv_iload_n (pc := 3) hx hb dL_ordersByAll_3 rfl (lv_at hl 1 rfl) ?_
  refine call_VR (pc := 4) (As := [.int x1]) (rest := [.int 0, .ref o]) C h (k_X4_ordersByAll hn σ0 σ x1 hf) cw_L_94 1 (xL_c1 ..) rfl (List.range' 1 (sW n q0 q cA σ0 σ).length) (tail_map _ _) (nd_of _ List.nodup_range') rfl rfl hl.1 (Nat.le_of_ble_eq_true rfl) dL_ordersByAll_4 ⟨(Nat.le_of_ble_eq_true rfl), (Nat.le_of_ble_eq_true rfl)⟩ rfl rfl ⟨(Nat.le_of_ble_eq_true rfl), (Nat.le_of_ble_eq_true rfl)⟩ (fun H locs h => ?_)
  refine W.eq (g2 := F0 m 7 ls [.int z, .int 0, .ref o]) rfl ?_
  refine lv_i2l (pc := 7) (v := z.toInt64) hx hb dL_ordersByAll_7 rfl ?_
  refine g_last (pc := 8) (n := 1) (f := f) (ws' := (xL n q0 q cA σ0 σ o (vp_updL f 0 z.toInt64))) C h 0 rfl (show inb (0 : Int32) 1 from by decide) rfl dL_ordersByAll_8 (fun H locs h => ?_)
  refine lv_goto (pc := 9) (tgt := 15) hx hb dL_ordersByAll_9 (by decide) ?_
  refine lv_iconst (pc := 15) (v := 0) hx hb dL_ordersByAll_15 (by decide) ?_
  exact end_W (pc := 16) C hr (by decide) (by decide) h dL_ordersByAll_16
set_option maxHeartbeats 400000 in
set_option maxRecDepth 100000 in
theorem wT_ordersByAll_0 {n : Nat} (hn : n ≤ 6) {q0 : Nat → Nat} {q : Nat → Nat → Nat} {cA : Nat → ClassId} {D : va_G} (σ0 : Nat → Nat → Int32) (σ : Nat → Nat → Nat → Int32) (x1 : Int32) (hf : f_X4_ordersByAll n σ0 σ x1 = some (.inl IOB)) (o : Nat) (f : Nat → Int64) : CtW yL_ordersByAll cL_ordersByAll 4 [(0, 9, 12, 19)] rmW_ordersByAll [.ref (q0 0), .int x1, .ref o] D cA (xL n q0 q cA σ0 σ o f) (xL n q0 q cA σ0 σ o f) 1 := by
  refine vxW_of (Qc := fun sz => PostU D (xL n q0 q cA σ0 σ o f) (xL n q0 q cA σ0 σ o f) sz (some (.int 1))) (by decide) (Nat.le_of_ble_eq_true rfl) ?_
  intro p l e s m below meth c ls hl0 C hr htab hX hN hR0 h hl
  have C : Cx p s m _ meth c cL_ordersByAll 4 RL D cA := C
  obtain ⟨hx, hb, hml, hown, hts, hK, hlk⟩ := id C
  replace hl : lv_has ls 4 [(0, .ref (q0 0)), (1, .int x1), (2, .ref o)] := hl
  refine lv_aload_n (pc := 0) hx hb dL_ordersByAll_0 rfl (lv_at hl 2 rfl) ?_
  refine lv_iconst (pc := 1) (v := 0) hx hb dL_ordersByAll_1 (by decide) ?_
  refine lv_aload_n (pc := 2) hx hb dL_ordersByAll_2 rfl (lv_at hl 0 rfl) ?_
  refine lv_iload_n (pc := 3) hx hb dL_ordersByAll_3 rfl (lv_at hl 1 rfl) ?_
  refine call_C (pc := 4) (hpc := 12) (As := [.int x1]) (rest := [.int 0, .ref o]) (E := IOB) C hl0 hX hR0 h (kT_X4_ordersByAll hn σ0 σ x1 hf) cw_L_94 1 (xL_c1 ..) rfl (List.range' 1 (sW n q0 q cA σ0 σ).length) (tail_map _ _) (nd_of _ List.nodup_range') rfl rfl hl.1 (Nat.le_of_ble_eq_true rfl) dL_ordersByAll_4 ⟨(Nat.le_of_ble_eq_true rfl), (Nat.le_of_ble_eq_true rfl)⟩ rfl rfl ⟨(Nat.le_of_ble_eq_true rfl), (Nat.le_of_ble_eq_true rfl)⟩ (fun H1 locs1 q9 ce h1 h2 h3 k => vx_catch (name := IOB) hown [] ⟨0, 9, 12, 19⟩ [] (htab.trans rfl) (fun z hz => by cases hz) (by decide) (by decide) (hts _ cl_19) (cast_ok hX.2.1 cs1.1) h1 h2 h3 k) (fun q9 H locs h => ?_)
  refine lv_astore_n (pc := 12) (lv' := [(3, .ref q9), (0, .ref (q0 0)), (1, .int x1), (2, .ref o)]) hx hb dL_ordersByAll_12 rfl hl (by decide) rfl (fun ls hl => ?_)
  refine lv_iconst (pc := 13) (v := 1) hx hb dL_ordersByAll_13 (by decide) ?_
  exact end_W (pc := 14) C hr (by decide) (by decide) h dL_ordersByAll_14
abbrev rmW_ordersLeft : Room := { frames := 8, cells := 1, slots := 6, locals := 126 }
set_option maxHeartbeats 400000 in
set_option maxRecDepth 100000 in
theorem w_ordersLeft {n : Nat} (hn : n ≤ 6) {q0 : Nat → Nat} {q : Nat → Nat → Nat} {cA : Nat → ClassId} {D : va_G} (σ0 : Nat → Nat → Int32) (σ : Nat → Nat → Nat → Int32) (x1 : Int32) {z : Int32 × (Nat → Nat → Int32) × (Nat → Nat → Nat → Int32)} (hf : f_X4_ordersLeft n σ0 σ x1 = some (.inr z)) (o : Nat) (f : Nat → Int64) : CtW yL_ordersLeft cL_ordersLeft 4 [(0, 9, 12, 19)] rmW_ordersLeft [.ref (q0 0), .int x1, .ref o] D cA (xL n q0 q cA σ0 σ o f) (xL n q0 q cA z.2.1 z.2.2 o (vp_updL f 0 z.1.toInt64)) 0 := by
  refine vxW_of (Qc := fun sz => PostU D (xL n q0 q cA σ0 σ o f) (xL n q0 q cA z.2.1 z.2.2 o (vp_updL f 0 z.1.toInt64)) sz (some (.int 0))) (by decide) (Nat.le_of_ble_eq_true rfl) ?_
  intro p l e s m below meth c ls hl0 C hr htab hX hN hR0 h hl
  have C : Cx p s m _ meth c cL_ordersLeft 4 RL D cA := C
  obtain ⟨hx, hb, hml, hown, hts, hK, hlk⟩ := id C
  replace hl : lv_has ls 4 [(0, .ref (q0 0)), (1, .int x1), (2, .ref o)] := hl
  refine lv_aload_n (pc := 0) hx hb dL_ordersLeft_0 rfl (lv_at hl 2 rfl) ?_
  refine lv_iconst (pc := 1) (v := 0) hx hb dL_ordersLeft_1 (by decide) ?_
  refine lv_aload_n (pc := 2) hx hb dL_ordersLeft_2 rfl (lv_at hl 0 rfl) ?_
  refine lv_iload_n (pc := 3) hx hb dL_ordersLeft_3 rfl (lv_at hl 1 rfl) ?_
  refine call_VU (pc := 4) (As := [.int x1]) (rest := [.int 0, .ref o]) (ws' := (xL n q0 q cA z.2.1 z.2.2 o f)) C h (k_X4_ordersLeft hn σ0 σ x1 hf) cw_L_97 1 (xL_c1 ..) rfl (List.range' 1 (sW n q0 q cA σ0 σ).length) (tail_map _ _) (nd_of _ List.nodup_range') (sW_fst ..) (tail_put _ (sW_len ..)) rfl rfl hl.1 (Nat.le_of_ble_eq_true rfl) dL_ordersLeft_4 ⟨(Nat.le_of_ble_eq_true rfl), (Nat.le_of_ble_eq_true rfl)⟩ rfl rfl ⟨(Nat.le_of_ble_eq_true rfl), (Nat.le_of_ble_eq_true rfl)⟩ (fun H locs h => ?_)
  refine W.eq (g2 := F0 m 7 ls [.int z.1, .int 0, .ref o]) rfl ?_
  refine lv_i2l (pc := 7) (v := z.1.toInt64) hx hb dL_ordersLeft_7 rfl ?_
  refine g_last (pc := 8) (n := 1) (f := f) (ws' := (xL n q0 q cA z.2.1 z.2.2 o (vp_updL f 0 z.1.toInt64))) C h 0 rfl (show inb (0 : Int32) 1 from by decide) rfl dL_ordersLeft_8 (fun H locs h => ?_)
  refine lv_goto (pc := 9) (tgt := 15) hx hb dL_ordersLeft_9 (by decide) ?_
  refine lv_iconst (pc := 15) (v := 0) hx hb dL_ordersLeft_15 (by decide) ?_
  exact end_W (pc := 16) C hr (by decide) (by decide) h dL_ordersLeft_16
set_option maxHeartbeats 400000 in
set_option maxRecDepth 100000 in
theorem wT_ordersLeft_0 {n : Nat} (hn : n ≤ 6) {q0 : Nat → Nat} {q : Nat → Nat → Nat} {cA : Nat → ClassId} {D : va_G} (σ0 : Nat → Nat → Int32) (σ : Nat → Nat → Nat → Int32) (x1 : Int32) (hf : f_X4_ordersLeft n σ0 σ x1 = some (.inl IOB)) (o : Nat) (f : Nat → Int64) : CtW yL_ordersLeft cL_ordersLeft 4 [(0, 9, 12, 19)] rmW_ordersLeft [.ref (q0 0), .int x1, .ref o] D cA (xL n q0 q cA σ0 σ o f) (xL n q0 q cA σ0 σ o f) 1 := by
  refine vxW_of (Qc := fun sz => PostU D (xL n q0 q cA σ0 σ o f) (xL n q0 q cA σ0 σ o f) sz (some (.int 1))) (by decide) (Nat.le_of_ble_eq_true rfl) ?_
  intro p l e s m below meth c ls hl0 C hr htab hX hN hR0 h hl
  have C : Cx p s m _ meth c cL_ordersLeft 4 RL D cA := C
  obtain ⟨hx, hb, hml, hown, hts, hK, hlk⟩ := id C
  replace hl : lv_has ls 4 [(0, .ref (q0 0)), (1, .int x1), (2, .ref o)] := hl
  refine lv_aload_n (pc := 0) hx hb dL_ordersLeft_0 rfl (lv_at hl 2 rfl) ?_
  refine lv_iconst (pc := 1) (v := 0) hx hb dL_ordersLeft_1 (by decide) ?_
  refine lv_aload_n (pc := 2) hx hb dL_ordersLeft_2 rfl (lv_at hl 0 rfl) ?_
  refine lv_iload_n (pc := 3) hx hb dL_ordersLeft_3 rfl (lv_at hl 1 rfl) ?_
  refine call_C (pc := 4) (hpc := 12) (As := [.int x1]) (rest := [.int 0, .ref o]) (E := IOB) C hl0 hX hR0 h (kT_X4_ordersLeft hn σ0 σ x1 hf) cw_L_97 1 (xL_c1 ..) rfl (List.range' 1 (sW n q0 q cA σ0 σ).length) (tail_map _ _) (nd_of _ List.nodup_range') rfl rfl hl.1 (Nat.le_of_ble_eq_true rfl) dL_ordersLeft_4 ⟨(Nat.le_of_ble_eq_true rfl), (Nat.le_of_ble_eq_true rfl)⟩ rfl rfl ⟨(Nat.le_of_ble_eq_true rfl), (Nat.le_of_ble_eq_true rfl)⟩ (fun H1 locs1 q9 ce h1 h2 h3 k => vx_catch (name := IOB) hown [] ⟨0, 9, 12, 19⟩ [] (htab.trans rfl) (fun z hz => by cases hz) (by decide) (by decide) (hts _ cl_19) (cast_ok hX.2.1 cs1.1) h1 h2 h3 k) (fun q9 H locs h => ?_)
  refine lv_astore_n (pc := 12) (lv' := [(3, .ref q9), (0, .ref (q0 0)), (1, .int x1), (2, .ref o)]) hx hb dL_ordersLeft_12 rfl hl (by decide) rfl (fun ls hl => ?_)
  refine lv_iconst (pc := 13) (v := 1) hx hb dL_ordersLeft_13 (by decide) ?_
  exact end_W (pc := 14) C hr (by decide) (by decide) h dL_ordersLeft_14
abbrev rmW_events : Room := { frames := 8, cells := 1, slots := 6, locals := 125 }
set_option maxHeartbeats 400000 in
set_option maxRecDepth 100000 in
theorem w_events {n : Nat} (hn : n ≤ 6) {q0 : Nat → Nat} {q : Nat → Nat → Nat} {cA : Nat → ClassId} {D : va_G} (σ0 : Nat → Nat → Int32) (σ : Nat → Nat → Nat → Int32) (x1 : Int32) {z : Int32} (hf : f_X4_events n σ0 σ x1 = some (.inr z)) (o : Nat) (f : Nat → Int64) : CtW yL_events cL_events 4 [(0, 9, 12, 19)] rmW_events [.ref (q0 0), .int x1, .ref o] D cA (xL n q0 q cA σ0 σ o f) (xL n q0 q cA σ0 σ o (vp_updL f 0 z.toInt64)) 0 := by
  refine vxW_of (Qc := fun sz => PostU D (xL n q0 q cA σ0 σ o f) (xL n q0 q cA σ0 σ o (vp_updL f 0 z.toInt64)) sz (some (.int 0))) (by decide) (Nat.le_of_ble_eq_true rfl) ?_
  intro p l e s m below meth c ls hl0 C hr htab hX hN hR0 h hl
  have C : Cx p s m _ meth c cL_events 4 RL D cA := C
  obtain ⟨hx, hb, hml, hown, hts, hK, hlk⟩ := id C
  replace hl : lv_has ls 4 [(0, .ref (q0 0)), (1, .int x1), (2, .ref o)] := hl
  refine lv_aload_n (pc := 0) hx hb dL_events_0 rfl (lv_at hl 2 rfl) ?_
  refine lv_iconst (pc := 1) (v := 0) hx hb dL_events_1 (by decide) ?_
  refine lv_aload_n (pc := 2) hx hb dL_events_2 rfl (lv_at hl 0 rfl) ?_
  refine lv_iload_n (pc := 3) hx hb dL_events_3 rfl (lv_at hl 1 rfl) ?_
  refine call_VR (pc := 4) (As := [.int x1]) (rest := [.int 0, .ref o]) C h (k_X4_events hn σ0 σ x1 hf) cw_L_100 1 (xL_c1 ..) rfl (List.range' 1 (sW n q0 q cA σ0 σ).length) (tail_map _ _) (nd_of _ List.nodup_range') rfl rfl hl.1 (Nat.le_of_ble_eq_true rfl) dL_events_4 ⟨(Nat.le_of_ble_eq_true rfl), (Nat.le_of_ble_eq_true rfl)⟩ rfl rfl ⟨(Nat.le_of_ble_eq_true rfl), (Nat.le_of_ble_eq_true rfl)⟩ (fun H locs h => ?_)
  refine W.eq (g2 := F0 m 7 ls [.int z, .int 0, .ref o]) rfl ?_
  refine lv_i2l (pc := 7) (v := z.toInt64) hx hb dL_events_7 rfl ?_
  refine g_last (pc := 8) (n := 1) (f := f) (ws' := (xL n q0 q cA σ0 σ o (vp_updL f 0 z.toInt64))) C h 0 rfl (show inb (0 : Int32) 1 from by decide) rfl dL_events_8 (fun H locs h => ?_)
  refine lv_goto (pc := 9) (tgt := 15) hx hb dL_events_9 (by decide) ?_
  refine lv_iconst (pc := 15) (v := 0) hx hb dL_events_15 (by decide) ?_
  exact end_W (pc := 16) C hr (by decide) (by decide) h dL_events_16
set_option maxHeartbeats 400000 in
set_option maxRecDepth 100000 in
theorem wT_events_0 {n : Nat} (hn : n ≤ 6) {q0 : Nat → Nat} {q : Nat → Nat → Nat} {cA : Nat → ClassId} {D : va_G} (σ0 : Nat → Nat → Int32) (σ : Nat → Nat → Nat → Int32) (x1 : Int32) (hf : f_X4_events n σ0 σ x1 = some (.inl IOB)) (o : Nat) (f : Nat → Int64) : CtW yL_events cL_events 4 [(0, 9, 12, 19)] rmW_events [.ref (q0 0), .int x1, .ref o] D cA (xL n q0 q cA σ0 σ o f) (xL n q0 q cA σ0 σ o f) 1 := by
  refine vxW_of (Qc := fun sz => PostU D (xL n q0 q cA σ0 σ o f) (xL n q0 q cA σ0 σ o f) sz (some (.int 1))) (by decide) (Nat.le_of_ble_eq_true rfl) ?_
  intro p l e s m below meth c ls hl0 C hr htab hX hN hR0 h hl
  have C : Cx p s m _ meth c cL_events 4 RL D cA := C
  obtain ⟨hx, hb, hml, hown, hts, hK, hlk⟩ := id C
  replace hl : lv_has ls 4 [(0, .ref (q0 0)), (1, .int x1), (2, .ref o)] := hl
  refine lv_aload_n (pc := 0) hx hb dL_events_0 rfl (lv_at hl 2 rfl) ?_
  refine lv_iconst (pc := 1) (v := 0) hx hb dL_events_1 (by decide) ?_
  refine lv_aload_n (pc := 2) hx hb dL_events_2 rfl (lv_at hl 0 rfl) ?_
  refine lv_iload_n (pc := 3) hx hb dL_events_3 rfl (lv_at hl 1 rfl) ?_
  refine call_C (pc := 4) (hpc := 12) (As := [.int x1]) (rest := [.int 0, .ref o]) (E := IOB) C hl0 hX hR0 h (kT_X4_events hn σ0 σ x1 hf) cw_L_100 1 (xL_c1 ..) rfl (List.range' 1 (sW n q0 q cA σ0 σ).length) (tail_map _ _) (nd_of _ List.nodup_range') rfl rfl hl.1 (Nat.le_of_ble_eq_true rfl) dL_events_4 ⟨(Nat.le_of_ble_eq_true rfl), (Nat.le_of_ble_eq_true rfl)⟩ rfl rfl ⟨(Nat.le_of_ble_eq_true rfl), (Nat.le_of_ble_eq_true rfl)⟩ (fun H1 locs1 q9 ce h1 h2 h3 k => vx_catch (name := IOB) hown [] ⟨0, 9, 12, 19⟩ [] (htab.trans rfl) (fun z hz => by cases hz) (by decide) (by decide) (hts _ cl_19) (cast_ok hX.2.1 cs1.1) h1 h2 h3 k) (fun q9 H locs h => ?_)
  refine lv_astore_n (pc := 12) (lv' := [(3, .ref q9), (0, .ref (q0 0)), (1, .int x1), (2, .ref o)]) hx hb dL_events_12 rfl hl (by decide) rfl (fun ls hl => ?_)
  refine lv_iconst (pc := 13) (v := 1) hx hb dL_events_13 (by decide) ?_
  exact end_W (pc := 14) C hr (by decide) (by decide) h dL_events_14
abbrev rmW_kindOf : Room := { frames := 8, cells := 1, slots := 6, locals := 127 }
set_option maxHeartbeats 400000 in
set_option maxRecDepth 100000 in
theorem w_kindOf {n : Nat} (hn : n ≤ 6) {q0 : Nat → Nat} {q : Nat → Nat → Nat} {cA : Nat → ClassId} {D : va_G} (σ0 : Nat → Nat → Int32) (σ : Nat → Nat → Nat → Int32) (x1 x2 : Int32) {z : Int32} (hf : f_X4_kindOf n σ0 σ x1 x2 = some (.inr z)) (o : Nat) (f : Nat → Int64) : CtW yL_kindOf cL_kindOf 5 [(0, 10, 13, 19)] rmW_kindOf [.ref (q0 0), .int x1, .int x2, .ref o] D cA (xL n q0 q cA σ0 σ o f) (xL n q0 q cA σ0 σ o (vp_updL f 0 z.toInt64)) 0 := by
  refine vxW_of (Qc := fun sz => PostU D (xL n q0 q cA σ0 σ o f) (xL n q0 q cA σ0 σ o (vp_updL f 0 z.toInt64)) sz (some (.int 0))) (by decide) (Nat.le_of_ble_eq_true rfl) ?_
  intro p l e s m below meth c ls hl0 C hr htab hX hN hR0 h hl
  have C : Cx p s m _ meth c cL_kindOf 5 RL D cA := C
  obtain ⟨hx, hb, hml, hown, hts, hK, hlk⟩ := id C
  replace hl : lv_has ls 5 [(0, .ref (q0 0)), (1, .int x1), (2, .int x2), (3, .ref o)] := hl
  refine lv_aload_n (pc := 0) hx hb dL_kindOf_0 rfl (lv_at hl 3 rfl) ?_
  refine lv_iconst (pc := 1) (v := 0) hx hb dL_kindOf_1 (by decide) ?_
  refine lv_aload_n (pc := 2) hx hb dL_kindOf_2 rfl (lv_at hl 0 rfl) ?_
  refine lv_iload_n (pc := 3) hx hb dL_kindOf_3 rfl (lv_at hl 1 rfl) ?_
  refine lv_iload_n (pc := 4) hx hb dL_kindOf_4 rfl (lv_at hl 2 rfl) ?_
  refine call_VR (pc := 5) (As := [.int x1, .int x2]) (rest := [.int 0, .ref o]) C h (k_X4_kindOf hn σ0 σ x1 x2 hf) cw_L_103 1 (xL_c1 ..) rfl (List.range' 1 (sW n q0 q cA σ0 σ).length) (tail_map _ _) (nd_of _ List.nodup_range') rfl rfl hl.1 (Nat.le_of_ble_eq_true rfl) dL_kindOf_5 ⟨(Nat.le_of_ble_eq_true rfl), (Nat.le_of_ble_eq_true rfl)⟩ rfl rfl ⟨(Nat.le_of_ble_eq_true rfl), (Nat.le_of_ble_eq_true rfl)⟩ (fun H locs h => ?_)
  refine W.eq (g2 := F0 m 8 ls [.int z, .int 0, .ref o]) rfl ?_
  refine lv_i2l (pc := 8) (v := z.toInt64) hx hb dL_kindOf_8 rfl ?_
  refine g_last (pc := 9) (n := 1) (f := f) (ws' := (xL n q0 q cA σ0 σ o (vp_updL f 0 z.toInt64))) C h 0 rfl (show inb (0 : Int32) 1 from by decide) rfl dL_kindOf_9 (fun H locs h => ?_)
  refine lv_goto (pc := 10) (tgt := 17) hx hb dL_kindOf_10 (by decide) ?_
  refine lv_iconst (pc := 17) (v := 0) hx hb dL_kindOf_17 (by decide) ?_
  exact end_W (pc := 18) C hr (by decide) (by decide) h dL_kindOf_18
set_option maxHeartbeats 400000 in
set_option maxRecDepth 100000 in
theorem wT_kindOf_0 {n : Nat} (hn : n ≤ 6) {q0 : Nat → Nat} {q : Nat → Nat → Nat} {cA : Nat → ClassId} {D : va_G} (σ0 : Nat → Nat → Int32) (σ : Nat → Nat → Nat → Int32) (x1 x2 : Int32) (hf : f_X4_kindOf n σ0 σ x1 x2 = some (.inl IOB)) (o : Nat) (f : Nat → Int64) : CtW yL_kindOf cL_kindOf 5 [(0, 10, 13, 19)] rmW_kindOf [.ref (q0 0), .int x1, .int x2, .ref o] D cA (xL n q0 q cA σ0 σ o f) (xL n q0 q cA σ0 σ o f) 1 := by
  refine vxW_of (Qc := fun sz => PostU D (xL n q0 q cA σ0 σ o f) (xL n q0 q cA σ0 σ o f) sz (some (.int 1))) (by decide) (Nat.le_of_ble_eq_true rfl) ?_
  intro p l e s m below meth c ls hl0 C hr htab hX hN hR0 h hl
  have C : Cx p s m _ meth c cL_kindOf 5 RL D cA := C
  obtain ⟨hx, hb, hml, hown, hts, hK, hlk⟩ := id C
  replace hl : lv_has ls 5 [(0, .ref (q0 0)), (1, .int x1), (2, .int x2), (3, .ref o)] := hl
  refine lv_aload_n (pc := 0) hx hb dL_kindOf_0 rfl (lv_at hl 3 rfl) ?_
  refine lv_iconst (pc := 1) (v := 0) hx hb dL_kindOf_1 (by decide) ?_
  refine lv_aload_n (pc := 2) hx hb dL_kindOf_2 rfl (lv_at hl 0 rfl) ?_
  refine lv_iload_n (pc := 3) hx hb dL_kindOf_3 rfl (lv_at hl 1 rfl) ?_
  refine lv_iload_n (pc := 4) hx hb dL_kindOf_4 rfl (lv_at hl 2 rfl) ?_
  refine call_C (pc := 5) (hpc := 13) (As := [.int x1, .int x2]) (rest := [.int 0, .ref o]) (E := IOB) C hl0 hX hR0 h (kT_X4_kindOf hn σ0 σ x1 x2 hf) cw_L_103 1 (xL_c1 ..) rfl (List.range' 1 (sW n q0 q cA σ0 σ).length) (tail_map _ _) (nd_of _ List.nodup_range') rfl rfl hl.1 (Nat.le_of_ble_eq_true rfl) dL_kindOf_5 ⟨(Nat.le_of_ble_eq_true rfl), (Nat.le_of_ble_eq_true rfl)⟩ rfl rfl ⟨(Nat.le_of_ble_eq_true rfl), (Nat.le_of_ble_eq_true rfl)⟩ (fun H1 locs1 q9 ce h1 h2 h3 k => vx_catch (name := IOB) hown [] ⟨0, 10, 13, 19⟩ [] (htab.trans rfl) (fun z hz => by cases hz) (by decide) (by decide) (hts _ cl_19) (cast_ok hX.2.1 cs1.1) h1 h2 h3 k) (fun q9 H locs h => ?_)
  refine lv_astore (pc := 13) (lv' := [(4, .ref q9), (0, .ref (q0 0)), (1, .int x1), (2, .int x2), (3, .ref o)]) hx hb dL_kindOf_13 hl (by decide) rfl (fun ls hl => ?_)
  refine lv_iconst (pc := 15) (v := 1) hx hb dL_kindOf_15 (by decide) ?_
  exact end_W (pc := 16) C hr (by decide) (by decide) h dL_kindOf_16
abbrev rmW_personOf : Room := { frames := 8, cells := 1, slots := 6, locals := 127 }
set_option maxHeartbeats 400000 in
set_option maxRecDepth 100000 in
theorem w_personOf {n : Nat} (hn : n ≤ 6) {q0 : Nat → Nat} {q : Nat → Nat → Nat} {cA : Nat → ClassId} {D : va_G} (σ0 : Nat → Nat → Int32) (σ : Nat → Nat → Nat → Int32) (x1 x2 : Int32) {z : Int32} (hf : f_X4_personOf n σ0 σ x1 x2 = some (.inr z)) (o : Nat) (f : Nat → Int64) : CtW yL_personOf cL_personOf 5 [(0, 10, 13, 19)] rmW_personOf [.ref (q0 0), .int x1, .int x2, .ref o] D cA (xL n q0 q cA σ0 σ o f) (xL n q0 q cA σ0 σ o (vp_updL f 0 z.toInt64)) 0 := by
  refine vxW_of (Qc := fun sz => PostU D (xL n q0 q cA σ0 σ o f) (xL n q0 q cA σ0 σ o (vp_updL f 0 z.toInt64)) sz (some (.int 0))) (by decide) (Nat.le_of_ble_eq_true rfl) ?_
  intro p l e s m below meth c ls hl0 C hr htab hX hN hR0 h hl
  have C : Cx p s m _ meth c cL_personOf 5 RL D cA := C
  obtain ⟨hx, hb, hml, hown, hts, hK, hlk⟩ := id C
  replace hl : lv_has ls 5 [(0, .ref (q0 0)), (1, .int x1), (2, .int x2), (3, .ref o)] := hl
  refine lv_aload_n (pc := 0) hx hb dL_personOf_0 rfl (lv_at hl 3 rfl) ?_
  refine lv_iconst (pc := 1) (v := 0) hx hb dL_personOf_1 (by decide) ?_
  refine lv_aload_n (pc := 2) hx hb dL_personOf_2 rfl (lv_at hl 0 rfl) ?_
  refine lv_iload_n (pc := 3) hx hb dL_personOf_3 rfl (lv_at hl 1 rfl) ?_
  refine lv_iload_n (pc := 4) hx hb dL_personOf_4 rfl (lv_at hl 2 rfl) ?_
  refine call_VR (pc := 5) (As := [.int x1, .int x2]) (rest := [.int 0, .ref o]) C h (k_X4_personOf hn σ0 σ x1 x2 hf) cw_L_106 1 (xL_c1 ..) rfl (List.range' 1 (sW n q0 q cA σ0 σ).length) (tail_map _ _) (nd_of _ List.nodup_range') rfl rfl hl.1 (Nat.le_of_ble_eq_true rfl) dL_personOf_5 ⟨(Nat.le_of_ble_eq_true rfl), (Nat.le_of_ble_eq_true rfl)⟩ rfl rfl ⟨(Nat.le_of_ble_eq_true rfl), (Nat.le_of_ble_eq_true rfl)⟩ (fun H locs h => ?_)
  refine W.eq (g2 := F0 m 8 ls [.int z, .int 0, .ref o]) rfl ?_
  refine lv_i2l (pc := 8) (v := z.toInt64) hx hb dL_personOf_8 rfl ?_
  refine g_last (pc := 9) (n := 1) (f := f) (ws' := (xL n q0 q cA σ0 σ o (vp_updL f 0 z.toInt64))) C h 0 rfl (show inb (0 : Int32) 1 from by decide) rfl dL_personOf_9 (fun H locs h => ?_)
  refine lv_goto (pc := 10) (tgt := 17) hx hb dL_personOf_10 (by decide) ?_
  refine lv_iconst (pc := 17) (v := 0) hx hb dL_personOf_17 (by decide) ?_
  exact end_W (pc := 18) C hr (by decide) (by decide) h dL_personOf_18
set_option maxHeartbeats 400000 in
set_option maxRecDepth 100000 in
theorem wT_personOf_0 {n : Nat} (hn : n ≤ 6) {q0 : Nat → Nat} {q : Nat → Nat → Nat} {cA : Nat → ClassId} {D : va_G} (σ0 : Nat → Nat → Int32) (σ : Nat → Nat → Nat → Int32) (x1 x2 : Int32) (hf : f_X4_personOf n σ0 σ x1 x2 = some (.inl IOB)) (o : Nat) (f : Nat → Int64) : CtW yL_personOf cL_personOf 5 [(0, 10, 13, 19)] rmW_personOf [.ref (q0 0), .int x1, .int x2, .ref o] D cA (xL n q0 q cA σ0 σ o f) (xL n q0 q cA σ0 σ o f) 1 := by
  refine vxW_of (Qc := fun sz => PostU D (xL n q0 q cA σ0 σ o f) (xL n q0 q cA σ0 σ o f) sz (some (.int 1))) (by decide) (Nat.le_of_ble_eq_true rfl) ?_
  intro p l e s m below meth c ls hl0 C hr htab hX hN hR0 h hl
  have C : Cx p s m _ meth c cL_personOf 5 RL D cA := C
  obtain ⟨hx, hb, hml, hown, hts, hK, hlk⟩ := id C
  replace hl : lv_has ls 5 [(0, .ref (q0 0)), (1, .int x1), (2, .int x2), (3, .ref o)] := hl
  refine lv_aload_n (pc := 0) hx hb dL_personOf_0 rfl (lv_at hl 3 rfl) ?_
  refine lv_iconst (pc := 1) (v := 0) hx hb dL_personOf_1 (by decide) ?_
  refine lv_aload_n (pc := 2) hx hb dL_personOf_2 rfl (lv_at hl 0 rfl) ?_
  refine lv_iload_n (pc := 3) hx hb dL_personOf_3 rfl (lv_at hl 1 rfl) ?_
  refine lv_iload_n (pc := 4) hx hb dL_personOf_4 rfl (lv_at hl 2 rfl) ?_
  refine call_C (pc := 5) (hpc := 13) (As := [.int x1, .int x2]) (rest := [.int 0, .ref o]) (E := IOB) C hl0 hX hR0 h (kT_X4_personOf hn σ0 σ x1 x2 hf) cw_L_106 1 (xL_c1 ..) rfl (List.range' 1 (sW n q0 q cA σ0 σ).length) (tail_map _ _) (nd_of _ List.nodup_range') rfl rfl hl.1 (Nat.le_of_ble_eq_true rfl) dL_personOf_5 ⟨(Nat.le_of_ble_eq_true rfl), (Nat.le_of_ble_eq_true rfl)⟩ rfl rfl ⟨(Nat.le_of_ble_eq_true rfl), (Nat.le_of_ble_eq_true rfl)⟩ (fun H1 locs1 q9 ce h1 h2 h3 k => vx_catch (name := IOB) hown [] ⟨0, 10, 13, 19⟩ [] (htab.trans rfl) (fun z hz => by cases hz) (by decide) (by decide) (hts _ cl_19) (cast_ok hX.2.1 cs1.1) h1 h2 h3 k) (fun q9 H locs h => ?_)
  refine lv_astore (pc := 13) (lv' := [(4, .ref q9), (0, .ref (q0 0)), (1, .int x1), (2, .int x2), (3, .ref o)]) hx hb dL_personOf_13 hl (by decide) rfl (fun ls hl => ?_)
  refine lv_iconst (pc := 15) (v := 1) hx hb dL_personOf_15 (by decide) ?_
  exact end_W (pc := 16) C hr (by decide) (by decide) h dL_personOf_16
abbrev rmW_dayOf : Room := { frames := 8, cells := 1, slots := 6, locals := 127 }
set_option maxHeartbeats 400000 in
set_option maxRecDepth 100000 in
theorem w_dayOf {n : Nat} (hn : n ≤ 6) {q0 : Nat → Nat} {q : Nat → Nat → Nat} {cA : Nat → ClassId} {D : va_G} (σ0 : Nat → Nat → Int32) (σ : Nat → Nat → Nat → Int32) (x1 x2 : Int32) {z : Int32} (hf : f_X4_dayOf n σ0 σ x1 x2 = some (.inr z)) (o : Nat) (f : Nat → Int64) : CtW yL_dayOf cL_dayOf 5 [(0, 10, 13, 19)] rmW_dayOf [.ref (q0 0), .int x1, .int x2, .ref o] D cA (xL n q0 q cA σ0 σ o f) (xL n q0 q cA σ0 σ o (vp_updL f 0 z.toInt64)) 0 := by
  refine vxW_of (Qc := fun sz => PostU D (xL n q0 q cA σ0 σ o f) (xL n q0 q cA σ0 σ o (vp_updL f 0 z.toInt64)) sz (some (.int 0))) (by decide) (Nat.le_of_ble_eq_true rfl) ?_
  intro p l e s m below meth c ls hl0 C hr htab hX hN hR0 h hl
  have C : Cx p s m _ meth c cL_dayOf 5 RL D cA := C
  obtain ⟨hx, hb, hml, hown, hts, hK, hlk⟩ := id C
  replace hl : lv_has ls 5 [(0, .ref (q0 0)), (1, .int x1), (2, .int x2), (3, .ref o)] := hl
  refine lv_aload_n (pc := 0) hx hb dL_dayOf_0 rfl (lv_at hl 3 rfl) ?_
  refine lv_iconst (pc := 1) (v := 0) hx hb dL_dayOf_1 (by decide) ?_
  refine lv_aload_n (pc := 2) hx hb dL_dayOf_2 rfl (lv_at hl 0 rfl) ?_
  refine lv_iload_n (pc := 3) hx hb dL_dayOf_3 rfl (lv_at hl 1 rfl) ?_
  refine lv_iload_n (pc := 4) hx hb dL_dayOf_4 rfl (lv_at hl 2 rfl) ?_
  refine call_VR (pc := 5) (As := [.int x1, .int x2]) (rest := [.int 0, .ref o]) C h (k_X4_dayOf hn σ0 σ x1 x2 hf) cw_L_109 1 (xL_c1 ..) rfl (List.range' 1 (sW n q0 q cA σ0 σ).length) (tail_map _ _) (nd_of _ List.nodup_range') rfl rfl hl.1 (Nat.le_of_ble_eq_true rfl) dL_dayOf_5 ⟨(Nat.le_of_ble_eq_true rfl), (Nat.le_of_ble_eq_true rfl)⟩ rfl rfl ⟨(Nat.le_of_ble_eq_true rfl), (Nat.le_of_ble_eq_true rfl)⟩ (fun H locs h => ?_)
  refine W.eq (g2 := F0 m 8 ls [.int z, .int 0, .ref o]) rfl ?_
  refine lv_i2l (pc := 8) (v := z.toInt64) hx hb dL_dayOf_8 rfl ?_
  refine g_last (pc := 9) (n := 1) (f := f) (ws' := (xL n q0 q cA σ0 σ o (vp_updL f 0 z.toInt64))) C h 0 rfl (show inb (0 : Int32) 1 from by decide) rfl dL_dayOf_9 (fun H locs h => ?_)
  refine lv_goto (pc := 10) (tgt := 17) hx hb dL_dayOf_10 (by decide) ?_
  refine lv_iconst (pc := 17) (v := 0) hx hb dL_dayOf_17 (by decide) ?_
  exact end_W (pc := 18) C hr (by decide) (by decide) h dL_dayOf_18
set_option maxHeartbeats 400000 in
set_option maxRecDepth 100000 in
theorem wT_dayOf_0 {n : Nat} (hn : n ≤ 6) {q0 : Nat → Nat} {q : Nat → Nat → Nat} {cA : Nat → ClassId} {D : va_G} (σ0 : Nat → Nat → Int32) (σ : Nat → Nat → Nat → Int32) (x1 x2 : Int32) (hf : f_X4_dayOf n σ0 σ x1 x2 = some (.inl IOB)) (o : Nat) (f : Nat → Int64) : CtW yL_dayOf cL_dayOf 5 [(0, 10, 13, 19)] rmW_dayOf [.ref (q0 0), .int x1, .int x2, .ref o] D cA (xL n q0 q cA σ0 σ o f) (xL n q0 q cA σ0 σ o f) 1 := by
  refine vxW_of (Qc := fun sz => PostU D (xL n q0 q cA σ0 σ o f) (xL n q0 q cA σ0 σ o f) sz (some (.int 1))) (by decide) (Nat.le_of_ble_eq_true rfl) ?_
  intro p l e s m below meth c ls hl0 C hr htab hX hN hR0 h hl
  have C : Cx p s m _ meth c cL_dayOf 5 RL D cA := C
  obtain ⟨hx, hb, hml, hown, hts, hK, hlk⟩ := id C
  replace hl : lv_has ls 5 [(0, .ref (q0 0)), (1, .int x1), (2, .int x2), (3, .ref o)] := hl
  refine lv_aload_n (pc := 0) hx hb dL_dayOf_0 rfl (lv_at hl 3 rfl) ?_
  refine lv_iconst (pc := 1) (v := 0) hx hb dL_dayOf_1 (by decide) ?_
  refine lv_aload_n (pc := 2) hx hb dL_dayOf_2 rfl (lv_at hl 0 rfl) ?_
  refine lv_iload_n (pc := 3) hx hb dL_dayOf_3 rfl (lv_at hl 1 rfl) ?_
  refine lv_iload_n (pc := 4) hx hb dL_dayOf_4 rfl (lv_at hl 2 rfl) ?_
  refine call_C (pc := 5) (hpc := 13) (As := [.int x1, .int x2]) (rest := [.int 0, .ref o]) (E := IOB) C hl0 hX hR0 h (kT_X4_dayOf hn σ0 σ x1 x2 hf) cw_L_109 1 (xL_c1 ..) rfl (List.range' 1 (sW n q0 q cA σ0 σ).length) (tail_map _ _) (nd_of _ List.nodup_range') rfl rfl hl.1 (Nat.le_of_ble_eq_true rfl) dL_dayOf_5 ⟨(Nat.le_of_ble_eq_true rfl), (Nat.le_of_ble_eq_true rfl)⟩ rfl rfl ⟨(Nat.le_of_ble_eq_true rfl), (Nat.le_of_ble_eq_true rfl)⟩ (fun H1 locs1 q9 ce h1 h2 h3 k => vx_catch (name := IOB) hown [] ⟨0, 10, 13, 19⟩ [] (htab.trans rfl) (fun z hz => by cases hz) (by decide) (by decide) (hts _ cl_19) (cast_ok hX.2.1 cs1.1) h1 h2 h3 k) (fun q9 H locs h => ?_)
  refine lv_astore (pc := 13) (lv' := [(4, .ref q9), (0, .ref (q0 0)), (1, .int x1), (2, .int x2), (3, .ref o)]) hx hb dL_dayOf_13 hl (by decide) rfl (fun ls hl => ?_)
  refine lv_iconst (pc := 15) (v := 1) hx hb dL_dayOf_15 (by decide) ?_
  exact end_W (pc := 16) C hr (by decide) (by decide) h dL_dayOf_16
abbrev rmW_seal : Room := { frames := 8, cells := 1, slots := 6, locals := 127 }
set_option maxHeartbeats 400000 in
set_option maxRecDepth 100000 in
theorem w_seal {n : Nat} (hn : n ≤ 6) {q0 : Nat → Nat} {q : Nat → Nat → Nat} {cA : Nat → ClassId} {D : va_G} (σ0 : Nat → Nat → Int32) (σ : Nat → Nat → Nat → Int32) (x1 x2 : Int32) {z : Int32} (hf : f_X4_seal n σ0 σ x1 x2 = some (.inr z)) (o : Nat) (f : Nat → Int64) : CtW yL_seal cL_seal 5 [(0, 10, 13, 19)] rmW_seal [.ref (q0 0), .int x1, .int x2, .ref o] D cA (xL n q0 q cA σ0 σ o f) (xL n q0 q cA σ0 σ o (vp_updL f 0 z.toInt64)) 0 := by
  refine vxW_of (Qc := fun sz => PostU D (xL n q0 q cA σ0 σ o f) (xL n q0 q cA σ0 σ o (vp_updL f 0 z.toInt64)) sz (some (.int 0))) (by decide) (Nat.le_of_ble_eq_true rfl) ?_
  intro p l e s m below meth c ls hl0 C hr htab hX hN hR0 h hl
  have C : Cx p s m _ meth c cL_seal 5 RL D cA := C
  obtain ⟨hx, hb, hml, hown, hts, hK, hlk⟩ := id C
  replace hl : lv_has ls 5 [(0, .ref (q0 0)), (1, .int x1), (2, .int x2), (3, .ref o)] := hl
  refine lv_aload_n (pc := 0) hx hb dL_seal_0 rfl (lv_at hl 3 rfl) ?_
  refine lv_iconst (pc := 1) (v := 0) hx hb dL_seal_1 (by decide) ?_
  refine lv_aload_n (pc := 2) hx hb dL_seal_2 rfl (lv_at hl 0 rfl) ?_
  refine lv_iload_n (pc := 3) hx hb dL_seal_3 rfl (lv_at hl 1 rfl) ?_
  refine lv_iload_n (pc := 4) hx hb dL_seal_4 rfl (lv_at hl 2 rfl) ?_
  refine call_VR (pc := 5) (As := [.int x1, .int x2]) (rest := [.int 0, .ref o]) C h (k_X4_seal hn σ0 σ x1 x2 hf) cw_L_112 1 (xL_c1 ..) rfl (List.range' 1 (sW n q0 q cA σ0 σ).length) (tail_map _ _) (nd_of _ List.nodup_range') rfl rfl hl.1 (Nat.le_of_ble_eq_true rfl) dL_seal_5 ⟨(Nat.le_of_ble_eq_true rfl), (Nat.le_of_ble_eq_true rfl)⟩ rfl rfl ⟨(Nat.le_of_ble_eq_true rfl), (Nat.le_of_ble_eq_true rfl)⟩ (fun H locs h => ?_)
  refine W.eq (g2 := F0 m 8 ls [.int z, .int 0, .ref o]) rfl ?_
  refine lv_i2l (pc := 8) (v := z.toInt64) hx hb dL_seal_8 rfl ?_
  refine g_last (pc := 9) (n := 1) (f := f) (ws' := (xL n q0 q cA σ0 σ o (vp_updL f 0 z.toInt64))) C h 0 rfl (show inb (0 : Int32) 1 from by decide) rfl dL_seal_9 (fun H locs h => ?_)
  refine lv_goto (pc := 10) (tgt := 17) hx hb dL_seal_10 (by decide) ?_
  refine lv_iconst (pc := 17) (v := 0) hx hb dL_seal_17 (by decide) ?_
  exact end_W (pc := 18) C hr (by decide) (by decide) h dL_seal_18
set_option maxHeartbeats 400000 in
set_option maxRecDepth 100000 in
theorem wT_seal_0 {n : Nat} (hn : n ≤ 6) {q0 : Nat → Nat} {q : Nat → Nat → Nat} {cA : Nat → ClassId} {D : va_G} (σ0 : Nat → Nat → Int32) (σ : Nat → Nat → Nat → Int32) (x1 x2 : Int32) (hf : f_X4_seal n σ0 σ x1 x2 = some (.inl IOB)) (o : Nat) (f : Nat → Int64) : CtW yL_seal cL_seal 5 [(0, 10, 13, 19)] rmW_seal [.ref (q0 0), .int x1, .int x2, .ref o] D cA (xL n q0 q cA σ0 σ o f) (xL n q0 q cA σ0 σ o f) 1 := by
  refine vxW_of (Qc := fun sz => PostU D (xL n q0 q cA σ0 σ o f) (xL n q0 q cA σ0 σ o f) sz (some (.int 1))) (by decide) (Nat.le_of_ble_eq_true rfl) ?_
  intro p l e s m below meth c ls hl0 C hr htab hX hN hR0 h hl
  have C : Cx p s m _ meth c cL_seal 5 RL D cA := C
  obtain ⟨hx, hb, hml, hown, hts, hK, hlk⟩ := id C
  replace hl : lv_has ls 5 [(0, .ref (q0 0)), (1, .int x1), (2, .int x2), (3, .ref o)] := hl
  refine lv_aload_n (pc := 0) hx hb dL_seal_0 rfl (lv_at hl 3 rfl) ?_
  refine lv_iconst (pc := 1) (v := 0) hx hb dL_seal_1 (by decide) ?_
  refine lv_aload_n (pc := 2) hx hb dL_seal_2 rfl (lv_at hl 0 rfl) ?_
  refine lv_iload_n (pc := 3) hx hb dL_seal_3 rfl (lv_at hl 1 rfl) ?_
  refine lv_iload_n (pc := 4) hx hb dL_seal_4 rfl (lv_at hl 2 rfl) ?_
  refine call_C (pc := 5) (hpc := 13) (As := [.int x1, .int x2]) (rest := [.int 0, .ref o]) (E := IOB) C hl0 hX hR0 h (kT_X4_seal hn σ0 σ x1 x2 hf) cw_L_112 1 (xL_c1 ..) rfl (List.range' 1 (sW n q0 q cA σ0 σ).length) (tail_map _ _) (nd_of _ List.nodup_range') rfl rfl hl.1 (Nat.le_of_ble_eq_true rfl) dL_seal_5 ⟨(Nat.le_of_ble_eq_true rfl), (Nat.le_of_ble_eq_true rfl)⟩ rfl rfl ⟨(Nat.le_of_ble_eq_true rfl), (Nat.le_of_ble_eq_true rfl)⟩ (fun H1 locs1 q9 ce h1 h2 h3 k => vx_catch (name := IOB) hown [] ⟨0, 10, 13, 19⟩ [] (htab.trans rfl) (fun z hz => by cases hz) (by decide) (by decide) (hts _ cl_19) (cast_ok hX.2.1 cs1.1) h1 h2 h3 k) (fun q9 H locs h => ?_)
  refine lv_astore (pc := 13) (lv' := [(4, .ref q9), (0, .ref (q0 0)), (1, .int x1), (2, .int x2), (3, .ref o)]) hx hb dL_seal_13 hl (by decide) rfl (fun ls hl => ?_)
  refine lv_iconst (pc := 15) (v := 1) hx hb dL_seal_15 (by decide) ?_
  exact end_W (pc := 16) C hr (by decide) (by decide) h dL_seal_16
abbrev rmW_stateBehind : Room := { frames := 8, cells := 1, slots := 6, locals := 127 }
set_option maxHeartbeats 400000 in
set_option maxRecDepth 100000 in
theorem w_stateBehind {n : Nat} (hn : n ≤ 6) {q0 : Nat → Nat} {q : Nat → Nat → Nat} {cA : Nat → ClassId} {D : va_G} (σ0 : Nat → Nat → Int32) (σ : Nat → Nat → Nat → Int32) (x1 x2 : Int32) {z : Int32} (hf : f_X4_stateBehind n σ0 σ x1 x2 = some (.inr z)) (o : Nat) (f : Nat → Int64) : CtW yL_stateBehind cL_stateBehind 5 [(0, 10, 13, 19)] rmW_stateBehind [.ref (q0 0), .int x1, .int x2, .ref o] D cA (xL n q0 q cA σ0 σ o f) (xL n q0 q cA σ0 σ o (vp_updL f 0 z.toInt64)) 0 := by
  refine vxW_of (Qc := fun sz => PostU D (xL n q0 q cA σ0 σ o f) (xL n q0 q cA σ0 σ o (vp_updL f 0 z.toInt64)) sz (some (.int 0))) (by decide) (Nat.le_of_ble_eq_true rfl) ?_
  intro p l e s m below meth c ls hl0 C hr htab hX hN hR0 h hl
  have C : Cx p s m _ meth c cL_stateBehind 5 RL D cA := C
  obtain ⟨hx, hb, hml, hown, hts, hK, hlk⟩ := id C
  replace hl : lv_has ls 5 [(0, .ref (q0 0)), (1, .int x1), (2, .int x2), (3, .ref o)] := hl
  refine lv_aload_n (pc := 0) hx hb dL_stateBehind_0 rfl (lv_at hl 3 rfl) ?_
  refine lv_iconst (pc := 1) (v := 0) hx hb dL_stateBehind_1 (by decide) ?_
  refine lv_aload_n (pc := 2) hx hb dL_stateBehind_2 rfl (lv_at hl 0 rfl) ?_
  refine lv_iload_n (pc := 3) hx hb dL_stateBehind_3 rfl (lv_at hl 1 rfl) ?_
  refine lv_iload_n (pc := 4) hx hb dL_stateBehind_4 rfl (lv_at hl 2 rfl) ?_
  refine call_VR (pc := 5) (As := [.int x1, .int x2]) (rest := [.int 0, .ref o]) C h (k_X4_stateBehind hn σ0 σ x1 x2 hf) cw_L_115 1 (xL_c1 ..) rfl (List.range' 1 (sW n q0 q cA σ0 σ).length) (tail_map _ _) (nd_of _ List.nodup_range') rfl rfl hl.1 (Nat.le_of_ble_eq_true rfl) dL_stateBehind_5 ⟨(Nat.le_of_ble_eq_true rfl), (Nat.le_of_ble_eq_true rfl)⟩ rfl rfl ⟨(Nat.le_of_ble_eq_true rfl), (Nat.le_of_ble_eq_true rfl)⟩ (fun H locs h => ?_)
  refine W.eq (g2 := F0 m 8 ls [.int z, .int 0, .ref o]) rfl ?_
  refine lv_i2l (pc := 8) (v := z.toInt64) hx hb dL_stateBehind_8 rfl ?_
  refine g_last (pc := 9) (n := 1) (f := f) (ws' := (xL n q0 q cA σ0 σ o (vp_updL f 0 z.toInt64))) C h 0 rfl (show inb (0 : Int32) 1 from by decide) rfl dL_stateBehind_9 (fun H locs h => ?_)
  refine lv_goto (pc := 10) (tgt := 17) hx hb dL_stateBehind_10 (by decide) ?_
  refine lv_iconst (pc := 17) (v := 0) hx hb dL_stateBehind_17 (by decide) ?_
  exact end_W (pc := 18) C hr (by decide) (by decide) h dL_stateBehind_18
set_option maxHeartbeats 400000 in
set_option maxRecDepth 100000 in
theorem wT_stateBehind_0 {n : Nat} (hn : n ≤ 6) {q0 : Nat → Nat} {q : Nat → Nat → Nat} {cA : Nat → ClassId} {D : va_G} (σ0 : Nat → Nat → Int32) (σ : Nat → Nat → Nat → Int32) (x1 x2 : Int32) (hf : f_X4_stateBehind n σ0 σ x1 x2 = some (.inl IOB)) (o : Nat) (f : Nat → Int64) : CtW yL_stateBehind cL_stateBehind 5 [(0, 10, 13, 19)] rmW_stateBehind [.ref (q0 0), .int x1, .int x2, .ref o] D cA (xL n q0 q cA σ0 σ o f) (xL n q0 q cA σ0 σ o f) 1 := by
  refine vxW_of (Qc := fun sz => PostU D (xL n q0 q cA σ0 σ o f) (xL n q0 q cA σ0 σ o f) sz (some (.int 1))) (by decide) (Nat.le_of_ble_eq_true rfl) ?_
  intro p l e s m below meth c ls hl0 C hr htab hX hN hR0 h hl
  have C : Cx p s m _ meth c cL_stateBehind 5 RL D cA := C
  obtain ⟨hx, hb, hml, hown, hts, hK, hlk⟩ := id C
  replace hl : lv_has ls 5 [(0, .ref (q0 0)), (1, .int x1), (2, .int x2), (3, .ref o)] := hl
  refine lv_aload_n (pc := 0) hx hb dL_stateBehind_0 rfl (lv_at hl 3 rfl) ?_
  refine lv_iconst (pc := 1) (v := 0) hx hb dL_stateBehind_1 (by decide) ?_
  refine lv_aload_n (pc := 2) hx hb dL_stateBehind_2 rfl (lv_at hl 0 rfl) ?_
  refine lv_iload_n (pc := 3) hx hb dL_stateBehind_3 rfl (lv_at hl 1 rfl) ?_
  refine lv_iload_n (pc := 4) hx hb dL_stateBehind_4 rfl (lv_at hl 2 rfl) ?_
  refine call_C (pc := 5) (hpc := 13) (As := [.int x1, .int x2]) (rest := [.int 0, .ref o]) (E := IOB) C hl0 hX hR0 h (kT_X4_stateBehind hn σ0 σ x1 x2 hf) cw_L_115 1 (xL_c1 ..) rfl (List.range' 1 (sW n q0 q cA σ0 σ).length) (tail_map _ _) (nd_of _ List.nodup_range') rfl rfl hl.1 (Nat.le_of_ble_eq_true rfl) dL_stateBehind_5 ⟨(Nat.le_of_ble_eq_true rfl), (Nat.le_of_ble_eq_true rfl)⟩ rfl rfl ⟨(Nat.le_of_ble_eq_true rfl), (Nat.le_of_ble_eq_true rfl)⟩ (fun H1 locs1 q9 ce h1 h2 h3 k => vx_catch (name := IOB) hown [] ⟨0, 10, 13, 19⟩ [] (htab.trans rfl) (fun z hz => by cases hz) (by decide) (by decide) (hts _ cl_19) (cast_ok hX.2.1 cs1.1) h1 h2 h3 k) (fun q9 H locs h => ?_)
  refine lv_astore (pc := 13) (lv' := [(4, .ref q9), (0, .ref (q0 0)), (1, .int x1), (2, .int x2), (3, .ref o)]) hx hb dL_stateBehind_13 hl (by decide) rfl (fun ls hl => ?_)
  refine lv_iconst (pc := 15) (v := 1) hx hb dL_stateBehind_15 (by decide) ?_
  exact end_W (pc := 16) C hr (by decide) (by decide) h dL_stateBehind_16
abbrev rmW_openBehind : Room := { frames := 8, cells := 1, slots := 6, locals := 127 }
set_option maxHeartbeats 400000 in
set_option maxRecDepth 100000 in
theorem w_openBehind {n : Nat} (hn : n ≤ 6) {q0 : Nat → Nat} {q : Nat → Nat → Nat} {cA : Nat → ClassId} {D : va_G} (σ0 : Nat → Nat → Int32) (σ : Nat → Nat → Nat → Int32) (x1 x2 : Int32) {z : Int32} (hf : f_X4_openBehind n σ0 σ x1 x2 = some (.inr z)) (o : Nat) (f : Nat → Int64) : CtW yL_openBehind cL_openBehind 5 [(0, 10, 13, 19)] rmW_openBehind [.ref (q0 0), .int x1, .int x2, .ref o] D cA (xL n q0 q cA σ0 σ o f) (xL n q0 q cA σ0 σ o (vp_updL f 0 z.toInt64)) 0 := by
  refine vxW_of (Qc := fun sz => PostU D (xL n q0 q cA σ0 σ o f) (xL n q0 q cA σ0 σ o (vp_updL f 0 z.toInt64)) sz (some (.int 0))) (by decide) (Nat.le_of_ble_eq_true rfl) ?_
  intro p l e s m below meth c ls hl0 C hr htab hX hN hR0 h hl
  have C : Cx p s m _ meth c cL_openBehind 5 RL D cA := C
  obtain ⟨hx, hb, hml, hown, hts, hK, hlk⟩ := id C
  replace hl : lv_has ls 5 [(0, .ref (q0 0)), (1, .int x1), (2, .int x2), (3, .ref o)] := hl
  refine lv_aload_n (pc := 0) hx hb dL_openBehind_0 rfl (lv_at hl 3 rfl) ?_
  refine lv_iconst (pc := 1) (v := 0) hx hb dL_openBehind_1 (by decide) ?_
  refine lv_aload_n (pc := 2) hx hb dL_openBehind_2 rfl (lv_at hl 0 rfl) ?_
  refine lv_iload_n (pc := 3) hx hb dL_openBehind_3 rfl (lv_at hl 1 rfl) ?_
  refine lv_iload_n (pc := 4) hx hb dL_openBehind_4 rfl (lv_at hl 2 rfl) ?_
  refine call_VR (pc := 5) (As := [.int x1, .int x2]) (rest := [.int 0, .ref o]) C h (k_X4_openBehind hn σ0 σ x1 x2 hf) cw_L_118 1 (xL_c1 ..) rfl (List.range' 1 (sW n q0 q cA σ0 σ).length) (tail_map _ _) (nd_of _ List.nodup_range') rfl rfl hl.1 (Nat.le_of_ble_eq_true rfl) dL_openBehind_5 ⟨(Nat.le_of_ble_eq_true rfl), (Nat.le_of_ble_eq_true rfl)⟩ rfl rfl ⟨(Nat.le_of_ble_eq_true rfl), (Nat.le_of_ble_eq_true rfl)⟩ (fun H locs h => ?_)
  refine W.eq (g2 := F0 m 8 ls [.int z, .int 0, .ref o]) rfl ?_
  refine lv_i2l (pc := 8) (v := z.toInt64) hx hb dL_openBehind_8 rfl ?_
  refine g_last (pc := 9) (n := 1) (f := f) (ws' := (xL n q0 q cA σ0 σ o (vp_updL f 0 z.toInt64))) C h 0 rfl (show inb (0 : Int32) 1 from by decide) rfl dL_openBehind_9 (fun H locs h => ?_)
  refine lv_goto (pc := 10) (tgt := 17) hx hb dL_openBehind_10 (by decide) ?_
  refine lv_iconst (pc := 17) (v := 0) hx hb dL_openBehind_17 (by decide) ?_
  exact end_W (pc := 18) C hr (by decide) (by decide) h dL_openBehind_18
set_option maxHeartbeats 400000 in
set_option maxRecDepth 100000 in
theorem wT_openBehind_0 {n : Nat} (hn : n ≤ 6) {q0 : Nat → Nat} {q : Nat → Nat → Nat} {cA : Nat → ClassId} {D : va_G} (σ0 : Nat → Nat → Int32) (σ : Nat → Nat → Nat → Int32) (x1 x2 : Int32) (hf : f_X4_openBehind n σ0 σ x1 x2 = some (.inl IOB)) (o : Nat) (f : Nat → Int64) : CtW yL_openBehind cL_openBehind 5 [(0, 10, 13, 19)] rmW_openBehind [.ref (q0 0), .int x1, .int x2, .ref o] D cA (xL n q0 q cA σ0 σ o f) (xL n q0 q cA σ0 σ o f) 1 := by
  refine vxW_of (Qc := fun sz => PostU D (xL n q0 q cA σ0 σ o f) (xL n q0 q cA σ0 σ o f) sz (some (.int 1))) (by decide) (Nat.le_of_ble_eq_true rfl) ?_
  intro p l e s m below meth c ls hl0 C hr htab hX hN hR0 h hl
  have C : Cx p s m _ meth c cL_openBehind 5 RL D cA := C
  obtain ⟨hx, hb, hml, hown, hts, hK, hlk⟩ := id C
  replace hl : lv_has ls 5 [(0, .ref (q0 0)), (1, .int x1), (2, .int x2), (3, .ref o)] := hl
  refine lv_aload_n (pc := 0) hx hb dL_openBehind_0 rfl (lv_at hl 3 rfl) ?_
  refine lv_iconst (pc := 1) (v := 0) hx hb dL_openBehind_1 (by decide) ?_
  refine lv_aload_n (pc := 2) hx hb dL_openBehind_2 rfl (lv_at hl 0 rfl) ?_
  refine lv_iload_n (pc := 3) hx hb dL_openBehind_3 rfl (lv_at hl 1 rfl) ?_
  refine lv_iload_n (pc := 4) hx hb dL_openBehind_4 rfl (lv_at hl 2 rfl) ?_
  refine call_C (pc := 5) (hpc := 13) (As := [.int x1, .int x2]) (rest := [.int 0, .ref o]) (E := IOB) C hl0 hX hR0 h (kT_X4_openBehind hn σ0 σ x1 x2 hf) cw_L_118 1 (xL_c1 ..) rfl (List.range' 1 (sW n q0 q cA σ0 σ).length) (tail_map _ _) (nd_of _ List.nodup_range') rfl rfl hl.1 (Nat.le_of_ble_eq_true rfl) dL_openBehind_5 ⟨(Nat.le_of_ble_eq_true rfl), (Nat.le_of_ble_eq_true rfl)⟩ rfl rfl ⟨(Nat.le_of_ble_eq_true rfl), (Nat.le_of_ble_eq_true rfl)⟩ (fun H1 locs1 q9 ce h1 h2 h3 k => vx_catch (name := IOB) hown [] ⟨0, 10, 13, 19⟩ [] (htab.trans rfl) (fun z hz => by cases hz) (by decide) (by decide) (hts _ cl_19) (cast_ok hX.2.1 cs1.1) h1 h2 h3 k) (fun q9 H locs h => ?_)
  refine lv_astore (pc := 13) (lv' := [(4, .ref q9), (0, .ref (q0 0)), (1, .int x1), (2, .int x2), (3, .ref o)]) hx hb dL_openBehind_13 hl (by decide) rfl (fun ls hl => ?_)
  refine lv_iconst (pc := 15) (v := 1) hx hb dL_openBehind_15 (by decide) ?_
  exact end_W (pc := 16) C hr (by decide) (by decide) h dL_openBehind_16
end
