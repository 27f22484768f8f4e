section
variable {p : Program} {l : Launch} {e : Env} {s : State} {m : MethodId} {args : Array Value} {below : List Frame} {meth : Method} {c : Code} {H : Heap} {locs : List Loc} {cells slots : Nat} {Q : State → Prop} {D : va_G} {cA : Nat → ClassId} {b L : Nat} {xs : Nat → Int32} {ls : Array Slot}
set_option maxHeartbeats 1000000 in
set_option maxRecDepth 100000 in
theorem law_missing {Inv : IT} (hn6 : ∀ t n σ0 σ τ, Inv t n σ0 σ τ → n ≤ 6) (S : SA_missing Inv) {t n : Nat} {q0 : Nat → Nat} {q : Nat → Nat → Nat} {qm : Nat → Nat} {σ0 τ : Nat → Nat → Int32} {σ : Nat → Nat → Nat → Int32} {o o2 : Nat} {f : Nat → Int64} {f2 : Nat → UInt64} {i : Int32} (ht : t < 512) (hI : Inv t n σ0 σ τ)
    (X : LX p l s m args meth c D cA b L xs) (h : St D (nA s) s.heap (wL n q0 q qm cA σ0 σ τ o o2 f f2) H locs) (hi : HI i L) (hl : lv_has ls 8 (L0 b (q0 0) (qm 0) o o2 i)) (hc : cells + 20 ≤ 601024) (hs : slots + 263 ≤ 7293034)
    (kk : LK p l e s m args below meth c D cA b q0 qm o o2 Inv t i cells slots Q) : W p l e room_1 s m args below meth c H locs cells slots Q (F0 m 1450 ls []) := by
  obtain ⟨C, hl0, hX, hN, hscr, hbl⟩ := X
  obtain ⟨hi0, hi1, hi2, hi3, hi4, hi5⟩ := hi
  obtain ⟨hx, hb, hml, hown, hts, hK, hlk⟩ := id C
  have hbA : ¬ nA s b := Nat.not_le.mpr hbl
  have hn := hn6 _ _ _ _ _ hI
  obtain ⟨w, τ', h5, ⟨hf, hI2, hthr⟩ | ⟨hf, hI2, hthr⟩⟩ := S _ _ _ _ _ _ _ ht hI
  · refine lv_aload_n (pc := 1450) hx hb dL_law_1450 rfl (lv_at hl 1 rfl) ?_
    refine lv_aload_n (pc := 1451) hx hb dL_law_1451 rfl (lv_at hl 0 rfl) ?_
    refine lv_iload (pc := 1452) hx hb dL_law_1452 (lv_at hl 5 rfl) ?_
    refine lv_iconst (pc := 1454) (v := 1) hx hb dL_law_1454 (by decide) ?_
    refine lv_iadd (pc := 1455) hx hb dL_law_1455 ?_
    refine va_sld (pc := 1456) hx hb hscr hbl hbA h.2.2.1 hi1 dL_law_1456 ?_
    refine lv_aload_n (pc := 1457) hx hb dL_law_1457 rfl (lv_at hl 0 rfl) ?_
    refine lv_iload (pc := 1458) hx hb dL_law_1458 (lv_at hl 5 rfl) ?_
    refine lv_iconst (pc := 1460) (v := 2) hx hb dL_law_1460 (by decide) ?_
    refine lv_iadd (pc := 1461) hx hb dL_law_1461 ?_
    refine va_sld (pc := 1462) hx hb hscr hbl hbA h.2.2.1 hi2 dL_law_1462 ?_
    refine lv_aload_n (pc := 1463) hx hb dL_law_1463 rfl (lv_at hl 3 rfl) ?_
    refine call_W (pc := 1464) (rest := []) (As := [.ref (q0 0), .int (xs (i + 1).toNatClampNeg), .int (xs (i + 2).toNatClampNeg), .ref o]) (ws' := wL n q0 q qm cA σ0 σ τ o o2 (vp_updL f 0 w.toInt64) f2) C hl0 hX hN h (w_missing hn σ0 σ (xs (i + 1).toNatClampNeg) (xs (i + 2).toNatClampNeg) hf o f) cx_L_201 (wL_L ..) (wL_L n q0 q qm cA σ0 σ τ o o2 (vp_updL f 0 w.toInt64) f2).symm (xL_fst ..) rfl rfl hl.1 (Nat.le_of_ble_eq_true rfl) dL_law_1464 ⟨(Nat.le_of_ble_eq_true rfl), (Nat.le_of_ble_eq_true rfl)⟩ rfl rfl ⟨by show cells + 1 ≤ 601024; omega, by show slots + 6 ≤ 7293034; omega⟩ (fun H locs h => ?_)
    refine W.eq (g2 := F0 m 1467 ls [.int 0]) rfl ?_
    refine lv_istore (pc := 1467) (lv' := [(6, .int 0), (0, .ref b), (1, .ref (q0 0)), (2, .ref (qm 0)), (3, .ref o), (4, .ref o2), (5, .int i)]) hx hb dL_law_1467 hl (by decide) rfl (fun ls hl => ?_)
    refine lv_aload_n (pc := 1469) hx hb dL_law_1469 rfl (lv_at hl 3 rfl) ?_
    refine lv_aload_n (pc := 1470) hx hb dL_law_1470 rfl (lv_at hl 1 rfl) ?_
    refine lv_iload (pc := 1471) hx hb dL_law_1471 (lv_at hl 6 rfl) ?_
    refine lv_iconst (pc := 1473) (v := 1) hx hb dL_law_1473 (by decide) ?_
    refine lv_iadd (pc := 1474) hx hb dL_law_1474 ?_
    refine va_sld (pc := 1475) hx hb hscr hbl hbA h.2.2.1 hi1 dL_law_1475 ?_
    refine lv_aload_n (pc := 1476) hx hb dL_law_1476 rfl (lv_at hl 1 rfl) ?_
    refine lv_iload (pc := 1477) hx hb dL_law_1477 (lv_at hl 6 rfl) ?_
    refine lv_iconst (pc := 1479) (v := 2) hx hb dL_law_1479 (by decide) ?_
    refine lv_iadd (pc := 1480) hx hb dL_law_1480 ?_
    refine va_sld (pc := 1481) hx hb hscr hbl hbA h.2.2.1 hi2 dL_law_1481 ?_
    refine call_VUp (pc := 1482) (rest := []) (As := [.int (xs (i + 1).toNatClampNeg), .int (xs (i + 2).toNatClampNeg)]) (wc' := mW qm cA τ') (ws' := wL n q0 q qm cA σ0 σ τ' o o2 (vp_updL f 0 w.toInt64) f2) C h (k_X5_missing (q := qm) τ (xs (i + 1).toNatClampNeg) (xs (i + 2).toNatClampNeg) h5) cm_L_203 (mW_c0 ..) rfl (wL_M ..) (wL_M n q0 q qm cA σ0 σ τ' o o2 (vp_updL f 0 w.toInt64) f2).symm (mW_fst ..) rfl rfl hl.1 (Nat.le_of_ble_eq_true rfl) dL_law_1482 ⟨(Nat.le_of_ble_eq_true rfl), (Nat.le_of_ble_eq_true rfl)⟩ rfl rfl ⟨by show _ ≤ 601024; omega, by show _ ≤ 7293034; omega⟩ (fun H locs h => ?_)
    refine W.eq (g2 := F0 m 1485 ls [.int w]) rfl ?_
    refine lv_istore (pc := 1485) (lv' := [(7, .int w), (6, .int 0), (0, .ref b), (1, .ref (q0 0)), (2, .ref (qm 0)), (3, .ref o), (4, .ref o2), (5, .int i)]) hx hb dL_law_1485 hl (by decide) rfl (fun ls hl => ?_)
    refine lv_aload_n (pc := 1487) hx hb dL_law_1487 rfl (lv_at hl 4 rfl) ?_
    refine call_VRp (pc := 1488) (rest := []) (As := []) C h (k_X5_thrown (q := qm) τ' rfl) cm_L_131 (mW_c0 ..) rfl (wL_M ..) rfl rfl hl.1 (Nat.le_of_ble_eq_true rfl) dL_law_1488 ⟨(Nat.le_of_ble_eq_true rfl), (Nat.le_of_ble_eq_true rfl)⟩ rfl rfl ⟨by show _ ≤ 601024; omega, by show _ ≤ 7293034; omega⟩ (fun H locs h => ?_)
    refine W.eq (g2 := F0 m 1491 ls [.int (τ' 24 0)]) rfl ?_
    refine lv_iload (pc := 1491) hx hb dL_law_1491 (lv_at hl 1 rfl) ?_
    refine lv_icmp_eq (pc := 1493) (tgt := 1498) hx hb dL_law_1493 (by decide) (fun _ => ?_) (fun c9 => absurd hthr c9)
    refine lv_iload (pc := 1498) hx hb dL_law_1498 (lv_at hl 1 rfl) ?_
    refine lv_if_ne (pc := 1500) (tgt := 1515) hx hb dL_law_1500 (by decide) (fun c9 => absurd rfl c9) (fun _ => ?_)
    refine lv_aload_n (pc := 1503) hx hb dL_law_1503 rfl (lv_at hl 5 rfl) ?_
    refine lv_iconst (pc := 1504) (v := 0) hx hb dL_law_1504 (by decide) ?_
    refine va_lald (pc := 1505) hx hb hK.1 h.1 0 3 (wL_o ..) rfl (show inb (0 : Int32) 1 from by decide) dL_law_1505 ?_
    refine W.eq (g2 := F0 m 1506 ls [.long w.toInt64]) rfl ?_
    refine lv_iload (pc := 1506) hx hb dL_law_1506 (lv_at hl 0 rfl) ?_
    refine lv_i2l (pc := 1508) (v := w.toInt64) hx hb dL_law_1508 rfl ?_
    refine W.lcmp (pc := 1509) hx hb dL_law_1509 ?_
    rw [cmp_self]
    refine lv_if_eq (pc := 1510) (tgt := 1515) hx hb dL_law_1510 (by decide) (fun _ => ?_) (fun c9 => absurd rfl c9)
    refine lv_goto (pc := 1515) (tgt := 2364) hx hb dL_law_1515 (by decide) ?_
    exact W.widen (by omega) (by omega) (kk _ _ _ _ _ _ _ _ _ hI2 h ls (lv_sub hl [2, 3, 4, 5, 6, 7] rfl))
  · refine lv_aload_n (pc := 1450) hx hb dL_law_1450 rfl (lv_at hl 1 rfl) ?_
    refine lv_aload_n (pc := 1451) hx hb dL_law_1451 rfl (lv_at hl 0 rfl) ?_
    refine lv_iload (pc := 1452) hx hb dL_law_1452 (lv_at hl 5 rfl) ?_
    refine lv_iconst (pc := 1454) (v := 1) hx hb dL_law_1454 (by decide) ?_
    refine lv_iadd (pc := 1455) hx hb dL_law_1455 ?_
    refine va_sld (pc := 1456) hx hb hscr hbl hbA h.2.2.1 hi1 dL_law_1456 ?_
    refine lv_aload_n (pc := 1457) hx hb dL_law_1457 rfl (lv_at hl 0 rfl) ?_
    refine lv_iload (pc := 1458) hx hb dL_law_1458 (lv_at hl 5 rfl) ?_
    refine lv_iconst (pc := 1460) (v := 2) hx hb dL_law_1460 (by decide) ?_
    refine lv_iadd (pc := 1461) hx hb dL_law_1461 ?_
    refine va_sld (pc := 1462) hx hb hscr hbl hbA h.2.2.1 hi2 dL_law_1462 ?_
    refine lv_aload_n (pc := 1463) hx hb dL_law_1463 rfl (lv_at hl 3 rfl) ?_
    refine call_W (pc := 1464) (rest := []) (As := [.ref (q0 0), .int (xs (i + 1).toNatClampNeg), .int (xs (i + 2).toNatClampNeg), .ref o]) (ws' := wL n q0 q qm cA σ0 σ τ o o2 f f2) C hl0 hX hN h (wT_missing_0 hn σ0 σ (xs (i + 1).toNatClampNeg) (xs (i + 2).toNatClampNeg) hf o f) cx_L_201 (wL_L ..) (wL_L n q0 q qm cA σ0 σ τ o o2 f f2).symm rfl rfl rfl hl.1 (Nat.le_of_ble_eq_true rfl) dL_law_1464 ⟨(Nat.le_of_ble_eq_true rfl), (Nat.le_of_ble_eq_true rfl)⟩ rfl rfl ⟨by show cells + 1 ≤ 601024; omega, by show slots + 6 ≤ 7293034; omega⟩ (fun H locs h => ?_)
    refine W.eq (g2 := F0 m 1467 ls [.int 1]) rfl ?_
    refine lv_istore (pc := 1467) (lv' := [(6, .int 1), (0, .ref b), (1, .ref (q0 0)), (2, .ref (qm 0)), (3, .ref o), (4, .ref o2), (5, .int i)]) hx hb dL_law_1467 hl (by decide) rfl (fun ls hl => ?_)
    refine lv_aload_n (pc := 1469) hx hb dL_law_1469 rfl (lv_at hl 3 rfl) ?_
    refine lv_aload_n (pc := 1470) hx hb dL_law_1470 rfl (lv_at hl 1 rfl) ?_
    refine lv_iload (pc := 1471) hx hb dL_law_1471 (lv_at hl 6 rfl) ?_
    refine lv_iconst (pc := 1473) (v := 1) hx hb dL_law_1473 (by decide) ?_
    refine lv_iadd (pc := 1474) hx hb dL_law_1474 ?_
    refine va_sld (pc := 1475) hx hb hscr hbl hbA h.2.2.1 hi1 dL_law_1475 ?_
    refine lv_aload_n (pc := 1476) hx hb dL_law_1476 rfl (lv_at hl 1 rfl) ?_
    refine lv_iload (pc := 1477) hx hb dL_law_1477 (lv_at hl 6 rfl) ?_
    refine lv_iconst (pc := 1479) (v := 2) hx hb dL_law_1479 (by decide) ?_
    refine lv_iadd (pc := 1480) hx hb dL_law_1480 ?_
    refine va_sld (pc := 1481) hx hb hscr hbl hbA h.2.2.1 hi2 dL_law_1481 ?_
    refine call_VUp (pc := 1482) (rest := []) (As := [.int (xs (i + 1).toNatClampNeg), .int (xs (i + 2).toNatClampNeg)]) (wc' := mW qm cA τ') (ws' := wL n q0 q qm cA σ0 σ τ' o o2 f f2) C h (k_X5_missing (q := qm) τ (xs (i + 1).toNatClampNeg) (xs (i + 2).toNatClampNeg) h5) cm_L_203 (mW_c0 ..) rfl (wL_M ..) (wL_M n q0 q qm cA σ0 σ τ' o o2 f f2).symm (mW_fst ..) rfl rfl hl.1 (Nat.le_of_ble_eq_true rfl) dL_law_1482 ⟨(Nat.le_of_ble_eq_true rfl), (Nat.le_of_ble_eq_true rfl)⟩ rfl rfl ⟨by show _ ≤ 601024; omega, by show _ ≤ 7293034; omega⟩ (fun H locs h => ?_)
    refine W.eq (g2 := F0 m 1485 ls [.int w]) rfl ?_
    refine lv_istore (pc := 1485) (lv' := [(7, .int w), (6, .int 1), (0, .ref b), (1, .ref (q0 0)), (2, .ref (qm 0)), (3, .ref o), (4, .ref o2), (5, .int i)]) hx hb dL_law_1485 hl (by decide) rfl (fun ls hl => ?_)
    refine lv_aload_n (pc := 1487) hx hb dL_law_1487 rfl (lv_at hl 4 rfl) ?_
    refine call_VRp (pc := 1488) (rest := []) (As := []) C h (k_X5_thrown (q := qm) τ' rfl) cm_L_131 (mW_c0 ..) rfl (wL_M ..) rfl rfl hl.1 (Nat.le_of_ble_eq_true rfl) dL_law_1488 ⟨(Nat.le_of_ble_eq_true rfl), (Nat.le_of_ble_eq_true rfl)⟩ rfl rfl ⟨by show _ ≤ 601024; omega, by show _ ≤ 7293034; omega⟩ (fun H locs h => ?_)
    refine W.eq (g2 := F0 m 1491 ls [.int (τ' 24 0)]) rfl ?_
    refine lv_iload (pc := 1491) hx hb dL_law_1491 (lv_at hl 1 rfl) ?_
    refine lv_icmp_eq (pc := 1493) (tgt := 1498) hx hb dL_law_1493 (by decide) (fun _ => ?_) (fun c9 => absurd hthr c9)
    refine lv_iload (pc := 1498) hx hb dL_law_1498 (lv_at hl 1 rfl) ?_
    refine lv_if_ne (pc := 1500) (tgt := 1515) hx hb dL_law_1500 (by decide) (fun _ => ?_) (fun c9 => absurd c9 (by decide))
    refine lv_goto (pc := 1515) (tgt := 2364) hx hb dL_law_1515 (by decide) ?_
    exact W.widen (by omega) (by omega) (kk _ _ _ _ _ _ _ _ _ hI2 h ls (lv_sub hl [2, 3, 4, 5, 6, 7] rfl))
set_option maxHeartbeats 1000000 in
set_option maxRecDepth 100000 in
theorem law_share {Inv : IT} (hn6 : ∀ t n σ0 σ τ, Inv t n σ0 σ τ → n ≤ 6) (S : SA_share Inv) {t n : Nat} {q0 : Nat → Nat} {q : Nat → Nat → Nat} {qm : Nat → Nat} {σ0 τ : Nat → Nat → Int32} {σ : Nat → Nat → Nat → Int32} {o o2 : Nat} {f : Nat → Int64} {f2 : Nat → UInt64} {i : Int32} (ht : t < 512) (hI : Inv t n σ0 σ τ)
    (X : LX p l s m args meth c D cA b L xs) (h : St D (nA s) s.heap (wL n q0 q qm cA σ0 σ τ o o2 f f2) H locs) (hi : HI i L) (hl : lv_has ls 8 (L0 b (q0 0) (qm 0) o o2 i)) (hc : cells + 20 ≤ 601024) (hs : slots + 263 ≤ 7293034)
    (kk : LK p l e s m args below meth c D cA b q0 qm o o2 Inv t i cells slots Q) : W p l e room_1 s m args below meth c H locs cells slots Q (F0 m 1518 ls []) := by
  obtain ⟨C, hl0, hX, hN, hscr, hbl⟩ := X
  obtain ⟨hi0, hi1, hi2, hi3, hi4, hi5⟩ := hi
  obtain ⟨hx, hb, hml, hown, hts, hK, hlk⟩ := id C
  have hbA : ¬ nA s b := Nat.not_le.mpr hbl
  have hn := hn6 _ _ _ _ _ hI
  obtain ⟨w, τ', h5, ⟨hf, hI2, hthr, hnd, hcm⟩ | ⟨hf, hI2, hthr⟩⟩ := S _ _ _ _ _ _ ht hI
  · refine lv_aload_n (pc := 1518) hx hb dL_law_1518 rfl (lv_at hl 1 rfl) ?_
    refine lv_aload_n (pc := 1519) hx hb dL_law_1519 rfl (lv_at hl 0 rfl) ?_
    refine lv_iload (pc := 1520) hx hb dL_law_1520 (lv_at hl 5 rfl) ?_
    refine lv_iconst (pc := 1522) (v := 1) hx hb dL_law_1522 (by decide) ?_
    refine lv_iadd (pc := 1523) hx hb dL_law_1523 ?_
    refine va_sld (pc := 1524) hx hb hscr hbl hbA h.2.2.1 hi1 dL_law_1524 ?_
    refine lv_aload (pc := 1525) hx hb dL_law_1525 (lv_at hl 4 rfl) ?_
    refine call_W (pc := 1527) (rest := []) (As := [.ref (q0 0), .int (xs (i + 1).toNatClampNeg), .ref o2]) (ws' := wL n q0 q qm cA σ0 σ τ o o2 f (vf_upd f2 0 (FP.f2d w))) C hl0 hX hN h (w_share hn σ0 σ (xs (i + 1).toNatClampNeg) hf hnd o2 f2) cx_L_204 (wL_D ..) (wL_D n q0 q qm cA σ0 σ τ o o2 f (vf_upd f2 0 (FP.f2d w))).symm (xD_fst ..) rfl rfl hl.1 (Nat.le_of_ble_eq_true rfl) dL_law_1527 ⟨(Nat.le_of_ble_eq_true rfl), (Nat.le_of_ble_eq_true rfl)⟩ rfl rfl ⟨by show cells + 1 ≤ 601024; omega, by show slots + 6 ≤ 7293034; omega⟩ (fun H locs h => ?_)
    refine W.eq (g2 := F0 m 1530 ls [.int 0]) rfl ?_
    refine lv_istore (pc := 1530) (lv' := [(6, .int 0), (0, .ref b), (1, .ref (q0 0)), (2, .ref (qm 0)), (3, .ref o), (4, .ref o2), (5, .int i)]) hx hb dL_law_1530 hl (by decide) rfl (fun ls hl => ?_)
    refine lv_aload_n (pc := 1532) hx hb dL_law_1532 rfl (lv_at hl 3 rfl) ?_
    refine lv_aload_n (pc := 1533) hx hb dL_law_1533 rfl (lv_at hl 1 rfl) ?_
    refine lv_iload (pc := 1534) hx hb dL_law_1534 (lv_at hl 6 rfl) ?_
    refine lv_iconst (pc := 1536) (v := 1) hx hb dL_law_1536 (by decide) ?_
    refine lv_iadd (pc := 1537) hx hb dL_law_1537 ?_
    refine va_sld (pc := 1538) hx hb hscr hbl hbA h.2.2.1 hi1 dL_law_1538 ?_
    refine call_VUp (pc := 1539) (rest := []) (As := [.int (xs (i + 1).toNatClampNeg)]) (wc' := mW qm cA τ') (ws' := wL n q0 q qm cA σ0 σ τ' o o2 f (vf_upd f2 0 (FP.f2d w))) C h (k_X5_share (q := qm) τ (xs (i + 1).toNatClampNeg) h5) cm_L_207 (mW_c0 ..) rfl (wL_M ..) (wL_M n q0 q qm cA σ0 σ τ' o o2 f (vf_upd f2 0 (FP.f2d w))).symm (mW_fst ..) rfl rfl hl.1 (Nat.le_of_ble_eq_true rfl) dL_law_1539 ⟨(Nat.le_of_ble_eq_true rfl), (Nat.le_of_ble_eq_true rfl)⟩ rfl rfl ⟨by show _ ≤ 601024; omega, by show _ ≤ 7293034; omega⟩ (fun H locs h => ?_)
    refine W.eq (g2 := F0 m 1542 ls [.float w]) rfl ?_
    refine lv_fstore (pc := 1542) (lv' := [(7, .float w), (6, .int 0), (0, .ref b), (1, .ref (q0 0)), (2, .ref (qm 0)), (3, .ref o), (4, .ref o2), (5, .int i)]) hx hb dL_law_1542 hl (by decide) rfl (fun ls hl => ?_)
    refine lv_aload_n (pc := 1544) hx hb dL_law_1544 rfl (lv_at hl 4 rfl) ?_
    refine call_VRp (pc := 1545) (rest := []) (As := []) C h (k_X5_thrown (q := qm) τ' rfl) cm_L_131 (mW_c0 ..) rfl (wL_M ..) rfl rfl hl.1 (Nat.le_of_ble_eq_true rfl) dL_law_1545 ⟨(Nat.le_of_ble_eq_true rfl), (Nat.le_of_ble_eq_true rfl)⟩ rfl rfl ⟨by show _ ≤ 601024; omega, by show _ ≤ 7293034; omega⟩ (fun H locs h => ?_)
    refine W.eq (g2 := F0 m 1548 ls [.int (τ' 24 0)]) rfl ?_
    refine lv_iload (pc := 1548) hx hb dL_law_1548 (lv_at hl 1 rfl) ?_
    refine lv_icmp_eq (pc := 1550) (tgt := 1555) hx hb dL_law_1550 (by decide) (fun _ => ?_) (fun c9 => absurd hthr c9)
    refine lv_iload (pc := 1555) hx hb dL_law_1555 (lv_at hl 1 rfl) ?_
    refine lv_if_ne (pc := 1557) (tgt := 1593) hx hb dL_law_1557 (by decide) (fun c9 => absurd rfl c9) (fun _ => ?_)
    refine lv_aload (pc := 1560) hx hb dL_law_1560 (lv_at hl 6 rfl) ?_
    refine lv_iconst (pc := 1562) (v := 0) hx hb dL_law_1562 (by decide) ?_
    refine va_dald (pc := 1563) hx hb hK.1 h.1 1 4 (wL_o2 ..) rfl (show inb (0 : Int32) 1 from by decide) dL_law_1563 ?_
    refine W.eq (g2 := F0 m 1564 ls [.double (FP.f2d w)]) rfl ?_
    refine lv_fload (pc := 1564) hx hb dL_law_1564 (lv_at hl 0 rfl) ?_
    refine lv_f2d (pc := 1566) hx hb dL_law_1566 hnd ?_
    refine lv_dcmp (pc := 1567) hx hb dL_law_1567 ?_
    rw [hcm]
    refine lv_if_eq (pc := 1568) (tgt := 1593) hx hb dL_law_1568 (by decide) (fun _ => ?_) (fun c9 => absurd rfl c9)
    refine lv_goto (pc := 1593) (tgt := 2364) hx hb dL_law_1593 (by decide) ?_
    exact W.widen (by omega) (by omega) (kk _ _ _ _ _ _ _ _ _ hI2 h ls (lv_sub hl [2, 3, 4, 5, 6, 7] rfl))
  · refine lv_aload_n (pc := 1518) hx hb dL_law_1518 rfl (lv_at hl 1 rfl) ?_
    refine lv_aload_n (pc := 1519) hx hb dL_law_1519 rfl (lv_at hl 0 rfl) ?_
    refine lv_iload (pc := 1520) hx hb dL_law_1520 (lv_at hl 5 rfl) ?_
    refine lv_iconst (pc := 1522) (v := 1) hx hb dL_law_1522 (by decide) ?_
    refine lv_iadd (pc := 1523) hx hb dL_law_1523 ?_
    refine va_sld (pc := 1524) hx hb hscr hbl hbA h.2.2.1 hi1 dL_law_1524 ?_
    refine lv_aload (pc := 1525) hx hb dL_law_1525 (lv_at hl 4 rfl) ?_
    refine call_W (pc := 1527) (rest := []) (As := [.ref (q0 0), .int (xs (i + 1).toNatClampNeg), .ref o2]) (ws' := wL n q0 q qm cA σ0 σ τ o o2 f f2) C hl0 hX hN h (wT_share_0 hn σ0 σ (xs (i + 1).toNatClampNeg) hf o2 f2) cx_L_204 (wL_D ..) (wL_D n q0 q qm cA σ0 σ τ o o2 f f2).symm rfl rfl rfl hl.1 (Nat.le_of_ble_eq_true rfl) dL_law_1527 ⟨(Nat.le_of_ble_eq_true rfl), (Nat.le_of_ble_eq_true rfl)⟩ rfl rfl ⟨by show cells + 1 ≤ 601024; omega, by show slots + 6 ≤ 7293034; omega⟩ (fun H locs h => ?_)
    refine W.eq (g2 := F0 m 1530 ls [.int 1]) rfl ?_
    refine lv_istore (pc := 1530) (lv' := [(6, .int 1), (0, .ref b), (1, .ref (q0 0)), (2, .ref (qm 0)), (3, .ref o), (4, .ref o2), (5, .int i)]) hx hb dL_law_1530 hl (by decide) rfl (fun ls hl => ?_)
    refine lv_aload_n (pc := 1532) hx hb dL_law_1532 rfl (lv_at hl 3 rfl) ?_
    refine lv_aload_n (pc := 1533) hx hb dL_law_1533 rfl (lv_at hl 1 rfl) ?_
    refine lv_iload (pc := 1534) hx hb dL_law_1534 (lv_at hl 6 rfl) ?_
    refine lv_iconst (pc := 1536) (v := 1) hx hb dL_law_1536 (by decide) ?_
    refine lv_iadd (pc := 1537) hx hb dL_law_1537 ?_
    refine va_sld (pc := 1538) hx hb hscr hbl hbA h.2.2.1 hi1 dL_law_1538 ?_
    refine call_VUp (pc := 1539) (rest := []) (As := [.int (xs (i + 1).toNatClampNeg)]) (wc' := mW qm cA τ') (ws' := wL n q0 q qm cA σ0 σ τ' o o2 f f2) C h (k_X5_share (q := qm) τ (xs (i + 1).toNatClampNeg) h5) cm_L_207 (mW_c0 ..) rfl (wL_M ..) (wL_M n q0 q qm cA σ0 σ τ' o o2 f f2).symm (mW_fst ..) rfl rfl hl.1 (Nat.le_of_ble_eq_true rfl) dL_law_1539 ⟨(Nat.le_of_ble_eq_true rfl), (Nat.le_of_ble_eq_true rfl)⟩ rfl rfl ⟨by show _ ≤ 601024; omega, by show _ ≤ 7293034; omega⟩ (fun H locs h => ?_)
    refine W.eq (g2 := F0 m 1542 ls [.float w]) rfl ?_
    refine lv_fstore (pc := 1542) (lv' := [(7, .float w), (6, .int 1), (0, .ref b), (1, .ref (q0 0)), (2, .ref (qm 0)), (3, .ref o), (4, .ref o2), (5, .int i)]) hx hb dL_law_1542 hl (by decide) rfl (fun ls hl => ?_)
    refine lv_aload_n (pc := 1544) hx hb dL_law_1544 rfl (lv_at hl 4 rfl) ?_
    refine call_VRp (pc := 1545) (rest := []) (As := []) C h (k_X5_thrown (q := qm) τ' rfl) cm_L_131 (mW_c0 ..) rfl (wL_M ..) rfl rfl hl.1 (Nat.le_of_ble_eq_true rfl) dL_law_1545 ⟨(Nat.le_of_ble_eq_true rfl), (Nat.le_of_ble_eq_true rfl)⟩ rfl rfl ⟨by show _ ≤ 601024; omega, by show _ ≤ 7293034; omega⟩ (fun H locs h => ?_)
    refine W.eq (g2 := F0 m 1548 ls [.int (τ' 24 0)]) rfl ?_
    refine lv_iload (pc := 1548) hx hb dL_law_1548 (lv_at hl 1 rfl) ?_
    refine lv_icmp_eq (pc := 1550) (tgt := 1555) hx hb dL_law_1550 (by decide) (fun _ => ?_) (fun c9 => absurd hthr c9)
    refine lv_iload (pc := 1555) hx hb dL_law_1555 (lv_at hl 1 rfl) ?_
    refine lv_if_ne (pc := 1557) (tgt := 1593) hx hb dL_law_1557 (by decide) (fun _ => ?_) (fun c9 => absurd c9 (by decide))
    refine lv_goto (pc := 1593) (tgt := 2364) hx hb dL_law_1593 (by decide) ?_
    exact W.widen (by omega) (by omega) (kk _ _ _ _ _ _ _ _ _ hI2 h ls (lv_sub hl [2, 3, 4, 5, 6, 7] rfl))
set_option maxHeartbeats 1000000 in
set_option maxRecDepth 100000 in
theorem law_ahead {Inv : IT} (hn6 : ∀ t n σ0 σ τ, Inv t n σ0 σ τ → n ≤ 6) (S : SA_ahead Inv) {t n : Nat} {q0 : Nat → Nat} {q : Nat → Nat → Nat} {qm : Nat → Nat} {σ0 τ : Nat → Nat → Int32} {σ : Nat → Nat → Nat → Int32} {o o2 : Nat} {f : Nat → Int64} {f2 : Nat → UInt64} {i : Int32} (ht : t < 512) (hI : Inv t n σ0 σ τ)
    (X : LX p l s m args meth c D cA b L xs) (h : St D (nA s) s.heap (wL n q0 q qm cA σ0 σ τ o o2 f f2) H locs) (hi : HI i L) (hl : lv_has ls 8 (L0 b (q0 0) (qm 0) o o2 i)) (hc : cells + 20 ≤ 601024) (hs : slots + 263 ≤ 7293034)
    (kk : LK p l e s m args below meth c D cA b q0 qm o o2 Inv t i cells slots Q) : W p l e room_1 s m args below meth c H locs cells slots Q (F0 m 1596 ls []) := by
  obtain ⟨C, hl0, hX, hN, hscr, hbl⟩ := X
  obtain ⟨hi0, hi1, hi2, hi3, hi4, hi5⟩ := hi
  obtain ⟨hx, hb, hml, hown, hts, hK, hlk⟩ := id C
  have hbA : ¬ nA s b := Nat.not_le.mpr hbl
  have hn := hn6 _ _ _ _ _ hI
  obtain ⟨w, τ', h5, ⟨hf, hI2, hthr⟩ | ⟨hf, hI2, hthr⟩⟩ := S _ _ _ _ _ _ _ ht hI
  · refine lv_aload_n (pc := 1596) hx hb dL_law_1596 rfl (lv_at hl 1 rfl) ?_
    refine lv_aload_n (pc := 1597) hx hb dL_law_1597 rfl (lv_at hl 0 rfl) ?_
    refine lv_iload (pc := 1598) hx hb dL_law_1598 (lv_at hl 5 rfl) ?_
    refine lv_iconst (pc := 1600) (v := 1) hx hb dL_law_1600 (by decide) ?_
    refine lv_iadd (pc := 1601) hx hb dL_law_1601 ?_
    refine va_sld (pc := 1602) hx hb hscr hbl hbA h.2.2.1 hi1 dL_law_1602 ?_
    refine lv_aload_n (pc := 1603) hx hb dL_law_1603 rfl (lv_at hl 0 rfl) ?_
    refine lv_iload (pc := 1604) hx hb dL_law_1604 (lv_at hl 5 rfl) ?_
    refine lv_iconst (pc := 1606) (v := 2) hx hb dL_law_1606 (by decide) ?_
    refine lv_iadd (pc := 1607) hx hb dL_law_1607 ?_
    refine va_sld (pc := 1608) hx hb hscr hbl hbA h.2.2.1 hi2 dL_law_1608 ?_
    refine lv_aload_n (pc := 1609) hx hb dL_law_1609 rfl (lv_at hl 3 rfl) ?_
    refine call_W (pc := 1610) (rest := []) (As := [.ref (q0 0), .int (xs (i + 1).toNatClampNeg), .int (xs (i + 2).toNatClampNeg), .ref o]) (ws' := wL n q0 q qm cA σ0 σ τ o o2 (vp_updL f 0 w.toInt64) f2) C hl0 hX hN h (w_ahead hn σ0 σ (xs (i + 1).toNatClampNeg) (xs (i + 2).toNatClampNeg) hf o f) cx_L_208 (wL_L ..) (wL_L n q0 q qm cA σ0 σ τ o o2 (vp_updL f 0 w.toInt64) f2).symm (xL_fst ..) rfl rfl hl.1 (Nat.le_of_ble_eq_true rfl) dL_law_1610 ⟨(Nat.le_of_ble_eq_true rfl), (Nat.le_of_ble_eq_true rfl)⟩ rfl rfl ⟨by show cells + 1 ≤ 601024; omega, by show slots + 6 ≤ 7293034; omega⟩ (fun H locs h => ?_)
    refine W.eq (g2 := F0 m 1613 ls [.int 0]) rfl ?_
    refine lv_istore (pc := 1613) (lv' := [(6, .int 0), (0, .ref b), (1, .ref (q0 0)), (2, .ref (qm 0)), (3, .ref o), (4, .ref o2), (5, .int i)]) hx hb dL_law_1613 hl (by decide) rfl (fun ls hl => ?_)
    refine lv_aload_n (pc := 1615) hx hb dL_law_1615 rfl (lv_at hl 3 rfl) ?_
    refine lv_aload_n (pc := 1616) hx hb dL_law_1616 rfl (lv_at hl 1 rfl) ?_
    refine lv_iload (pc := 1617) hx hb dL_law_1617 (lv_at hl 6 rfl) ?_
    refine lv_iconst (pc := 1619) (v := 1) hx hb dL_law_1619 (by decide) ?_
    refine lv_iadd (pc := 1620) hx hb dL_law_1620 ?_
    refine va_sld (pc := 1621) hx hb hscr hbl hbA h.2.2.1 hi1 dL_law_1621 ?_
    refine lv_aload_n (pc := 1622) hx hb dL_law_1622 rfl (lv_at hl 1 rfl) ?_
    refine lv_iload (pc := 1623) hx hb dL_law_1623 (lv_at hl 6 rfl) ?_
    refine lv_iconst (pc := 1625) (v := 2) hx hb dL_law_1625 (by decide) ?_
    refine lv_iadd (pc := 1626) hx hb dL_law_1626 ?_
    refine va_sld (pc := 1627) hx hb hscr hbl hbA h.2.2.1 hi2 dL_law_1627 ?_
    refine call_VUp (pc := 1628) (rest := []) (As := [.int (xs (i + 1).toNatClampNeg), .int (xs (i + 2).toNatClampNeg)]) (wc' := mW qm cA τ') (ws' := wL n q0 q qm cA σ0 σ τ' o o2 (vp_updL f 0 w.toInt64) f2) C h (k_X5_ahead (q := qm) τ (xs (i + 1).toNatClampNeg) (xs (i + 2).toNatClampNeg) h5) cm_L_210 (mW_c0 ..) rfl (wL_M ..) (wL_M n q0 q qm cA σ0 σ τ' o o2 (vp_updL f 0 w.toInt64) f2).symm (mW_fst ..) rfl rfl hl.1 (Nat.le_of_ble_eq_true rfl) dL_law_1628 ⟨(Nat.le_of_ble_eq_true rfl), (Nat.le_of_ble_eq_true rfl)⟩ rfl rfl ⟨by show _ ≤ 601024; omega, by show _ ≤ 7293034; omega⟩ (fun H locs h => ?_)
    refine W.eq (g2 := F0 m 1631 ls [.int w]) rfl ?_
    refine lv_istore (pc := 1631) (lv' := [(7, .int w), (6, .int 0), (0, .ref b), (1, .ref (q0 0)), (2, .ref (qm 0)), (3, .ref o), (4, .ref o2), (5, .int i)]) hx hb dL_law_1631 hl (by decide) rfl (fun ls hl => ?_)
    refine lv_aload_n (pc := 1633) hx hb dL_law_1633 rfl (lv_at hl 4 rfl) ?_
    refine call_VRp (pc := 1634) (rest := []) (As := []) C h (k_X5_thrown (q := qm) τ' rfl) cm_L_131 (mW_c0 ..) rfl (wL_M ..) rfl rfl hl.1 (Nat.le_of_ble_eq_true rfl) dL_law_1634 ⟨(Nat.le_of_ble_eq_true rfl), (Nat.le_of_ble_eq_true rfl)⟩ rfl rfl ⟨by show _ ≤ 601024; omega, by show _ ≤ 7293034; omega⟩ (fun H locs h => ?_)
    refine W.eq (g2 := F0 m 1637 ls [.int (τ' 24 0)]) rfl ?_
    refine lv_iload (pc := 1637) hx hb dL_law_1637 (lv_at hl 1 rfl) ?_
    refine lv_icmp_eq (pc := 1639) (tgt := 1644) hx hb dL_law_1639 (by decide) (fun _ => ?_) (fun c9 => absurd hthr c9)
    refine lv_iload (pc := 1644) hx hb dL_law_1644 (lv_at hl 1 rfl) ?_
    refine lv_if_ne (pc := 1646) (tgt := 1661) hx hb dL_law_1646 (by decide) (fun c9 => absurd rfl c9) (fun _ => ?_)
    refine lv_aload_n (pc := 1649) hx hb dL_law_1649 rfl (lv_at hl 5 rfl) ?_
    refine lv_iconst (pc := 1650) (v := 0) hx hb dL_law_1650 (by decide) ?_
    refine va_lald (pc := 1651) hx hb hK.1 h.1 0 3 (wL_o ..) rfl (show inb (0 : Int32) 1 from by decide) dL_law_1651 ?_
    refine W.eq (g2 := F0 m 1652 ls [.long w.toInt64]) rfl ?_
    refine lv_iload (pc := 1652) hx hb dL_law_1652 (lv_at hl 0 rfl) ?_
    refine lv_i2l (pc := 1654) (v := w.toInt64) hx hb dL_law_1654 rfl ?_
    refine W.lcmp (pc := 1655) hx hb dL_law_1655 ?_
    rw [cmp_self]
    refine lv_if_eq (pc := 1656) (tgt := 1661) hx hb dL_law_1656 (by decide) (fun _ => ?_) (fun c9 => absurd rfl c9)
    refine lv_goto (pc := 1661) (tgt := 2364) hx hb dL_law_1661 (by decide) ?_
    exact W.widen (by omega) (by omega) (kk _ _ _ _ _ _ _ _ _ hI2 h ls (lv_sub hl [2, 3, 4, 5, 6, 7] rfl))
  · refine lv_aload_n (pc := 1596) hx hb dL_law_1596 rfl (lv_at hl 1 rfl) ?_
    refine lv_aload_n (pc := 1597) hx hb dL_law_1597 rfl (lv_at hl 0 rfl) ?_
    refine lv_iload (pc := 1598) hx hb dL_law_1598 (lv_at hl 5 rfl) ?_
    refine lv_iconst (pc := 1600) (v := 1) hx hb dL_law_1600 (by decide) ?_
    refine lv_iadd (pc := 1601) hx hb dL_law_1601 ?_
    refine va_sld (pc := 1602) hx hb hscr hbl hbA h.2.2.1 hi1 dL_law_1602 ?_
    refine lv_aload_n (pc := 1603) hx hb dL_law_1603 rfl (lv_at hl 0 rfl) ?_
    refine lv_iload (pc := 1604) hx hb dL_law_1604 (lv_at hl 5 rfl) ?_
    refine lv_iconst (pc := 1606) (v := 2) hx hb dL_law_1606 (by decide) ?_
    refine lv_iadd (pc := 1607) hx hb dL_law_1607 ?_
    refine va_sld (pc := 1608) hx hb hscr hbl hbA h.2.2.1 hi2 dL_law_1608 ?_
    refine lv_aload_n (pc := 1609) hx hb dL_law_1609 rfl (lv_at hl 3 rfl) ?_
    refine call_W (pc := 1610) (rest := []) (As := [.ref (q0 0), .int (xs (i + 1).toNatClampNeg), .int (xs (i + 2).toNatClampNeg), .ref o]) (ws' := wL n q0 q qm cA σ0 σ τ o o2 f f2) C hl0 hX hN h (wT_ahead_0 hn σ0 σ (xs (i + 1).toNatClampNeg) (xs (i + 2).toNatClampNeg) hf o f) cx_L_208 (wL_L ..) (wL_L n q0 q qm cA σ0 σ τ o o2 f f2).symm rfl rfl rfl hl.1 (Nat.le_of_ble_eq_true rfl) dL_law_1610 ⟨(Nat.le_of_ble_eq_true rfl), (Nat.le_of_ble_eq_true rfl)⟩ rfl rfl ⟨by show cells + 1 ≤ 601024; omega, by show slots + 6 ≤ 7293034; omega⟩ (fun H locs h => ?_)
    refine W.eq (g2 := F0 m 1613 ls [.int 1]) rfl ?_
    refine lv_istore (pc := 1613) (lv' := [(6, .int 1), (0, .ref b), (1, .ref (q0 0)), (2, .ref (qm 0)), (3, .ref o), (4, .ref o2), (5, .int i)]) hx hb dL_law_1613 hl (by decide) rfl (fun ls hl => ?_)
    refine lv_aload_n (pc := 1615) hx hb dL_law_1615 rfl (lv_at hl 3 rfl) ?_
    refine lv_aload_n (pc := 1616) hx hb dL_law_1616 rfl (lv_at hl 1 rfl) ?_
    refine lv_iload (pc := 1617) hx hb dL_law_1617 (lv_at hl 6 rfl) ?_
    refine lv_iconst (pc := 1619) (v := 1) hx hb dL_law_1619 (by decide) ?_
    refine lv_iadd (pc := 1620) hx hb dL_law_1620 ?_
    refine va_sld (pc := 1621) hx hb hscr hbl hbA h.2.2.1 hi1 dL_law_1621 ?_
    refine lv_aload_n (pc := 1622) hx hb dL_law_1622 rfl (lv_at hl 1 rfl) ?_
    refine lv_iload (pc := 1623) hx hb dL_law_1623 (lv_at hl 6 rfl) ?_
    refine lv_iconst (pc := 1625) (v := 2) hx hb dL_law_1625 (by decide) ?_
    refine lv_iadd (pc := 1626) hx hb dL_law_1626 ?_
    refine va_sld (pc := 1627) hx hb hscr hbl hbA h.2.2.1 hi2 dL_law_1627 ?_
    refine call_VUp (pc := 1628) (rest := []) (As := [.int (xs (i + 1).toNatClampNeg), .int (xs (i + 2).toNatClampNeg)]) (wc' := mW qm cA τ') (ws' := wL n q0 q qm cA σ0 σ τ' o o2 f f2) C h (k_X5_ahead (q := qm) τ (xs (i + 1).toNatClampNeg) (xs (i + 2).toNatClampNeg) h5) cm_L_210 (mW_c0 ..) rfl (wL_M ..) (wL_M n q0 q qm cA σ0 σ τ' o o2 f f2).symm (mW_fst ..) rfl rfl hl.1 (Nat.le_of_ble_eq_true rfl) dL_law_1628 ⟨(Nat.le_of_ble_eq_true rfl), (Nat.le_of_ble_eq_true rfl)⟩ rfl rfl ⟨by show _ ≤ 601024; omega, by show _ ≤ 7293034; omega⟩ (fun H locs h => ?_)
    refine W.eq (g2 := F0 m 1631 ls [.int w]) rfl ?_
    refine lv_istore (pc := 1631) (lv' := [(7, .int w), (6, .int 1), (0, .ref b), (1, .ref (q0 0)), (2, .ref (qm 0)), (3, .ref o), (4, .ref o2), (5, .int i)]) hx hb dL_law_1631 hl (by decide) rfl (fun ls hl => ?_)
    refine lv_aload_n (pc := 1633) hx hb dL_law_1633 rfl (lv_at hl 4 rfl) ?_
    refine call_VRp (pc := 1634) (rest := []) (As := []) C h (k_X5_thrown (q := qm) τ' rfl) cm_L_131 (mW_c0 ..) rfl (wL_M ..) rfl rfl hl.1 (Nat.le_of_ble_eq_true rfl) dL_law_1634 ⟨(Nat.le_of_ble_eq_true rfl), (Nat.le_of_ble_eq_true rfl)⟩ rfl rfl ⟨by show _ ≤ 601024; omega, by show _ ≤ 7293034; omega⟩ (fun H locs h => ?_)
    refine W.eq (g2 := F0 m 1637 ls [.int (τ' 24 0)]) rfl ?_
    refine lv_iload (pc := 1637) hx hb dL_law_1637 (lv_at hl 1 rfl) ?_
    refine lv_icmp_eq (pc := 1639) (tgt := 1644) hx hb dL_law_1639 (by decide) (fun _ => ?_) (fun c9 => absurd hthr c9)
    refine lv_iload (pc := 1644) hx hb dL_law_1644 (lv_at hl 1 rfl) ?_
    refine lv_if_ne (pc := 1646) (tgt := 1661) hx hb dL_law_1646 (by decide) (fun _ => ?_) (fun c9 => absurd c9 (by decide))
    refine lv_goto (pc := 1661) (tgt := 2364) hx hb dL_law_1661 (by decide) ?_
    exact W.widen (by omega) (by omega) (kk _ _ _ _ _ _ _ _ _ hI2 h ls (lv_sub hl [2, 3, 4, 5, 6, 7] rfl))
set_option maxHeartbeats 1000000 in
set_option maxRecDepth 100000 in
theorem law_roundOf {Inv : IT} (hn6 : ∀ t n σ0 σ τ, Inv t n σ0 σ τ → n ≤ 6) (S : SA_roundOf Inv) {t n : Nat} {q0 : Nat → Nat} {q : Nat → Nat → Nat} {qm : Nat → Nat} {σ0 τ : Nat → Nat → Int32} {σ : Nat → Nat → Nat → Int32} {o o2 : Nat} {f : Nat → Int64} {f2 : Nat → UInt64} {i : Int32} (ht : t < 512) (hI : Inv t n σ0 σ τ)
    (X : LX p l s m args meth c D cA b L xs) (h : St D (nA s) s.heap (wL n q0 q qm cA σ0 σ τ o o2 f f2) H locs) (hi : HI i L) (hl : lv_has ls 8 (L0 b (q0 0) (qm 0) o o2 i)) (hc : cells + 20 ≤ 601024) (hs : slots + 263 ≤ 7293034)
    (kk : LK p l e s m args below meth c D cA b q0 qm o o2 Inv t i cells slots Q) : W p l e room_1 s m args below meth c H locs cells slots Q (F0 m 1664 ls []) := by
  obtain ⟨C, hl0, hX, hN, hscr, hbl⟩ := X
  obtain ⟨hi0, hi1, hi2, hi3, hi4, hi5⟩ := hi
  obtain ⟨hx, hb, hml, hown, hts, hK, hlk⟩ := id C
  have hbA : ¬ nA s b := Nat.not_le.mpr hbl
  have hn := hn6 _ _ _ _ _ hI
  obtain ⟨w, τ', h5, ⟨hf, hI2, hthr⟩ | ⟨hf, hI2, hthr⟩⟩ := S _ _ _ _ _ _ _ ht hI
  · refine lv_aload_n (pc := 1664) hx hb dL_law_1664 rfl (lv_at hl 1 rfl) ?_
    refine lv_aload_n (pc := 1665) hx hb dL_law_1665 rfl (lv_at hl 0 rfl) ?_
    refine lv_iload (pc := 1666) hx hb dL_law_1666 (lv_at hl 5 rfl) ?_
    refine lv_iconst (pc := 1668) (v := 1) hx hb dL_law_1668 (by decide) ?_
    refine lv_iadd (pc := 1669) hx hb dL_law_1669 ?_
    refine va_sld (pc := 1670) hx hb hscr hbl hbA h.2.2.1 hi1 dL_law_1670 ?_
    refine lv_aload_n (pc := 1671) hx hb dL_law_1671 rfl (lv_at hl 0 rfl) ?_
    refine lv_iload (pc := 1672) hx hb dL_law_1672 (lv_at hl 5 rfl) ?_
    refine lv_iconst (pc := 1674) (v := 2) hx hb dL_law_1674 (by decide) ?_
    refine lv_iadd (pc := 1675) hx hb dL_law_1675 ?_
    refine va_sld (pc := 1676) hx hb hscr hbl hbA h.2.2.1 hi2 dL_law_1676 ?_
    refine lv_aload_n (pc := 1677) hx hb dL_law_1677 rfl (lv_at hl 3 rfl) ?_
    refine call_W (pc := 1678) (rest := []) (As := [.ref (q0 0), .int (xs (i + 1).toNatClampNeg), .int (xs (i + 2).toNatClampNeg), .ref o]) (ws' := wL n q0 q qm cA σ0 σ τ o o2 (vp_updL f 0 w.toInt64) f2) C hl0 hX hN h (w_roundOf hn σ0 σ (xs (i + 1).toNatClampNeg) (xs (i + 2).toNatClampNeg) hf o f) cx_L_211 (wL_L ..) (wL_L n q0 q qm cA σ0 σ τ o o2 (vp_updL f 0 w.toInt64) f2).symm (xL_fst ..) rfl rfl hl.1 (Nat.le_of_ble_eq_true rfl) dL_law_1678 ⟨(Nat.le_of_ble_eq_true rfl), (Nat.le_of_ble_eq_true rfl)⟩ rfl rfl ⟨by show cells + 1 ≤ 601024; omega, by show slots + 6 ≤ 7293034; omega⟩ (fun H locs h => ?_)
    refine W.eq (g2 := F0 m 1681 ls [.int 0]) rfl ?_
    refine lv_istore (pc := 1681) (lv' := [(6, .int 0), (0, .ref b), (1, .ref (q0 0)), (2, .ref (qm 0)), (3, .ref o), (4, .ref o2), (5, .int i)]) hx hb dL_law_1681 hl (by decide) rfl (fun ls hl => ?_)
    refine lv_aload_n (pc := 1683) hx hb dL_law_1683 rfl (lv_at hl 3 rfl) ?_
    refine lv_aload_n (pc := 1684) hx hb dL_law_1684 rfl (lv_at hl 1 rfl) ?_
    refine lv_iload (pc := 1685) hx hb dL_law_1685 (lv_at hl 6 rfl) ?_
    refine lv_iconst (pc := 1687) (v := 1) hx hb dL_law_1687 (by decide) ?_
    refine lv_iadd (pc := 1688) hx hb dL_law_1688 ?_
    refine va_sld (pc := 1689) hx hb hscr hbl hbA h.2.2.1 hi1 dL_law_1689 ?_
    refine lv_aload_n (pc := 1690) hx hb dL_law_1690 rfl (lv_at hl 1 rfl) ?_
    refine lv_iload (pc := 1691) hx hb dL_law_1691 (lv_at hl 6 rfl) ?_
    refine lv_iconst (pc := 1693) (v := 2) hx hb dL_law_1693 (by decide) ?_
    refine lv_iadd (pc := 1694) hx hb dL_law_1694 ?_
    refine va_sld (pc := 1695) hx hb hscr hbl hbA h.2.2.1 hi2 dL_law_1695 ?_
    refine call_VUp (pc := 1696) (rest := []) (As := [.int (xs (i + 1).toNatClampNeg), .int (xs (i + 2).toNatClampNeg)]) (wc' := mW qm cA τ') (ws' := wL n q0 q qm cA σ0 σ τ' o o2 (vp_updL f 0 w.toInt64) f2) C h (k_X5_roundOf (q := qm) τ (xs (i + 1).toNatClampNeg) (xs (i + 2).toNatClampNeg) h5) cm_L_213 (mW_c0 ..) rfl (wL_M ..) (wL_M n q0 q qm cA σ0 σ τ' o o2 (vp_updL f 0 w.toInt64) f2).symm (mW_fst ..) rfl rfl hl.1 (Nat.le_of_ble_eq_true rfl) dL_law_1696 ⟨(Nat.le_of_ble_eq_true rfl), (Nat.le_of_ble_eq_true rfl)⟩ rfl rfl ⟨by show _ ≤ 601024; omega, by show _ ≤ 7293034; omega⟩ (fun H locs h => ?_)
    refine W.eq (g2 := F0 m 1699 ls [.int w]) rfl ?_
    refine lv_istore (pc := 1699) (lv' := [(7, .int w), (6, .int 0), (0, .ref b), (1, .ref (q0 0)), (2, .ref (qm 0)), (3, .ref o), (4, .ref o2), (5, .int i)]) hx hb dL_law_1699 hl (by decide) rfl (fun ls hl => ?_)
    refine lv_aload_n (pc := 1701) hx hb dL_law_1701 rfl (lv_at hl 4 rfl) ?_
    refine call_VRp (pc := 1702) (rest := []) (As := []) C h (k_X5_thrown (q := qm) τ' rfl) cm_L_131 (mW_c0 ..) rfl (wL_M ..) rfl rfl hl.1 (Nat.le_of_ble_eq_true rfl) dL_law_1702 ⟨(Nat.le_of_ble_eq_true rfl), (Nat.le_of_ble_eq_true rfl)⟩ rfl rfl ⟨by show _ ≤ 601024; omega, by show _ ≤ 7293034; omega⟩ (fun H locs h => ?_)
    refine W.eq (g2 := F0 m 1705 ls [.int (τ' 24 0)]) rfl ?_
    refine lv_iload (pc := 1705) hx hb dL_law_1705 (lv_at hl 1 rfl) ?_
    refine lv_icmp_eq (pc := 1707) (tgt := 1712) hx hb dL_law_1707 (by decide) (fun _ => ?_) (fun c9 => absurd hthr c9)
    refine lv_iload (pc := 1712) hx hb dL_law_1712 (lv_at hl 1 rfl) ?_
    refine lv_if_ne (pc := 1714) (tgt := 1729) hx hb dL_law_1714 (by decide) (fun c9 => absurd rfl c9) (fun _ => ?_)
    refine lv_aload_n (pc := 1717) hx hb dL_law_1717 rfl (lv_at hl 5 rfl) ?_
    refine lv_iconst (pc := 1718) (v := 0) hx hb dL_law_1718 (by decide) ?_
    refine va_lald (pc := 1719) hx hb hK.1 h.1 0 3 (wL_o ..) rfl (show inb (0 : Int32) 1 from by decide) dL_law_1719 ?_
    refine W.eq (g2 := F0 m 1720 ls [.long w.toInt64]) rfl ?_
    refine lv_iload (pc := 1720) hx hb dL_law_1720 (lv_at hl 0 rfl) ?_
    refine lv_i2l (pc := 1722) (v := w.toInt64) hx hb dL_law_1722 rfl ?_
    refine W.lcmp (pc := 1723) hx hb dL_law_1723 ?_
    rw [cmp_self]
    refine lv_if_eq (pc := 1724) (tgt := 1729) hx hb dL_law_1724 (by decide) (fun _ => ?_) (fun c9 => absurd rfl c9)
    refine lv_goto (pc := 1729) (tgt := 2364) hx hb dL_law_1729 (by decide) ?_
    exact W.widen (by omega) (by omega) (kk _ _ _ _ _ _ _ _ _ hI2 h ls (lv_sub hl [2, 3, 4, 5, 6, 7] rfl))
  · refine lv_aload_n (pc := 1664) hx hb dL_law_1664 rfl (lv_at hl 1 rfl) ?_
    refine lv_aload_n (pc := 1665) hx hb dL_law_1665 rfl (lv_at hl 0 rfl) ?_
    refine lv_iload (pc := 1666) hx hb dL_law_1666 (lv_at hl 5 rfl) ?_
    refine lv_iconst (pc := 1668) (v := 1) hx hb dL_law_1668 (by decide) ?_
    refine lv_iadd (pc := 1669) hx hb dL_law_1669 ?_
    refine va_sld (pc := 1670) hx hb hscr hbl hbA h.2.2.1 hi1 dL_law_1670 ?_
    refine lv_aload_n (pc := 1671) hx hb dL_law_1671 rfl (lv_at hl 0 rfl) ?_
    refine lv_iload (pc := 1672) hx hb dL_law_1672 (lv_at hl 5 rfl) ?_
    refine lv_iconst (pc := 1674) (v := 2) hx hb dL_law_1674 (by decide) ?_
    refine lv_iadd (pc := 1675) hx hb dL_law_1675 ?_
    refine va_sld (pc := 1676) hx hb hscr hbl hbA h.2.2.1 hi2 dL_law_1676 ?_
    refine lv_aload_n (pc := 1677) hx hb dL_law_1677 rfl (lv_at hl 3 rfl) ?_
    refine call_W (pc := 1678) (rest := []) (As := [.ref (q0 0), .int (xs (i + 1).toNatClampNeg), .int (xs (i + 2).toNatClampNeg), .ref o]) (ws' := wL n q0 q qm cA σ0 σ τ o o2 f f2) C hl0 hX hN h (wT_roundOf_0 hn σ0 σ (xs (i + 1).toNatClampNeg) (xs (i + 2).toNatClampNeg) hf o f) cx_L_211 (wL_L ..) (wL_L n q0 q qm cA σ0 σ τ o o2 f f2).symm rfl rfl rfl hl.1 (Nat.le_of_ble_eq_true rfl) dL_law_1678 ⟨(Nat.le_of_ble_eq_true rfl), (Nat.le_of_ble_eq_true rfl)⟩ rfl rfl ⟨by show cells + 1 ≤ 601024; omega, by show slots + 6 ≤ 7293034; omega⟩ (fun H locs h => ?_)
    refine W.eq (g2 := F0 m 1681 ls [.int 1]) rfl ?_
    refine lv_istore (pc := 1681) (lv' := [(6, .int 1), (0, .ref b), (1, .ref (q0 0)), (2, .ref (qm 0)), (3, .ref o), (4, .ref o2), (5, .int i)]) hx hb dL_law_1681 hl (by decide) rfl (fun ls hl => ?_)
    refine lv_aload_n (pc := 1683) hx hb dL_law_1683 rfl (lv_at hl 3 rfl) ?_
    refine lv_aload_n (pc := 1684) hx hb dL_law_1684 rfl (lv_at hl 1 rfl) ?_
    refine lv_iload (pc := 1685) hx hb dL_law_1685 (lv_at hl 6 rfl) ?_
    refine lv_iconst (pc := 1687) (v := 1) hx hb dL_law_1687 (by decide) ?_
    refine lv_iadd (pc := 1688) hx hb dL_law_1688 ?_
    refine va_sld (pc := 1689) hx hb hscr hbl hbA h.2.2.1 hi1 dL_law_1689 ?_
    refine lv_aload_n (pc := 1690) hx hb dL_law_1690 rfl (lv_at hl 1 rfl) ?_
    refine lv_iload (pc := 1691) hx hb dL_law_1691 (lv_at hl 6 rfl) ?_
    refine lv_iconst (pc := 1693) (v := 2) hx hb dL_law_1693 (by decide) ?_
    refine lv_iadd (pc := 1694) hx hb dL_law_1694 ?_
    refine va_sld (pc := 1695) hx hb hscr hbl hbA h.2.2.1 hi2 dL_law_1695 ?_
    refine call_VUp (pc := 1696) (rest := []) (As := [.int (xs (i + 1).toNatClampNeg), .int (xs (i + 2).toNatClampNeg)]) (wc' := mW qm cA τ') (ws' := wL n q0 q qm cA σ0 σ τ' o o2 f f2) C h (k_X5_roundOf (q := qm) τ (xs (i + 1).toNatClampNeg) (xs (i + 2).toNatClampNeg) h5) cm_L_213 (mW_c0 ..) rfl (wL_M ..) (wL_M n q0 q qm cA σ0 σ τ' o o2 f f2).symm (mW_fst ..) rfl rfl hl.1 (Nat.le_of_ble_eq_true rfl) dL_law_1696 ⟨(Nat.le_of_ble_eq_true rfl), (Nat.le_of_ble_eq_true rfl)⟩ rfl rfl ⟨by show _ ≤ 601024; omega, by show _ ≤ 7293034; omega⟩ (fun H locs h => ?_)
    refine W.eq (g2 := F0 m 1699 ls [.int w]) rfl ?_
    refine lv_istore (pc := 1699) (lv' := [(7, .int w), (6, .int 1), (0, .ref b), (1, .ref (q0 0)), (2, .ref (qm 0)), (3, .ref o), (4, .ref o2), (5, .int i)]) hx hb dL_law_1699 hl (by decide) rfl (fun ls hl => ?_)
    refine lv_aload_n (pc := 1701) hx hb dL_law_1701 rfl (lv_at hl 4 rfl) ?_
    refine call_VRp (pc := 1702) (rest := []) (As := []) C h (k_X5_thrown (q := qm) τ' rfl) cm_L_131 (mW_c0 ..) rfl (wL_M ..) rfl rfl hl.1 (Nat.le_of_ble_eq_true rfl) dL_law_1702 ⟨(Nat.le_of_ble_eq_true rfl), (Nat.le_of_ble_eq_true rfl)⟩ rfl rfl ⟨by show _ ≤ 601024; omega, by show _ ≤ 7293034; omega⟩ (fun H locs h => ?_)
    refine W.eq (g2 := F0 m 1705 ls [.int (τ' 24 0)]) rfl ?_
    refine lv_iload (pc := 1705) hx hb dL_law_1705 (lv_at hl 1 rfl) ?_
    refine lv_icmp_eq (pc := 1707) (tgt := 1712) hx hb dL_law_1707 (by decide) (fun _ => ?_) (fun c9 => absurd hthr c9)
    refine lv_iload (pc := 1712) hx hb dL_law_1712 (lv_at hl 1 rfl) ?_
    refine lv_if_ne (pc := 1714) (tgt := 1729) hx hb dL_law_1714 (by decide) (fun _ => ?_) (fun c9 => absurd c9 (by decide))
    refine lv_goto (pc := 1729) (tgt := 2364) hx hb dL_law_1729 (by decide) ?_
    exact W.widen (by omega) (by omega) (kk _ _ _ _ _ _ _ _ _ hI2 h ls (lv_sub hl [2, 3, 4, 5, 6, 7] rfl))
set_option maxHeartbeats 1000000 in
set_option maxRecDepth 100000 in
theorem law_orders {Inv : IT} (hn6 : ∀ t n σ0 σ τ, Inv t n σ0 σ τ → n ≤ 6) (S : SA_orders Inv) {t n : Nat} {q0 : Nat → Nat} {q : Nat → Nat → Nat} {qm : Nat → Nat} {σ0 τ : Nat → Nat → Int32} {σ : Nat → Nat → Nat → Int32} {o o2 : Nat} {f : Nat → Int64} {f2 : Nat → UInt64} {i : Int32} (ht : t < 512) (hI : Inv t n σ0 σ τ)
    (X : LX p l s m args meth c D cA b L xs) (h : St D (nA s) s.heap (wL n q0 q qm cA σ0 σ τ o o2 f f2) H locs) (hi : HI i L) (hl : lv_has ls 8 (L0 b (q0 0) (qm 0) o o2 i)) (hc : cells + 20 ≤ 601024) (hs : slots + 263 ≤ 7293034)
    (kk : LK p l e s m args below meth c D cA b q0 qm o o2 Inv t i cells slots Q) : W p l e room_1 s m args below meth c H locs cells slots Q (F0 m 1732 ls []) := by
  obtain ⟨C, hl0, hX, hN, hscr, hbl⟩ := X
  obtain ⟨hi0, hi1, hi2, hi3, hi4, hi5⟩ := hi
  obtain ⟨hx, hb, hml, hown, hts, hK, hlk⟩ := id C
  have hbA : ¬ nA s b := Nat.not_le.mpr hbl
  have hn := hn6 _ _ _ _ _ hI
  obtain ⟨w, τ', h5, ⟨σ0', σ', hf, hI2, hthr⟩ | ⟨hf, hI2, hthr⟩⟩ := S _ _ _ _ _ _ ht hI
  · refine lv_aload_n (pc := 1732) hx hb dL_law_1732 rfl (lv_at hl 1 rfl) ?_
    refine lv_aload_n (pc := 1733) hx hb dL_law_1733 rfl (lv_at hl 0 rfl) ?_
    refine lv_iload (pc := 1734) hx hb dL_law_1734 (lv_at hl 5 rfl) ?_
    refine lv_iconst (pc := 1736) (v := 1) hx hb dL_law_1736 (by decide) ?_
    refine lv_iadd (pc := 1737) hx hb dL_law_1737 ?_
    refine va_sld (pc := 1738) hx hb hscr hbl hbA h.2.2.1 hi1 dL_law_1738 ?_
    refine lv_aload_n (pc := 1739) hx hb dL_law_1739 rfl (lv_at hl 3 rfl) ?_
    refine call_W (pc := 1740) (rest := []) (As := [.ref (q0 0), .int (xs (i + 1).toNatClampNeg), .ref o]) (ws' := wL n q0 q qm cA σ0' σ' τ o o2 (vp_updL f 0 w.toInt64) f2) C hl0 hX hN h (w_orders hn σ0 σ (xs (i + 1).toNatClampNeg) hf o f) cx_L_214 (wL_L ..) (wL_L n q0 q qm cA σ0' σ' τ o o2 (vp_updL f 0 w.toInt64) f2).symm (xL_fst ..) rfl rfl hl.1 (Nat.le_of_ble_eq_true rfl) dL_law_1740 ⟨(Nat.le_of_ble_eq_true rfl), (Nat.le_of_ble_eq_true rfl)⟩ rfl rfl ⟨by show cells + 1 ≤ 601024; omega, by show slots + 6 ≤ 7293034; omega⟩ (fun H locs h => ?_)
    refine W.eq (g2 := F0 m 1743 ls [.int 0]) rfl ?_
    refine lv_istore (pc := 1743) (lv' := [(6, .int 0), (0, .ref b), (1, .ref (q0 0)), (2, .ref (qm 0)), (3, .ref o), (4, .ref o2), (5, .int i)]) hx hb dL_law_1743 hl (by decide) rfl (fun ls hl => ?_)
    refine lv_aload_n (pc := 1745) hx hb dL_law_1745 rfl (lv_at hl 3 rfl) ?_
    refine lv_aload_n (pc := 1746) hx hb dL_law_1746 rfl (lv_at hl 1 rfl) ?_
    refine lv_iload (pc := 1747) hx hb dL_law_1747 (lv_at hl 6 rfl) ?_
    refine lv_iconst (pc := 1749) (v := 1) hx hb dL_law_1749 (by decide) ?_
    refine lv_iadd (pc := 1750) hx hb dL_law_1750 ?_
    refine va_sld (pc := 1751) hx hb hscr hbl hbA h.2.2.1 hi1 dL_law_1751 ?_
    refine call_VUp (pc := 1752) (rest := []) (As := [.int (xs (i + 1).toNatClampNeg)]) (wc' := mW qm cA τ') (ws' := wL n q0 q qm cA σ0' σ' τ' o o2 (vp_updL f 0 w.toInt64) f2) C h (k_X5_orders (q := qm) τ (xs (i + 1).toNatClampNeg) h5) cm_L_216 (mW_c0 ..) rfl (wL_M ..) (wL_M n q0 q qm cA σ0' σ' τ' o o2 (vp_updL f 0 w.toInt64) f2).symm (mW_fst ..) rfl rfl hl.1 (Nat.le_of_ble_eq_true rfl) dL_law_1752 ⟨(Nat.le_of_ble_eq_true rfl), (Nat.le_of_ble_eq_true rfl)⟩ rfl rfl ⟨by show _ ≤ 601024; omega, by show _ ≤ 7293034; omega⟩ (fun H locs h => ?_)
    refine W.eq (g2 := F0 m 1755 ls [.int w]) rfl ?_
    refine lv_istore (pc := 1755) (lv' := [(7, .int w), (6, .int 0), (0, .ref b), (1, .ref (q0 0)), (2, .ref (qm 0)), (3, .ref o), (4, .ref o2), (5, .int i)]) hx hb dL_law_1755 hl (by decide) rfl (fun ls hl => ?_)
    refine lv_aload_n (pc := 1757) hx hb dL_law_1757 rfl (lv_at hl 4 rfl) ?_
    refine call_VRp (pc := 1758) (rest := []) (As := []) C h (k_X5_thrown (q := qm) τ' rfl) cm_L_131 (mW_c0 ..) rfl (wL_M ..) rfl rfl hl.1 (Nat.le_of_ble_eq_true rfl) dL_law_1758 ⟨(Nat.le_of_ble_eq_true rfl), (Nat.le_of_ble_eq_true rfl)⟩ rfl rfl ⟨by show _ ≤ 601024; omega, by show _ ≤ 7293034; omega⟩ (fun H locs h => ?_)
    refine W.eq (g2 := F0 m 1761 ls [.int (τ' 24 0)]) rfl ?_
    refine lv_iload (pc := 1761) hx hb dL_law_1761 (lv_at hl 1 rfl) ?_
    refine lv_icmp_eq (pc := 1763) (tgt := 1768) hx hb dL_law_1763 (by decide) (fun _ => ?_) (fun c9 => absurd hthr c9)
    refine lv_iload (pc := 1768) hx hb dL_law_1768 (lv_at hl 1 rfl) ?_
    refine lv_if_ne (pc := 1770) (tgt := 1785) hx hb dL_law_1770 (by decide) (fun c9 => absurd rfl c9) (fun _ => ?_)
    refine lv_aload_n (pc := 1773) hx hb dL_law_1773 rfl (lv_at hl 5 rfl) ?_
    refine lv_iconst (pc := 1774) (v := 0) hx hb dL_law_1774 (by decide) ?_
    refine va_lald (pc := 1775) hx hb hK.1 h.1 0 3 (wL_o ..) rfl (show inb (0 : Int32) 1 from by decide) dL_law_1775 ?_
    refine W.eq (g2 := F0 m 1776 ls [.long w.toInt64]) rfl ?_
    refine lv_iload (pc := 1776) hx hb dL_law_1776 (lv_at hl 0 rfl) ?_
    refine lv_i2l (pc := 1778) (v := w.toInt64) hx hb dL_law_1778 rfl ?_
    refine W.lcmp (pc := 1779) hx hb dL_law_1779 ?_
    rw [cmp_self]
    refine lv_if_eq (pc := 1780) (tgt := 1785) hx hb dL_law_1780 (by decide) (fun _ => ?_) (fun c9 => absurd rfl c9)
    refine lv_goto (pc := 1785) (tgt := 2364) hx hb dL_law_1785 (by decide) ?_
    exact W.widen (by omega) (by omega) (kk _ _ _ _ _ _ _ _ _ hI2 h ls (lv_sub hl [2, 3, 4, 5, 6, 7] rfl))
  · refine lv_aload_n (pc := 1732) hx hb dL_law_1732 rfl (lv_at hl 1 rfl) ?_
    refine lv_aload_n (pc := 1733) hx hb dL_law_1733 rfl (lv_at hl 0 rfl) ?_
    refine lv_iload (pc := 1734) hx hb dL_law_1734 (lv_at hl 5 rfl) ?_
    refine lv_iconst (pc := 1736) (v := 1) hx hb dL_law_1736 (by decide) ?_
    refine lv_iadd (pc := 1737) hx hb dL_law_1737 ?_
    refine va_sld (pc := 1738) hx hb hscr hbl hbA h.2.2.1 hi1 dL_law_1738 ?_
    refine lv_aload_n (pc := 1739) hx hb dL_law_1739 rfl (lv_at hl 3 rfl) ?_
    refine call_W (pc := 1740) (rest := []) (As := [.ref (q0 0), .int (xs (i + 1).toNatClampNeg), .ref o]) (ws' := wL n q0 q qm cA σ0 σ τ o o2 f f2) C hl0 hX hN h (wT_orders_0 hn σ0 σ (xs (i + 1).toNatClampNeg) hf o f) cx_L_214 (wL_L ..) (wL_L n q0 q qm cA σ0 σ τ o o2 f f2).symm rfl rfl rfl hl.1 (Nat.le_of_ble_eq_true rfl) dL_law_1740 ⟨(Nat.le_of_ble_eq_true rfl), (Nat.le_of_ble_eq_true rfl)⟩ rfl rfl ⟨by show cells + 1 ≤ 601024; omega, by show slots + 6 ≤ 7293034; omega⟩ (fun H locs h => ?_)
    refine W.eq (g2 := F0 m 1743 ls [.int 1]) rfl ?_
    refine lv_istore (pc := 1743) (lv' := [(6, .int 1), (0, .ref b), (1, .ref (q0 0)), (2, .ref (qm 0)), (3, .ref o), (4, .ref o2), (5, .int i)]) hx hb dL_law_1743 hl (by decide) rfl (fun ls hl => ?_)
    refine lv_aload_n (pc := 1745) hx hb dL_law_1745 rfl (lv_at hl 3 rfl) ?_
    refine lv_aload_n (pc := 1746) hx hb dL_law_1746 rfl (lv_at hl 1 rfl) ?_
    refine lv_iload (pc := 1747) hx hb dL_law_1747 (lv_at hl 6 rfl) ?_
    refine lv_iconst (pc := 1749) (v := 1) hx hb dL_law_1749 (by decide) ?_
    refine lv_iadd (pc := 1750) hx hb dL_law_1750 ?_
    refine va_sld (pc := 1751) hx hb hscr hbl hbA h.2.2.1 hi1 dL_law_1751 ?_
    refine call_VUp (pc := 1752) (rest := []) (As := [.int (xs (i + 1).toNatClampNeg)]) (wc' := mW qm cA τ') (ws' := wL n q0 q qm cA σ0 σ τ' o o2 f f2) C h (k_X5_orders (q := qm) τ (xs (i + 1).toNatClampNeg) h5) cm_L_216 (mW_c0 ..) rfl (wL_M ..) (wL_M n q0 q qm cA σ0 σ τ' o o2 f f2).symm (mW_fst ..) rfl rfl hl.1 (Nat.le_of_ble_eq_true rfl) dL_law_1752 ⟨(Nat.le_of_ble_eq_true rfl), (Nat.le_of_ble_eq_true rfl)⟩ rfl rfl ⟨by show _ ≤ 601024; omega, by show _ ≤ 7293034; omega⟩ (fun H locs h => ?_)
    refine W.eq (g2 := F0 m 1755 ls [.int w]) rfl ?_
    refine lv_istore (pc := 1755) (lv' := [(7, .int w), (6, .int 1), (0, .ref b), (1, .ref (q0 0)), (2, .ref (qm 0)), (3, .ref o), (4, .ref o2), (5, .int i)]) hx hb dL_law_1755 hl (by decide) rfl (fun ls hl => ?_)
    refine lv_aload_n (pc := 1757) hx hb dL_law_1757 rfl (lv_at hl 4 rfl) ?_
    refine call_VRp (pc := 1758) (rest := []) (As := []) C h (k_X5_thrown (q := qm) τ' rfl) cm_L_131 (mW_c0 ..) rfl (wL_M ..) rfl rfl hl.1 (Nat.le_of_ble_eq_true rfl) dL_law_1758 ⟨(Nat.le_of_ble_eq_true rfl), (Nat.le_of_ble_eq_true rfl)⟩ rfl rfl ⟨by show _ ≤ 601024; omega, by show _ ≤ 7293034; omega⟩ (fun H locs h => ?_)
    refine W.eq (g2 := F0 m 1761 ls [.int (τ' 24 0)]) rfl ?_
    refine lv_iload (pc := 1761) hx hb dL_law_1761 (lv_at hl 1 rfl) ?_
    refine lv_icmp_eq (pc := 1763) (tgt := 1768) hx hb dL_law_1763 (by decide) (fun _ => ?_) (fun c9 => absurd hthr c9)
    refine lv_iload (pc := 1768) hx hb dL_law_1768 (lv_at hl 1 rfl) ?_
    refine lv_if_ne (pc := 1770) (tgt := 1785) hx hb dL_law_1770 (by decide) (fun _ => ?_) (fun c9 => absurd c9 (by decide))
    refine lv_goto (pc := 1785) (tgt := 2364) hx hb dL_law_1785 (by decide) ?_
    exact W.widen (by omega) (by omega) (kk _ _ _ _ _ _ _ _ _ hI2 h ls (lv_sub hl [2, 3, 4, 5, 6, 7] rfl))
set_option maxHeartbeats 1000000 in
set_option maxRecDepth 100000 in
theorem law_ordersByAll {Inv : IT} (hn6 : ∀ t n σ0 σ τ, Inv t n σ0 σ τ → n ≤ 6) (S : SA_ordersByAll Inv) {t n : Nat} {q0 : Nat → Nat} {q : Nat → Nat → Nat} {qm : Nat → Nat} {σ0 τ : Nat → Nat → Int32} {σ : Nat → Nat → Nat → Int32} {o o2 : Nat} {f : Nat → Int64} {f2 : Nat → UInt64} {i : Int32} (ht : t < 512) (hI : Inv t n σ0 σ τ)
    (X : LX p l s m args meth c D cA b L xs) (h : St D (nA s) s.heap (wL n q0 q qm cA σ0 σ τ o o2 f f2) H locs) (hi : HI i L) (hl : lv_has ls 8 (L0 b (q0 0) (qm 0) o o2 i)) (hc : cells + 20 ≤ 601024) (hs : slots + 263 ≤ 7293034)
    (kk : LK p l e s m args below meth c D cA b q0 qm o o2 Inv t i cells slots Q) : W p l e room_1 s m args below meth c H locs cells slots Q (F0 m 1788 ls []) := by
  obtain ⟨C, hl0, hX, hN, hscr, hbl⟩ := X
  obtain ⟨hi0, hi1, hi2, hi3, hi4, hi5⟩ := hi
  obtain ⟨hx, hb, hml, hown, hts, hK, hlk⟩ := id C
  have hbA : ¬ nA s b := Nat.not_le.mpr hbl
  have hn := hn6 _ _ _ _ _ hI
  obtain ⟨w, τ', h5, ⟨hf, hI2, hthr⟩ | ⟨hf, hI2, hthr⟩⟩ := S _ _ _ _ _ _ ht hI
  · refine lv_aload_n (pc := 1788) hx hb dL_law_1788 rfl (lv_at hl 1 rfl) ?_
    refine lv_aload_n (pc := 1789) hx hb dL_law_1789 rfl (lv_at hl 0 rfl) ?_
    refine lv_iload (pc := 1790) hx hb dL_law_1790 (lv_at hl 5 rfl) ?_
    refine lv_iconst (pc := 1792) (v := 1) hx hb dL_law_1792 (by decide) ?_
    refine lv_iadd (pc := 1793) hx hb dL_law_1793 ?_
    refine va_sld (pc := 1794) hx hb hscr hbl hbA h.2.2.1 hi1 dL_law_1794 ?_
    refine lv_aload_n (pc := 1795) hx hb dL_law_1795 rfl (lv_at hl 3 rfl) ?_
    refine call_W (pc := 1796) (rest := []) (As := [.ref (q0 0), .int (xs (i + 1).toNatClampNeg), .ref o]) (ws' := wL n q0 q qm cA σ0 σ τ o o2 (vp_updL f 0 w.toInt64) f2) C hl0 hX hN h (w_ordersByAll hn σ0 σ (xs (i + 1).toNatClampNeg) hf o f) cx_L_217 (wL_L ..) (wL_L n q0 q qm cA σ0 σ τ o o2 (vp_updL f 0 w.toInt64) f2).symm (xL_fst ..) rfl rfl hl.1 (Nat.le_of_ble_eq_true rfl) dL_law_1796 ⟨(Nat.le_of_ble_eq_true rfl), (Nat.le_of_ble_eq_true rfl)⟩ rfl rfl ⟨by show cells + 1 ≤ 601024; omega, by show slots + 6 ≤ 7293034; omega⟩ (fun H locs h => ?_)
    refine W.eq (g2 := F0 m 1799 ls [.int 0]) rfl ?_
    refine lv_istore (pc := 1799) (lv' := [(6, .int 0), (0, .ref b), (1, .ref (q0 0)), (2, .ref (qm 0)), (3, .ref o), (4, .ref o2), (5, .int i)]) hx hb dL_law_1799 hl (by decide) rfl (fun ls hl => ?_)
    refine lv_aload_n (pc := 1801) hx hb dL_law_1801 rfl (lv_at hl 3 rfl) ?_
    refine lv_aload_n (pc := 1802) hx hb dL_law_1802 rfl (lv_at hl 1 rfl) ?_
    refine lv_iload (pc := 1803) hx hb dL_law_1803 (lv_at hl 6 rfl) ?_
    refine lv_iconst (pc := 1805) (v := 1) hx hb dL_law_1805 (by decide) ?_
    refine lv_iadd (pc := 1806) hx hb dL_law_1806 ?_
    refine va_sld (pc := 1807) hx hb hscr hbl hbA h.2.2.1 hi1 dL_law_1807 ?_
    refine call_VUp (pc := 1808) (rest := []) (As := [.int (xs (i + 1).toNatClampNeg)]) (wc' := mW qm cA τ') (ws' := wL n q0 q qm cA σ0 σ τ' o o2 (vp_updL f 0 w.toInt64) f2) C h (k_X5_ordersByAll (q := qm) τ (xs (i + 1).toNatClampNeg) h5) cm_L_219 (mW_c0 ..) rfl (wL_M ..) (wL_M n q0 q qm cA σ0 σ τ' o o2 (vp_updL f 0 w.toInt64) f2).symm (mW_fst ..) rfl rfl hl.1 (Nat.le_of_ble_eq_true rfl) dL_law_1808 ⟨(Nat.le_of_ble_eq_true rfl), (Nat.le_of_ble_eq_true rfl)⟩ rfl rfl ⟨by show _ ≤ 601024; omega, by show _ ≤ 7293034; omega⟩ (fun H locs h => ?_)
    refine W.eq (g2 := F0 m 1811 ls [.int w]) rfl ?_
    refine lv_istore (pc := 1811) (lv' := [(7, .int w), (6, .int 0), (0, .ref b), (1, .ref (q0 0)), (2, .ref (qm 0)), (3, .ref o), (4, .ref o2), (5, .int i)]) hx hb dL_law_1811 hl (by decide) rfl (fun ls hl => ?_)
    refine lv_aload_n (pc := 1813) hx hb dL_law_1813 rfl (lv_at hl 4 rfl) ?_
    refine call_VRp (pc := 1814) (rest := []) (As := []) C h (k_X5_thrown (q := qm) τ' rfl) cm_L_131 (mW_c0 ..) rfl (wL_M ..) rfl rfl hl.1 (Nat.le_of_ble_eq_true rfl) dL_law_1814 ⟨(Nat.le_of_ble_eq_true rfl), (Nat.le_of_ble_eq_true rfl)⟩ rfl rfl ⟨by show _ ≤ 601024; omega, by show _ ≤ 7293034; omega⟩ (fun H locs h => ?_)
    refine W.eq (g2 := F0 m 1817 ls [.int (τ' 24 0)]) rfl ?_
    refine lv_iload (pc := 1817) hx hb dL_law_1817 (lv_at hl 1 rfl) ?_
    refine lv_icmp_eq (pc := 1819) (tgt := 1824) hx hb dL_law_1819 (by decide) (fun _ => ?_) (fun c9 => absurd hthr c9)
    refine lv_iload (pc := 1824) hx hb dL_law_1824 (lv_at hl 1 rfl) ?_
    refine lv_if_ne (pc := 1826) (tgt := 1841) hx hb dL_law_1826 (by decide) (fun c9 => absurd rfl c9) (fun _ => ?_)
    refine lv_aload_n (pc := 1829) hx hb dL_law_1829 rfl (lv_at hl 5 rfl) ?_
    refine lv_iconst (pc := 1830) (v := 0) hx hb dL_law_1830 (by decide) ?_
    refine va_lald (pc := 1831) hx hb hK.1 h.1 0 3 (wL_o ..) rfl (show inb (0 : Int32) 1 from by decide) dL_law_1831 ?_
    refine W.eq (g2 := F0 m 1832 ls [.long w.toInt64]) rfl ?_
    refine lv_iload (pc := 1832) hx hb dL_law_1832 (lv_at hl 0 rfl) ?_
    refine lv_i2l (pc := 1834) (v := w.toInt64) hx hb dL_law_1834 rfl ?_
    refine W.lcmp (pc := 1835) hx hb dL_law_1835 ?_
    rw [cmp_self]
    refine lv_if_eq (pc := 1836) (tgt := 1841) hx hb dL_law_1836 (by decide) (fun _ => ?_) (fun c9 => absurd rfl c9)
    refine lv_goto (pc := 1841) (tgt := 2364) hx hb dL_law_1841 (by decide) ?_
    exact W.widen (by omega) (by omega) (kk _ _ _ _ _ _ _ _ _ hI2 h ls (lv_sub hl [2, 3, 4, 5, 6, 7] rfl))
  · refine lv_aload_n (pc := 1788) hx hb dL_law_1788 rfl (lv_at hl 1 rfl) ?_
    refine lv_aload_n (pc := 1789) hx hb dL_law_1789 rfl (lv_at hl 0 rfl) ?_
    refine lv_iload (pc := 1790) hx hb dL_law_1790 (lv_at hl 5 rfl) ?_
    refine lv_iconst (pc := 1792) (v := 1) hx hb dL_law_1792 (by decide) ?_
    refine lv_iadd (pc := 1793) hx hb dL_law_1793 ?_
    refine va_sld (pc := 1794) hx hb hscr hbl hbA h.2.2.1 hi1 dL_law_1794 ?_
    refine lv_aload_n (pc := 1795) hx hb dL_law_1795 rfl (lv_at hl 3 rfl) ?_
    refine call_W (pc := 1796) (rest := []) (As := [.ref (q0 0), .int (xs (i + 1).toNatClampNeg), .ref o]) (ws' := wL n q0 q qm cA σ0 σ τ o o2 f f2) C hl0 hX hN h (wT_ordersByAll_0 hn σ0 σ (xs (i + 1).toNatClampNeg) hf o f) cx_L_217 (wL_L ..) (wL_L n q0 q qm cA σ0 σ τ o o2 f f2).symm rfl rfl rfl hl.1 (Nat.le_of_ble_eq_true rfl) dL_law_1796 ⟨(Nat.le_of_ble_eq_true rfl), (Nat.le_of_ble_eq_true rfl)⟩ rfl rfl ⟨by show cells + 1 ≤ 601024; omega, by show slots + 6 ≤ 7293034; omega⟩ (fun H locs h => ?_)
    refine W.eq (g2 := F0 m 1799 ls [.int 1]) rfl ?_
    refine lv_istore (pc := 1799) (lv' := [(6, .int 1), (0, .ref b), (1, .ref (q0 0)), (2, .ref (qm 0)), (3, .ref o), (4, .ref o2), (5, .int i)]) hx hb dL_law_1799 hl (by decide) rfl (fun ls hl => ?_)
    refine lv_aload_n (pc := 1801) hx hb dL_law_1801 rfl (lv_at hl 3 rfl) ?_
    refine lv_aload_n (pc := 1802) hx hb dL_law_1802 rfl (lv_at hl 1 rfl) ?_
    refine lv_iload (pc := 1803) hx hb dL_law_1803 (lv_at hl 6 rfl) ?_
    refine lv_iconst (pc := 1805) (v := 1) hx hb dL_law_1805 (by decide) ?_
    refine lv_iadd (pc := 1806) hx hb dL_law_1806 ?_
    refine va_sld (pc := 1807) hx hb hscr hbl hbA h.2.2.1 hi1 dL_law_1807 ?_
    refine call_VUp (pc := 1808) (rest := []) (As := [.int (xs (i + 1).toNatClampNeg)]) (wc' := mW qm cA τ') (ws' := wL n q0 q qm cA σ0 σ τ' o o2 f f2) C h (k_X5_ordersByAll (q := qm) τ (xs (i + 1).toNatClampNeg) h5) cm_L_219 (mW_c0 ..) rfl (wL_M ..) (wL_M n q0 q qm cA σ0 σ τ' o o2 f f2).symm (mW_fst ..) rfl rfl hl.1 (Nat.le_of_ble_eq_true rfl) dL_law_1808 ⟨(Nat.le_of_ble_eq_true rfl), (Nat.le_of_ble_eq_true rfl)⟩ rfl rfl ⟨by show _ ≤ 601024; omega, by show _ ≤ 7293034; omega⟩ (fun H locs h => ?_)
    refine W.eq (g2 := F0 m 1811 ls [.int w]) rfl ?_
    refine lv_istore (pc := 1811) (lv' := [(7, .int w), (6, .int 1), (0, .ref b), (1, .ref (q0 0)), (2, .ref (qm 0)), (3, .ref o), (4, .ref o2), (5, .int i)]) hx hb dL_law_1811 hl (by decide) rfl (fun ls hl => ?_)
    refine lv_aload_n (pc := 1813) hx hb dL_law_1813 rfl (lv_at hl 4 rfl) ?_
    refine call_VRp (pc := 1814) (rest := []) (As := []) C h (k_X5_thrown (q := qm) τ' rfl) cm_L_131 (mW_c0 ..) rfl (wL_M ..) rfl rfl hl.1 (Nat.le_of_ble_eq_true rfl) dL_law_1814 ⟨(Nat.le_of_ble_eq_true rfl), (Nat.le_of_ble_eq_true rfl)⟩ rfl rfl ⟨by show _ ≤ 601024; omega, by show _ ≤ 7293034; omega⟩ (fun H locs h => ?_)
    refine W.eq (g2 := F0 m 1817 ls [.int (τ' 24 0)]) rfl ?_
    refine lv_iload (pc := 1817) hx hb dL_law_1817 (lv_at hl 1 rfl) ?_
    refine lv_icmp_eq (pc := 1819) (tgt := 1824) hx hb dL_law_1819 (by decide) (fun _ => ?_) (fun c9 => absurd hthr c9)
    refine lv_iload (pc := 1824) hx hb dL_law_1824 (lv_at hl 1 rfl) ?_
    refine lv_if_ne (pc := 1826) (tgt := 1841) hx hb dL_law_1826 (by decide) (fun _ => ?_) (fun c9 => absurd c9 (by decide))
    refine lv_goto (pc := 1841) (tgt := 2364) hx hb dL_law_1841 (by decide) ?_
    exact W.widen (by omega) (by omega) (kk _ _ _ _ _ _ _ _ _ hI2 h ls (lv_sub hl [2, 3, 4, 5, 6, 7] rfl))
set_option maxHeartbeats 1000000 in
set_option maxRecDepth 100000 in
theorem law_ordersLeft {Inv : IT} (hn6 : ∀ t n σ0 σ τ, Inv t n σ0 σ τ → n ≤ 6) (S : SA_ordersLeft Inv) {t n : Nat} {q0 : Nat → Nat} {q : Nat → Nat → Nat} {qm : Nat → Nat} {σ0 τ : Nat → Nat → Int32} {σ : Nat → Nat → Nat → Int32} {o o2 : Nat} {f : Nat → Int64} {f2 : Nat → UInt64} {i : Int32} (ht : t < 512) (hI : Inv t n σ0 σ τ)
    (X : LX p l s m args meth c D cA b L xs) (h : St D (nA s) s.heap (wL n q0 q qm cA σ0 σ τ o o2 f f2) H locs) (hi : HI i L) (hl : lv_has ls 8 (L0 b (q0 0) (qm 0) o o2 i)) (hc : cells + 20 ≤ 601024) (hs : slots + 263 ≤ 7293034)
    (kk : LK p l e s m args below meth c D cA b q0 qm o o2 Inv t i cells slots Q) : W p l e room_1 s m args below meth c H locs cells slots Q (F0 m 1844 ls []) := by
  obtain ⟨C, hl0, hX, hN, hscr, hbl⟩ := X
  obtain ⟨hi0, hi1, hi2, hi3, hi4, hi5⟩ := hi
  obtain ⟨hx, hb, hml, hown, hts, hK, hlk⟩ := id C
  have hbA : ¬ nA s b := Nat.not_le.mpr hbl
  have hn := hn6 _ _ _ _ _ hI
  obtain ⟨w, τ', h5, ⟨σ0', σ', hf, hI2, hthr⟩ | ⟨hf, hI2, hthr⟩⟩ := S _ _ _ _ _ _ ht hI
  · refine lv_aload_n (pc := 1844) hx hb dL_law_1844 rfl (lv_at hl 1 rfl) ?_
    refine lv_aload_n (pc := 1845) hx hb dL_law_1845 rfl (lv_at hl 0 rfl) ?_
    refine lv_iload (pc := 1846) hx hb dL_law_1846 (lv_at hl 5 rfl) ?_
    refine lv_iconst (pc := 1848) (v := 1) hx hb dL_law_1848 (by decide) ?_
    refine lv_iadd (pc := 1849) hx hb dL_law_1849 ?_
    refine va_sld (pc := 1850) hx hb hscr hbl hbA h.2.2.1 hi1 dL_law_1850 ?_
    refine lv_aload_n (pc := 1851) hx hb dL_law_1851 rfl (lv_at hl 3 rfl) ?_
    refine call_W (pc := 1852) (rest := []) (As := [.ref (q0 0), .int (xs (i + 1).toNatClampNeg), .ref o]) (ws' := wL n q0 q qm cA σ0' σ' τ o o2 (vp_updL f 0 w.toInt64) f2) C hl0 hX hN h (w_ordersLeft hn σ0 σ (xs (i + 1).toNatClampNeg) hf o f) cx_L_220 (wL_L ..) (wL_L n q0 q qm cA σ0' σ' τ o o2 (vp_updL f 0 w.toInt64) f2).symm (xL_fst ..) rfl rfl hl.1 (Nat.le_of_ble_eq_true rfl) dL_law_1852 ⟨(Nat.le_of_ble_eq_true rfl), (Nat.le_of_ble_eq_true rfl)⟩ rfl rfl ⟨by show cells + 1 ≤ 601024; omega, by show slots + 6 ≤ 7293034; omega⟩ (fun H locs h => ?_)
    refine W.eq (g2 := F0 m 1855 ls [.int 0]) rfl ?_
    refine lv_istore (pc := 1855) (lv' := [(6, .int 0), (0, .ref b), (1, .ref (q0 0)), (2, .ref (qm 0)), (3, .ref o), (4, .ref o2), (5, .int i)]) hx hb dL_law_1855 hl (by decide) rfl (fun ls hl => ?_)
    refine lv_aload_n (pc := 1857) hx hb dL_law_1857 rfl (lv_at hl 3 rfl) ?_
    refine lv_aload_n (pc := 1858) hx hb dL_law_1858 rfl (lv_at hl 1 rfl) ?_
    refine lv_iload (pc := 1859) hx hb dL_law_1859 (lv_at hl 6 rfl) ?_
    refine lv_iconst (pc := 1861) (v := 1) hx hb dL_law_1861 (by decide) ?_
    refine lv_iadd (pc := 1862) hx hb dL_law_1862 ?_
    refine va_sld (pc := 1863) hx hb hscr hbl hbA h.2.2.1 hi1 dL_law_1863 ?_
    refine call_VUp (pc := 1864) (rest := []) (As := [.int (xs (i + 1).toNatClampNeg)]) (wc' := mW qm cA τ') (ws' := wL n q0 q qm cA σ0' σ' τ' o o2 (vp_updL f 0 w.toInt64) f2) C h (k_X5_ordersLeft (q := qm) τ (xs (i + 1).toNatClampNeg) h5) cm_L_222 (mW_c0 ..) rfl (wL_M ..) (wL_M n q0 q qm cA σ0' σ' τ' o o2 (vp_updL f 0 w.toInt64) f2).symm (mW_fst ..) rfl rfl hl.1 (Nat.le_of_ble_eq_true rfl) dL_law_1864 ⟨(Nat.le_of_ble_eq_true rfl), (Nat.le_of_ble_eq_true rfl)⟩ rfl rfl ⟨by show _ ≤ 601024; omega, by show _ ≤ 7293034; omega⟩ (fun H locs h => ?_)
    refine W.eq (g2 := F0 m 1867 ls [.int w]) rfl ?_
    refine lv_istore (pc := 1867) (lv' := [(7, .int w), (6, .int 0), (0, .ref b), (1, .ref (q0 0)), (2, .ref (qm 0)), (3, .ref o), (4, .ref o2), (5, .int i)]) hx hb dL_law_1867 hl (by decide) rfl (fun ls hl => ?_)
    refine lv_aload_n (pc := 1869) hx hb dL_law_1869 rfl (lv_at hl 4 rfl) ?_
    refine call_VRp (pc := 1870) (rest := []) (As := []) C h (k_X5_thrown (q := qm) τ' rfl) cm_L_131 (mW_c0 ..) rfl (wL_M ..) rfl rfl hl.1 (Nat.le_of_ble_eq_true rfl) dL_law_1870 ⟨(Nat.le_of_ble_eq_true rfl), (Nat.le_of_ble_eq_true rfl)⟩ rfl rfl ⟨by show _ ≤ 601024; omega, by show _ ≤ 7293034; omega⟩ (fun H locs h => ?_)
    refine W.eq (g2 := F0 m 1873 ls [.int (τ' 24 0)]) rfl ?_
    refine lv_iload (pc := 1873) hx hb dL_law_1873 (lv_at hl 1 rfl) ?_
    refine lv_icmp_eq (pc := 1875) (tgt := 1880) hx hb dL_law_1875 (by decide) (fun _ => ?_) (fun c9 => absurd hthr c9)
    refine lv_iload (pc := 1880) hx hb dL_law_1880 (lv_at hl 1 rfl) ?_
    refine lv_if_ne (pc := 1882) (tgt := 1897) hx hb dL_law_1882 (by decide) (fun c9 => absurd rfl c9) (fun _ => ?_)
    refine lv_aload_n (pc := 1885) hx hb dL_law_1885 rfl (lv_at hl 5 rfl) ?_
    refine lv_iconst (pc := 1886) (v := 0) hx hb dL_law_1886 (by decide) ?_
    refine va_lald (pc := 1887) hx hb hK.1 h.1 0 3 (wL_o ..) rfl (show inb (0 : Int32) 1 from by decide) dL_law_1887 ?_
    refine W.eq (g2 := F0 m 1888 ls [.long w.toInt64]) rfl ?_
    refine lv_iload (pc := 1888) hx hb dL_law_1888 (lv_at hl 0 rfl) ?_
    refine lv_i2l (pc := 1890) (v := w.toInt64) hx hb dL_law_1890 rfl ?_
    refine W.lcmp (pc := 1891) hx hb dL_law_1891 ?_
    rw [cmp_self]
    refine lv_if_eq (pc := 1892) (tgt := 1897) hx hb dL_law_1892 (by decide) (fun _ => ?_) (fun c9 => absurd rfl c9)
    refine lv_goto (pc := 1897) (tgt := 2364) hx hb dL_law_1897 (by decide) ?_
    exact W.widen (by omega) (by omega) (kk _ _ _ _ _ _ _ _ _ hI2 h ls (lv_sub hl [2, 3, 4, 5, 6, 7] rfl))
  · refine lv_aload_n (pc := 1844) hx hb dL_law_1844 rfl (lv_at hl 1 rfl) ?_
    refine lv_aload_n (pc := 1845) hx hb dL_law_1845 rfl (lv_at hl 0 rfl) ?_
    refine lv_iload (pc := 1846) hx hb dL_law_1846 (lv_at hl 5 rfl) ?_
    refine lv_iconst (pc := 1848) (v := 1) hx hb dL_law_1848 (by decide) ?_
    refine lv_iadd (pc := 1849) hx hb dL_law_1849 ?_
    refine va_sld (pc := 1850) hx hb hscr hbl hbA h.2.2.1 hi1 dL_law_1850 ?_
    refine lv_aload_n (pc := 1851) hx hb dL_law_1851 rfl (lv_at hl 3 rfl) ?_
    refine call_W (pc := 1852) (rest := []) (As := [.ref (q0 0), .int (xs (i + 1).toNatClampNeg), .ref o]) (ws' := wL n q0 q qm cA σ0 σ τ o o2 f f2) C hl0 hX hN h (wT_ordersLeft_0 hn σ0 σ (xs (i + 1).toNatClampNeg) hf o f) cx_L_220 (wL_L ..) (wL_L n q0 q qm cA σ0 σ τ o o2 f f2).symm rfl rfl rfl hl.1 (Nat.le_of_ble_eq_true rfl) dL_law_1852 ⟨(Nat.le_of_ble_eq_true rfl), (Nat.le_of_ble_eq_true rfl)⟩ rfl rfl ⟨by show cells + 1 ≤ 601024; omega, by show slots + 6 ≤ 7293034; omega⟩ (fun H locs h => ?_)
    refine W.eq (g2 := F0 m 1855 ls [.int 1]) rfl ?_
    refine lv_istore (pc := 1855) (lv' := [(6, .int 1), (0, .ref b), (1, .ref (q0 0)), (2, .ref (qm 0)), (3, .ref o), (4, .ref o2), (5, .int i)]) hx hb dL_law_1855 hl (by decide) rfl (fun ls hl => ?_)
    refine lv_aload_n (pc := 1857) hx hb dL_law_1857 rfl (lv_at hl 3 rfl) ?_
    refine lv_aload_n (pc := 1858) hx hb dL_law_1858 rfl (lv_at hl 1 rfl) ?_
    refine lv_iload (pc := 1859) hx hb dL_law_1859 (lv_at hl 6 rfl) ?_
    refine lv_iconst (pc := 1861) (v := 1) hx hb dL_law_1861 (by decide) ?_
    refine lv_iadd (pc := 1862) hx hb dL_law_1862 ?_
    refine va_sld (pc := 1863) hx hb hscr hbl hbA h.2.2.1 hi1 dL_law_1863 ?_
    refine call_VUp (pc := 1864) (rest := []) (As := [.int (xs (i + 1).toNatClampNeg)]) (wc' := mW qm cA τ') (ws' := wL n q0 q qm cA σ0 σ τ' o o2 f f2) C h (k_X5_ordersLeft (q := qm) τ (xs (i + 1).toNatClampNeg) h5) cm_L_222 (mW_c0 ..) rfl (wL_M ..) (wL_M n q0 q qm cA σ0 σ τ' o o2 f f2).symm (mW_fst ..) rfl rfl hl.1 (Nat.le_of_ble_eq_true rfl) dL_law_1864 ⟨(Nat.le_of_ble_eq_true rfl), (Nat.le_of_ble_eq_true rfl)⟩ rfl rfl ⟨by show _ ≤ 601024; omega, by show _ ≤ 7293034; omega⟩ (fun H locs h => ?_)
    refine W.eq (g2 := F0 m 1867 ls [.int w]) rfl ?_
    refine lv_istore (pc := 1867) (lv' := [(7, .int w), (6, .int 1), (0, .ref b), (1, .ref (q0 0)), (2, .ref (qm 0)), (3, .ref o), (4, .ref o2), (5, .int i)]) hx hb dL_law_1867 hl (by decide) rfl (fun ls hl => ?_)
    refine lv_aload_n (pc := 1869) hx hb dL_law_1869 rfl (lv_at hl 4 rfl) ?_
    refine call_VRp (pc := 1870) (rest := []) (As := []) C h (k_X5_thrown (q := qm) τ' rfl) cm_L_131 (mW_c0 ..) rfl (wL_M ..) rfl rfl hl.1 (Nat.le_of_ble_eq_true rfl) dL_law_1870 ⟨(Nat.le_of_ble_eq_true rfl), (Nat.le_of_ble_eq_true rfl)⟩ rfl rfl ⟨by show _ ≤ 601024; omega, by show _ ≤ 7293034; omega⟩ (fun H locs h => ?_)
    refine W.eq (g2 := F0 m 1873 ls [.int (τ' 24 0)]) rfl ?_
    refine lv_iload (pc := 1873) hx hb dL_law_1873 (lv_at hl 1 rfl) ?_
    refine lv_icmp_eq (pc := 1875) (tgt := 1880) hx hb dL_law_1875 (by decide) (fun _ => ?_) (fun c9 => absurd hthr c9)
    refine lv_iload (pc := 1880) hx hb dL_law_1880 (lv_at hl 1 rfl) ?_
    refine lv_if_ne (pc := 1882) (tgt := 1897) hx hb dL_law_1882 (by decide) (fun _ => ?_) (fun c9 => absurd c9 (by decide))
    refine lv_goto (pc := 1897) (tgt := 2364) hx hb dL_law_1897 (by decide) ?_
    exact W.widen (by omega) (by omega) (kk _ _ _ _ _ _ _ _ _ hI2 h ls (lv_sub hl [2, 3, 4, 5, 6, 7] rfl))
end
