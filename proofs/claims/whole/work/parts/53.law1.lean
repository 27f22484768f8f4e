section
variable {p : Program} {l : Launch} {e : Env} {s : State} {m : MethodId} {args : Array Value} {below : List Frame} {meth : Method} {c : Code} {H : Heap} {locs : List Loc} {cells slots : Nat} {Q : State → Prop} {D : va_G} {cA : Nat → ClassId} {b L : Nat} {xs : Nat → Int32} {ls : Array Slot}
set_option maxHeartbeats 1000000 in
set_option maxRecDepth 100000 in
theorem law_decline {Inv : IT} (hn6 : ∀ t n σ0 σ τ, Inv t n σ0 σ τ → n ≤ 6) (S : SA_decline Inv) {t n : Nat} {q0 : Nat → Nat} {q : Nat → Nat → Nat} {qm : Nat → Nat} {σ0 τ : Nat → Nat → Int32} {σ : Nat → Nat → Nat → Int32} {o o2 : Nat} {f : Nat → Int64} {f2 : Nat → UInt64} {i : Int32} (ht : t < 512) (hI : Inv t n σ0 σ τ)
    (X : LX p l s m args meth c D cA b L xs) (h : St D (nA s) s.heap (wL n q0 q qm cA σ0 σ τ o o2 f f2) H locs) (hi : HI i L) (hl : lv_has ls 8 (L0 b (q0 0) (qm 0) o o2 i)) (hc : cells + 20 ≤ 601024) (hs : slots + 263 ≤ 7293034)
    (kk : LK p l e s m args below meth c D cA b q0 qm o o2 Inv t i cells slots Q) : W p l e room_1 s m args below meth c H locs cells slots Q (F0 m 668 ls []) := by
  obtain ⟨C, hl0, hX, hN, hscr, hbl⟩ := X
  obtain ⟨hi0, hi1, hi2, hi3, hi4, hi5⟩ := hi
  obtain ⟨hx, hb, hml, hown, hts, hK, hlk⟩ := id C
  have hbA : ¬ nA s b := Nat.not_le.mpr hbl
  have hn := hn6 _ _ _ _ _ hI
  obtain ⟨w, τ', h5, ⟨σ0', σ', hf, hI2, hthr⟩ | ⟨hf, hI2, hthr⟩ | ⟨hf, hI2, hthr⟩⟩ := S _ _ _ _ _ _ _ _ ht hI
  · refine lv_aload_n (pc := 668) hx hb dL_law_668 rfl (lv_at hl 1 rfl) ?_
    refine lv_aload_n (pc := 669) hx hb dL_law_669 rfl (lv_at hl 0 rfl) ?_
    refine lv_iload (pc := 670) hx hb dL_law_670 (lv_at hl 5 rfl) ?_
    refine lv_iconst (pc := 672) (v := 1) hx hb dL_law_672 (by decide) ?_
    refine lv_iadd (pc := 673) hx hb dL_law_673 ?_
    refine va_sld (pc := 674) hx hb hscr hbl hbA h.2.2.1 hi1 dL_law_674 ?_
    refine lv_aload_n (pc := 675) hx hb dL_law_675 rfl (lv_at hl 0 rfl) ?_
    refine lv_iload (pc := 676) hx hb dL_law_676 (lv_at hl 5 rfl) ?_
    refine lv_iconst (pc := 678) (v := 2) hx hb dL_law_678 (by decide) ?_
    refine lv_iadd (pc := 679) hx hb dL_law_679 ?_
    refine va_sld (pc := 680) hx hb hscr hbl hbA h.2.2.1 hi2 dL_law_680 ?_
    refine lv_aload_n (pc := 681) hx hb dL_law_681 rfl (lv_at hl 0 rfl) ?_
    refine lv_iload (pc := 682) hx hb dL_law_682 (lv_at hl 5 rfl) ?_
    refine lv_iconst (pc := 684) (v := 3) hx hb dL_law_684 (by decide) ?_
    refine lv_iadd (pc := 685) hx hb dL_law_685 ?_
    refine va_sld (pc := 686) hx hb hscr hbl hbA h.2.2.1 hi3 dL_law_686 ?_
    refine lv_aload_n (pc := 687) hx hb dL_law_687 rfl (lv_at hl 3 rfl) ?_
    refine call_W (pc := 688) (rest := []) (As := [.ref (q0 0), .int (xs (i + 1).toNatClampNeg), .int (xs (i + 2).toNatClampNeg), .int (xs (i + 3).toNatClampNeg), .ref o]) (ws' := wL n q0 q qm cA σ0' σ' τ o o2 (vp_updL f 0 w.toInt64) f2) C hl0 hX hN h (w_decline hn σ0 σ (xs (i + 1).toNatClampNeg) (xs (i + 2).toNatClampNeg) (xs (i + 3).toNatClampNeg) hf o f) cx_L_156 (wL_L ..) (wL_L n q0 q qm cA σ0' σ' τ o o2 (vp_updL f 0 w.toInt64) f2).symm (xL_fst ..) rfl rfl hl.1 (Nat.le_of_ble_eq_true rfl) dL_law_688 ⟨(Nat.le_of_ble_eq_true rfl), (Nat.le_of_ble_eq_true rfl)⟩ rfl rfl ⟨by show cells + 1 ≤ 601024; omega, by show slots + 6 ≤ 7293034; omega⟩ (fun H locs h => ?_)
    refine W.eq (g2 := F0 m 691 ls [.int 0]) rfl ?_
    refine lv_istore (pc := 691) (lv' := [(6, .int 0), (0, .ref b), (1, .ref (q0 0)), (2, .ref (qm 0)), (3, .ref o), (4, .ref o2), (5, .int i)]) hx hb dL_law_691 hl (by decide) rfl (fun ls hl => ?_)
    refine lv_aload_n (pc := 693) hx hb dL_law_693 rfl (lv_at hl 3 rfl) ?_
    refine lv_aload_n (pc := 694) hx hb dL_law_694 rfl (lv_at hl 1 rfl) ?_
    refine lv_iload (pc := 695) hx hb dL_law_695 (lv_at hl 6 rfl) ?_
    refine lv_iconst (pc := 697) (v := 1) hx hb dL_law_697 (by decide) ?_
    refine lv_iadd (pc := 698) hx hb dL_law_698 ?_
    refine va_sld (pc := 699) hx hb hscr hbl hbA h.2.2.1 hi1 dL_law_699 ?_
    refine lv_aload_n (pc := 700) hx hb dL_law_700 rfl (lv_at hl 1 rfl) ?_
    refine lv_iload (pc := 701) hx hb dL_law_701 (lv_at hl 6 rfl) ?_
    refine lv_iconst (pc := 703) (v := 2) hx hb dL_law_703 (by decide) ?_
    refine lv_iadd (pc := 704) hx hb dL_law_704 ?_
    refine va_sld (pc := 705) hx hb hscr hbl hbA h.2.2.1 hi2 dL_law_705 ?_
    refine lv_aload_n (pc := 706) hx hb dL_law_706 rfl (lv_at hl 1 rfl) ?_
    refine lv_iload (pc := 707) hx hb dL_law_707 (lv_at hl 6 rfl) ?_
    refine lv_iconst (pc := 709) (v := 3) hx hb dL_law_709 (by decide) ?_
    refine lv_iadd (pc := 710) hx hb dL_law_710 ?_
    refine va_sld (pc := 711) hx hb hscr hbl hbA h.2.2.1 hi3 dL_law_711 ?_
    refine call_VUp (pc := 712) (rest := []) (As := [.int (xs (i + 1).toNatClampNeg), .int (xs (i + 2).toNatClampNeg), .int (xs (i + 3).toNatClampNeg)]) (wc' := mW qm cA τ') (ws' := wL n q0 q qm cA σ0' σ' τ' o o2 (vp_updL f 0 w.toInt64) f2) C h (k_X5_decline (q := qm) τ (xs (i + 1).toNatClampNeg) (xs (i + 2).toNatClampNeg) (xs (i + 3).toNatClampNeg) h5) cm_L_158 (mW_c0 ..) rfl (wL_M ..) (wL_M n q0 q qm cA σ0' σ' τ' o o2 (vp_updL f 0 w.toInt64) f2).symm (mW_fst ..) rfl rfl hl.1 (Nat.le_of_ble_eq_true rfl) dL_law_712 ⟨(Nat.le_of_ble_eq_true rfl), (Nat.le_of_ble_eq_true rfl)⟩ rfl rfl ⟨by show _ ≤ 601024; omega, by show _ ≤ 7293034; omega⟩ (fun H locs h => ?_)
    refine W.eq (g2 := F0 m 715 ls [.int w]) rfl ?_
    refine lv_istore (pc := 715) (lv' := [(7, .int w), (6, .int 0), (0, .ref b), (1, .ref (q0 0)), (2, .ref (qm 0)), (3, .ref o), (4, .ref o2), (5, .int i)]) hx hb dL_law_715 hl (by decide) rfl (fun ls hl => ?_)
    refine lv_aload_n (pc := 717) hx hb dL_law_717 rfl (lv_at hl 4 rfl) ?_
    refine call_VRp (pc := 718) (rest := []) (As := []) C h (k_X5_thrown (q := qm) τ' rfl) cm_L_131 (mW_c0 ..) rfl (wL_M ..) rfl rfl hl.1 (Nat.le_of_ble_eq_true rfl) dL_law_718 ⟨(Nat.le_of_ble_eq_true rfl), (Nat.le_of_ble_eq_true rfl)⟩ rfl rfl ⟨by show _ ≤ 601024; omega, by show _ ≤ 7293034; omega⟩ (fun H locs h => ?_)
    refine W.eq (g2 := F0 m 721 ls [.int (τ' 24 0)]) rfl ?_
    refine lv_iload (pc := 721) hx hb dL_law_721 (lv_at hl 1 rfl) ?_
    refine lv_icmp_eq (pc := 723) (tgt := 728) hx hb dL_law_723 (by decide) (fun _ => ?_) (fun c9 => absurd hthr c9)
    refine lv_iload (pc := 728) hx hb dL_law_728 (lv_at hl 1 rfl) ?_
    refine lv_if_ne (pc := 730) (tgt := 745) hx hb dL_law_730 (by decide) (fun c9 => absurd rfl c9) (fun _ => ?_)
    refine lv_aload_n (pc := 733) hx hb dL_law_733 rfl (lv_at hl 5 rfl) ?_
    refine lv_iconst (pc := 734) (v := 0) hx hb dL_law_734 (by decide) ?_
    refine va_lald (pc := 735) hx hb hK.1 h.1 0 3 (wL_o ..) rfl (show inb (0 : Int32) 1 from by decide) dL_law_735 ?_
    refine W.eq (g2 := F0 m 736 ls [.long w.toInt64]) rfl ?_
    refine lv_iload (pc := 736) hx hb dL_law_736 (lv_at hl 0 rfl) ?_
    refine lv_i2l (pc := 738) (v := w.toInt64) hx hb dL_law_738 rfl ?_
    refine W.lcmp (pc := 739) hx hb dL_law_739 ?_
    rw [cmp_self]
    refine lv_if_eq (pc := 740) (tgt := 745) hx hb dL_law_740 (by decide) (fun _ => ?_) (fun c9 => absurd rfl c9)
    refine lv_goto (pc := 745) (tgt := 2364) hx hb dL_law_745 (by decide) ?_
    exact W.widen (by omega) (by omega) (kk _ _ _ _ _ _ _ _ _ hI2 h ls (lv_sub hl [2, 3, 4, 5, 6, 7] rfl))
  · refine lv_aload_n (pc := 668) hx hb dL_law_668 rfl (lv_at hl 1 rfl) ?_
    refine lv_aload_n (pc := 669) hx hb dL_law_669 rfl (lv_at hl 0 rfl) ?_
    refine lv_iload (pc := 670) hx hb dL_law_670 (lv_at hl 5 rfl) ?_
    refine lv_iconst (pc := 672) (v := 1) hx hb dL_law_672 (by decide) ?_
    refine lv_iadd (pc := 673) hx hb dL_law_673 ?_
    refine va_sld (pc := 674) hx hb hscr hbl hbA h.2.2.1 hi1 dL_law_674 ?_
    refine lv_aload_n (pc := 675) hx hb dL_law_675 rfl (lv_at hl 0 rfl) ?_
    refine lv_iload (pc := 676) hx hb dL_law_676 (lv_at hl 5 rfl) ?_
    refine lv_iconst (pc := 678) (v := 2) hx hb dL_law_678 (by decide) ?_
    refine lv_iadd (pc := 679) hx hb dL_law_679 ?_
    refine va_sld (pc := 680) hx hb hscr hbl hbA h.2.2.1 hi2 dL_law_680 ?_
    refine lv_aload_n (pc := 681) hx hb dL_law_681 rfl (lv_at hl 0 rfl) ?_
    refine lv_iload (pc := 682) hx hb dL_law_682 (lv_at hl 5 rfl) ?_
    refine lv_iconst (pc := 684) (v := 3) hx hb dL_law_684 (by decide) ?_
    refine lv_iadd (pc := 685) hx hb dL_law_685 ?_
    refine va_sld (pc := 686) hx hb hscr hbl hbA h.2.2.1 hi3 dL_law_686 ?_
    refine lv_aload_n (pc := 687) hx hb dL_law_687 rfl (lv_at hl 3 rfl) ?_
    refine call_W (pc := 688) (rest := []) (As := [.ref (q0 0), .int (xs (i + 1).toNatClampNeg), .int (xs (i + 2).toNatClampNeg), .int (xs (i + 3).toNatClampNeg), .ref o]) (ws' := wL n q0 q qm cA σ0 σ τ o o2 f f2) C hl0 hX hN h (wT_decline_0 hn σ0 σ (xs (i + 1).toNatClampNeg) (xs (i + 2).toNatClampNeg) (xs (i + 3).toNatClampNeg) hf o f) cx_L_156 (wL_L ..) (wL_L n q0 q qm cA σ0 σ τ o o2 f f2).symm rfl rfl rfl hl.1 (Nat.le_of_ble_eq_true rfl) dL_law_688 ⟨(Nat.le_of_ble_eq_true rfl), (Nat.le_of_ble_eq_true rfl)⟩ rfl rfl ⟨by show cells + 1 ≤ 601024; omega, by show slots + 6 ≤ 7293034; omega⟩ (fun H locs h => ?_)
    refine W.eq (g2 := F0 m 691 ls [.int 1]) rfl ?_
    refine lv_istore (pc := 691) (lv' := [(6, .int 1), (0, .ref b), (1, .ref (q0 0)), (2, .ref (qm 0)), (3, .ref o), (4, .ref o2), (5, .int i)]) hx hb dL_law_691 hl (by decide) rfl (fun ls hl => ?_)
    refine lv_aload_n (pc := 693) hx hb dL_law_693 rfl (lv_at hl 3 rfl) ?_
    refine lv_aload_n (pc := 694) hx hb dL_law_694 rfl (lv_at hl 1 rfl) ?_
    refine lv_iload (pc := 695) hx hb dL_law_695 (lv_at hl 6 rfl) ?_
    refine lv_iconst (pc := 697) (v := 1) hx hb dL_law_697 (by decide) ?_
    refine lv_iadd (pc := 698) hx hb dL_law_698 ?_
    refine va_sld (pc := 699) hx hb hscr hbl hbA h.2.2.1 hi1 dL_law_699 ?_
    refine lv_aload_n (pc := 700) hx hb dL_law_700 rfl (lv_at hl 1 rfl) ?_
    refine lv_iload (pc := 701) hx hb dL_law_701 (lv_at hl 6 rfl) ?_
    refine lv_iconst (pc := 703) (v := 2) hx hb dL_law_703 (by decide) ?_
    refine lv_iadd (pc := 704) hx hb dL_law_704 ?_
    refine va_sld (pc := 705) hx hb hscr hbl hbA h.2.2.1 hi2 dL_law_705 ?_
    refine lv_aload_n (pc := 706) hx hb dL_law_706 rfl (lv_at hl 1 rfl) ?_
    refine lv_iload (pc := 707) hx hb dL_law_707 (lv_at hl 6 rfl) ?_
    refine lv_iconst (pc := 709) (v := 3) hx hb dL_law_709 (by decide) ?_
    refine lv_iadd (pc := 710) hx hb dL_law_710 ?_
    refine va_sld (pc := 711) hx hb hscr hbl hbA h.2.2.1 hi3 dL_law_711 ?_
    refine call_VUp (pc := 712) (rest := []) (As := [.int (xs (i + 1).toNatClampNeg), .int (xs (i + 2).toNatClampNeg), .int (xs (i + 3).toNatClampNeg)]) (wc' := mW qm cA τ') (ws' := wL n q0 q qm cA σ0 σ τ' o o2 f f2) C h (k_X5_decline (q := qm) τ (xs (i + 1).toNatClampNeg) (xs (i + 2).toNatClampNeg) (xs (i + 3).toNatClampNeg) h5) cm_L_158 (mW_c0 ..) rfl (wL_M ..) (wL_M n q0 q qm cA σ0 σ τ' o o2 f f2).symm (mW_fst ..) rfl rfl hl.1 (Nat.le_of_ble_eq_true rfl) dL_law_712 ⟨(Nat.le_of_ble_eq_true rfl), (Nat.le_of_ble_eq_true rfl)⟩ rfl rfl ⟨by show _ ≤ 601024; omega, by show _ ≤ 7293034; omega⟩ (fun H locs h => ?_)
    refine W.eq (g2 := F0 m 715 ls [.int w]) rfl ?_
    refine lv_istore (pc := 715) (lv' := [(7, .int w), (6, .int 1), (0, .ref b), (1, .ref (q0 0)), (2, .ref (qm 0)), (3, .ref o), (4, .ref o2), (5, .int i)]) hx hb dL_law_715 hl (by decide) rfl (fun ls hl => ?_)
    refine lv_aload_n (pc := 717) hx hb dL_law_717 rfl (lv_at hl 4 rfl) ?_
    refine call_VRp (pc := 718) (rest := []) (As := []) C h (k_X5_thrown (q := qm) τ' rfl) cm_L_131 (mW_c0 ..) rfl (wL_M ..) rfl rfl hl.1 (Nat.le_of_ble_eq_true rfl) dL_law_718 ⟨(Nat.le_of_ble_eq_true rfl), (Nat.le_of_ble_eq_true rfl)⟩ rfl rfl ⟨by show _ ≤ 601024; omega, by show _ ≤ 7293034; omega⟩ (fun H locs h => ?_)
    refine W.eq (g2 := F0 m 721 ls [.int (τ' 24 0)]) rfl ?_
    refine lv_iload (pc := 721) hx hb dL_law_721 (lv_at hl 1 rfl) ?_
    refine lv_icmp_eq (pc := 723) (tgt := 728) hx hb dL_law_723 (by decide) (fun _ => ?_) (fun c9 => absurd hthr c9)
    refine lv_iload (pc := 728) hx hb dL_law_728 (lv_at hl 1 rfl) ?_
    refine lv_if_ne (pc := 730) (tgt := 745) hx hb dL_law_730 (by decide) (fun _ => ?_) (fun c9 => absurd c9 (by decide))
    refine lv_goto (pc := 745) (tgt := 2364) hx hb dL_law_745 (by decide) ?_
    exact W.widen (by omega) (by omega) (kk _ _ _ _ _ _ _ _ _ hI2 h ls (lv_sub hl [2, 3, 4, 5, 6, 7] rfl))
  · refine lv_aload_n (pc := 668) hx hb dL_law_668 rfl (lv_at hl 1 rfl) ?_
    refine lv_aload_n (pc := 669) hx hb dL_law_669 rfl (lv_at hl 0 rfl) ?_
    refine lv_iload (pc := 670) hx hb dL_law_670 (lv_at hl 5 rfl) ?_
    refine lv_iconst (pc := 672) (v := 1) hx hb dL_law_672 (by decide) ?_
    refine lv_iadd (pc := 673) hx hb dL_law_673 ?_
    refine va_sld (pc := 674) hx hb hscr hbl hbA h.2.2.1 hi1 dL_law_674 ?_
    refine lv_aload_n (pc := 675) hx hb dL_law_675 rfl (lv_at hl 0 rfl) ?_
    refine lv_iload (pc := 676) hx hb dL_law_676 (lv_at hl 5 rfl) ?_
    refine lv_iconst (pc := 678) (v := 2) hx hb dL_law_678 (by decide) ?_
    refine lv_iadd (pc := 679) hx hb dL_law_679 ?_
    refine va_sld (pc := 680) hx hb hscr hbl hbA h.2.2.1 hi2 dL_law_680 ?_
    refine lv_aload_n (pc := 681) hx hb dL_law_681 rfl (lv_at hl 0 rfl) ?_
    refine lv_iload (pc := 682) hx hb dL_law_682 (lv_at hl 5 rfl) ?_
    refine lv_iconst (pc := 684) (v := 3) hx hb dL_law_684 (by decide) ?_
    refine lv_iadd (pc := 685) hx hb dL_law_685 ?_
    refine va_sld (pc := 686) hx hb hscr hbl hbA h.2.2.1 hi3 dL_law_686 ?_
    refine lv_aload_n (pc := 687) hx hb dL_law_687 rfl (lv_at hl 3 rfl) ?_
    refine call_W (pc := 688) (rest := []) (As := [.ref (q0 0), .int (xs (i + 1).toNatClampNeg), .int (xs (i + 2).toNatClampNeg), .int (xs (i + 3).toNatClampNeg), .ref o]) (ws' := wL n q0 q qm cA σ0 σ τ o o2 f f2) C hl0 hX hN h (wT_decline_1 hn σ0 σ (xs (i + 1).toNatClampNeg) (xs (i + 2).toNatClampNeg) (xs (i + 3).toNatClampNeg) hf o f) cx_L_156 (wL_L ..) (wL_L n q0 q qm cA σ0 σ τ o o2 f f2).symm rfl rfl rfl hl.1 (Nat.le_of_ble_eq_true rfl) dL_law_688 ⟨(Nat.le_of_ble_eq_true rfl), (Nat.le_of_ble_eq_true rfl)⟩ rfl rfl ⟨by show cells + 1 ≤ 601024; omega, by show slots + 6 ≤ 7293034; omega⟩ (fun H locs h => ?_)
    refine W.eq (g2 := F0 m 691 ls [.int 2]) rfl ?_
    refine lv_istore (pc := 691) (lv' := [(6, .int 2), (0, .ref b), (1, .ref (q0 0)), (2, .ref (qm 0)), (3, .ref o), (4, .ref o2), (5, .int i)]) hx hb dL_law_691 hl (by decide) rfl (fun ls hl => ?_)
    refine lv_aload_n (pc := 693) hx hb dL_law_693 rfl (lv_at hl 3 rfl) ?_
    refine lv_aload_n (pc := 694) hx hb dL_law_694 rfl (lv_at hl 1 rfl) ?_
    refine lv_iload (pc := 695) hx hb dL_law_695 (lv_at hl 6 rfl) ?_
    refine lv_iconst (pc := 697) (v := 1) hx hb dL_law_697 (by decide) ?_
    refine lv_iadd (pc := 698) hx hb dL_law_698 ?_
    refine va_sld (pc := 699) hx hb hscr hbl hbA h.2.2.1 hi1 dL_law_699 ?_
    refine lv_aload_n (pc := 700) hx hb dL_law_700 rfl (lv_at hl 1 rfl) ?_
    refine lv_iload (pc := 701) hx hb dL_law_701 (lv_at hl 6 rfl) ?_
    refine lv_iconst (pc := 703) (v := 2) hx hb dL_law_703 (by decide) ?_
    refine lv_iadd (pc := 704) hx hb dL_law_704 ?_
    refine va_sld (pc := 705) hx hb hscr hbl hbA h.2.2.1 hi2 dL_law_705 ?_
    refine lv_aload_n (pc := 706) hx hb dL_law_706 rfl (lv_at hl 1 rfl) ?_
    refine lv_iload (pc := 707) hx hb dL_law_707 (lv_at hl 6 rfl) ?_
    refine lv_iconst (pc := 709) (v := 3) hx hb dL_law_709 (by decide) ?_
    refine lv_iadd (pc := 710) hx hb dL_law_710 ?_
    refine va_sld (pc := 711) hx hb hscr hbl hbA h.2.2.1 hi3 dL_law_711 ?_
    refine call_VUp (pc := 712) (rest := []) (As := [.int (xs (i + 1).toNatClampNeg), .int (xs (i + 2).toNatClampNeg), .int (xs (i + 3).toNatClampNeg)]) (wc' := mW qm cA τ') (ws' := wL n q0 q qm cA σ0 σ τ' o o2 f f2) C h (k_X5_decline (q := qm) τ (xs (i + 1).toNatClampNeg) (xs (i + 2).toNatClampNeg) (xs (i + 3).toNatClampNeg) h5) cm_L_158 (mW_c0 ..) rfl (wL_M ..) (wL_M n q0 q qm cA σ0 σ τ' o o2 f f2).symm (mW_fst ..) rfl rfl hl.1 (Nat.le_of_ble_eq_true rfl) dL_law_712 ⟨(Nat.le_of_ble_eq_true rfl), (Nat.le_of_ble_eq_true rfl)⟩ rfl rfl ⟨by show _ ≤ 601024; omega, by show _ ≤ 7293034; omega⟩ (fun H locs h => ?_)
    refine W.eq (g2 := F0 m 715 ls [.int w]) rfl ?_
    refine lv_istore (pc := 715) (lv' := [(7, .int w), (6, .int 2), (0, .ref b), (1, .ref (q0 0)), (2, .ref (qm 0)), (3, .ref o), (4, .ref o2), (5, .int i)]) hx hb dL_law_715 hl (by decide) rfl (fun ls hl => ?_)
    refine lv_aload_n (pc := 717) hx hb dL_law_717 rfl (lv_at hl 4 rfl) ?_
    refine call_VRp (pc := 718) (rest := []) (As := []) C h (k_X5_thrown (q := qm) τ' rfl) cm_L_131 (mW_c0 ..) rfl (wL_M ..) rfl rfl hl.1 (Nat.le_of_ble_eq_true rfl) dL_law_718 ⟨(Nat.le_of_ble_eq_true rfl), (Nat.le_of_ble_eq_true rfl)⟩ rfl rfl ⟨by show _ ≤ 601024; omega, by show _ ≤ 7293034; omega⟩ (fun H locs h => ?_)
    refine W.eq (g2 := F0 m 721 ls [.int (τ' 24 0)]) rfl ?_
    refine lv_iload (pc := 721) hx hb dL_law_721 (lv_at hl 1 rfl) ?_
    refine lv_icmp_eq (pc := 723) (tgt := 728) hx hb dL_law_723 (by decide) (fun _ => ?_) (fun c9 => absurd hthr c9)
    refine lv_iload (pc := 728) hx hb dL_law_728 (lv_at hl 1 rfl) ?_
    refine lv_if_ne (pc := 730) (tgt := 745) hx hb dL_law_730 (by decide) (fun _ => ?_) (fun c9 => absurd c9 (by decide))
    refine lv_goto (pc := 745) (tgt := 2364) hx hb dL_law_745 (by decide) ?_
    exact W.widen (by omega) (by omega) (kk _ _ _ _ _ _ _ _ _ hI2 h ls (lv_sub hl [2, 3, 4, 5, 6, 7] rfl))
set_option maxHeartbeats 1000000 in
set_option maxRecDepth 100000 in
theorem law_cancel {Inv : IT} (hn6 : ∀ t n σ0 σ τ, Inv t n σ0 σ τ → n ≤ 6) (S : SA_cancel Inv) {t n : Nat} {q0 : Nat → Nat} {q : Nat → Nat → Nat} {qm : Nat → Nat} {σ0 τ : Nat → Nat → Int32} {σ : Nat → Nat → Nat → Int32} {o o2 : Nat} {f : Nat → Int64} {f2 : Nat → UInt64} {i : Int32} (ht : t < 512) (hI : Inv t n σ0 σ τ)
    (X : LX p l s m args meth c D cA b L xs) (h : St D (nA s) s.heap (wL n q0 q qm cA σ0 σ τ o o2 f f2) H locs) (hi : HI i L) (hl : lv_has ls 8 (L0 b (q0 0) (qm 0) o o2 i)) (hc : cells + 20 ≤ 601024) (hs : slots + 263 ≤ 7293034)
    (kk : LK p l e s m args below meth c D cA b q0 qm o o2 Inv t i cells slots Q) : W p l e room_1 s m args below meth c H locs cells slots Q (F0 m 748 ls []) := by
  obtain ⟨C, hl0, hX, hN, hscr, hbl⟩ := X
  obtain ⟨hi0, hi1, hi2, hi3, hi4, hi5⟩ := hi
  obtain ⟨hx, hb, hml, hown, hts, hK, hlk⟩ := id C
  have hbA : ¬ nA s b := Nat.not_le.mpr hbl
  have hn := hn6 _ _ _ _ _ hI
  obtain ⟨w, τ', h5, ⟨σ0', σ', hf, hI2, hthr⟩ | ⟨hf, hI2, hthr⟩ | ⟨hf, hI2, hthr⟩⟩ := S _ _ _ _ _ _ ht hI
  · refine lv_aload_n (pc := 748) hx hb dL_law_748 rfl (lv_at hl 1 rfl) ?_
    refine lv_aload_n (pc := 749) hx hb dL_law_749 rfl (lv_at hl 0 rfl) ?_
    refine lv_iload (pc := 750) hx hb dL_law_750 (lv_at hl 5 rfl) ?_
    refine lv_iconst (pc := 752) (v := 1) hx hb dL_law_752 (by decide) ?_
    refine lv_iadd (pc := 753) hx hb dL_law_753 ?_
    refine va_sld (pc := 754) hx hb hscr hbl hbA h.2.2.1 hi1 dL_law_754 ?_
    refine lv_aload_n (pc := 755) hx hb dL_law_755 rfl (lv_at hl 3 rfl) ?_
    refine call_W (pc := 756) (rest := []) (As := [.ref (q0 0), .int (xs (i + 1).toNatClampNeg), .ref o]) (ws' := wL n q0 q qm cA σ0' σ' τ o o2 (vp_updL f 0 w.toInt64) f2) C hl0 hX hN h (w_cancel hn σ0 σ (xs (i + 1).toNatClampNeg) hf o f) cx_L_159 (wL_L ..) (wL_L n q0 q qm cA σ0' σ' τ o o2 (vp_updL f 0 w.toInt64) f2).symm (xL_fst ..) rfl rfl hl.1 (Nat.le_of_ble_eq_true rfl) dL_law_756 ⟨(Nat.le_of_ble_eq_true rfl), (Nat.le_of_ble_eq_true rfl)⟩ rfl rfl ⟨by show cells + 1 ≤ 601024; omega, by show slots + 6 ≤ 7293034; omega⟩ (fun H locs h => ?_)
    refine W.eq (g2 := F0 m 759 ls [.int 0]) rfl ?_
    refine lv_istore (pc := 759) (lv' := [(6, .int 0), (0, .ref b), (1, .ref (q0 0)), (2, .ref (qm 0)), (3, .ref o), (4, .ref o2), (5, .int i)]) hx hb dL_law_759 hl (by decide) rfl (fun ls hl => ?_)
    refine lv_aload_n (pc := 761) hx hb dL_law_761 rfl (lv_at hl 3 rfl) ?_
    refine lv_aload_n (pc := 762) hx hb dL_law_762 rfl (lv_at hl 1 rfl) ?_
    refine lv_iload (pc := 763) hx hb dL_law_763 (lv_at hl 6 rfl) ?_
    refine lv_iconst (pc := 765) (v := 1) hx hb dL_law_765 (by decide) ?_
    refine lv_iadd (pc := 766) hx hb dL_law_766 ?_
    refine va_sld (pc := 767) hx hb hscr hbl hbA h.2.2.1 hi1 dL_law_767 ?_
    refine call_VUp (pc := 768) (rest := []) (As := [.int (xs (i + 1).toNatClampNeg)]) (wc' := mW qm cA τ') (ws' := wL n q0 q qm cA σ0' σ' τ' o o2 (vp_updL f 0 w.toInt64) f2) C h (k_X5_cancel (q := qm) τ (xs (i + 1).toNatClampNeg) h5) cm_L_161 (mW_c0 ..) rfl (wL_M ..) (wL_M n q0 q qm cA σ0' σ' τ' o o2 (vp_updL f 0 w.toInt64) f2).symm (mW_fst ..) rfl rfl hl.1 (Nat.le_of_ble_eq_true rfl) dL_law_768 ⟨(Nat.le_of_ble_eq_true rfl), (Nat.le_of_ble_eq_true rfl)⟩ rfl rfl ⟨by show _ ≤ 601024; omega, by show _ ≤ 7293034; omega⟩ (fun H locs h => ?_)
    refine W.eq (g2 := F0 m 771 ls [.int w]) rfl ?_
    refine lv_istore (pc := 771) (lv' := [(7, .int w), (6, .int 0), (0, .ref b), (1, .ref (q0 0)), (2, .ref (qm 0)), (3, .ref o), (4, .ref o2), (5, .int i)]) hx hb dL_law_771 hl (by decide) rfl (fun ls hl => ?_)
    refine lv_aload_n (pc := 773) hx hb dL_law_773 rfl (lv_at hl 4 rfl) ?_
    refine call_VRp (pc := 774) (rest := []) (As := []) C h (k_X5_thrown (q := qm) τ' rfl) cm_L_131 (mW_c0 ..) rfl (wL_M ..) rfl rfl hl.1 (Nat.le_of_ble_eq_true rfl) dL_law_774 ⟨(Nat.le_of_ble_eq_true rfl), (Nat.le_of_ble_eq_true rfl)⟩ rfl rfl ⟨by show _ ≤ 601024; omega, by show _ ≤ 7293034; omega⟩ (fun H locs h => ?_)
    refine W.eq (g2 := F0 m 777 ls [.int (τ' 24 0)]) rfl ?_
    refine lv_iload (pc := 777) hx hb dL_law_777 (lv_at hl 1 rfl) ?_
    refine lv_icmp_eq (pc := 779) (tgt := 784) hx hb dL_law_779 (by decide) (fun _ => ?_) (fun c9 => absurd hthr c9)
    refine lv_iload (pc := 784) hx hb dL_law_784 (lv_at hl 1 rfl) ?_
    refine lv_if_ne (pc := 786) (tgt := 801) hx hb dL_law_786 (by decide) (fun c9 => absurd rfl c9) (fun _ => ?_)
    refine lv_aload_n (pc := 789) hx hb dL_law_789 rfl (lv_at hl 5 rfl) ?_
    refine lv_iconst (pc := 790) (v := 0) hx hb dL_law_790 (by decide) ?_
    refine va_lald (pc := 791) hx hb hK.1 h.1 0 3 (wL_o ..) rfl (show inb (0 : Int32) 1 from by decide) dL_law_791 ?_
    refine W.eq (g2 := F0 m 792 ls [.long w.toInt64]) rfl ?_
    refine lv_iload (pc := 792) hx hb dL_law_792 (lv_at hl 0 rfl) ?_
    refine lv_i2l (pc := 794) (v := w.toInt64) hx hb dL_law_794 rfl ?_
    refine W.lcmp (pc := 795) hx hb dL_law_795 ?_
    rw [cmp_self]
    refine lv_if_eq (pc := 796) (tgt := 801) hx hb dL_law_796 (by decide) (fun _ => ?_) (fun c9 => absurd rfl c9)
    refine lv_goto (pc := 801) (tgt := 2364) hx hb dL_law_801 (by decide) ?_
    exact W.widen (by omega) (by omega) (kk _ _ _ _ _ _ _ _ _ hI2 h ls (lv_sub hl [2, 3, 4, 5, 6, 7] rfl))
  · refine lv_aload_n (pc := 748) hx hb dL_law_748 rfl (lv_at hl 1 rfl) ?_
    refine lv_aload_n (pc := 749) hx hb dL_law_749 rfl (lv_at hl 0 rfl) ?_
    refine lv_iload (pc := 750) hx hb dL_law_750 (lv_at hl 5 rfl) ?_
    refine lv_iconst (pc := 752) (v := 1) hx hb dL_law_752 (by decide) ?_
    refine lv_iadd (pc := 753) hx hb dL_law_753 ?_
    refine va_sld (pc := 754) hx hb hscr hbl hbA h.2.2.1 hi1 dL_law_754 ?_
    refine lv_aload_n (pc := 755) hx hb dL_law_755 rfl (lv_at hl 3 rfl) ?_
    refine call_W (pc := 756) (rest := []) (As := [.ref (q0 0), .int (xs (i + 1).toNatClampNeg), .ref o]) (ws' := wL n q0 q qm cA σ0 σ τ o o2 f f2) C hl0 hX hN h (wT_cancel_0 hn σ0 σ (xs (i + 1).toNatClampNeg) hf o f) cx_L_159 (wL_L ..) (wL_L n q0 q qm cA σ0 σ τ o o2 f f2).symm rfl rfl rfl hl.1 (Nat.le_of_ble_eq_true rfl) dL_law_756 ⟨(Nat.le_of_ble_eq_true rfl), (Nat.le_of_ble_eq_true rfl)⟩ rfl rfl ⟨by show cells + 1 ≤ 601024; omega, by show slots + 6 ≤ 7293034; omega⟩ (fun H locs h => ?_)
    refine W.eq (g2 := F0 m 759 ls [.int 1]) rfl ?_
    refine lv_istore (pc := 759) (lv' := [(6, .int 1), (0, .ref b), (1, .ref (q0 0)), (2, .ref (qm 0)), (3, .ref o), (4, .ref o2), (5, .int i)]) hx hb dL_law_759 hl (by decide) rfl (fun ls hl => ?_)
    refine lv_aload_n (pc := 761) hx hb dL_law_761 rfl (lv_at hl 3 rfl) ?_
    refine lv_aload_n (pc := 762) hx hb dL_law_762 rfl (lv_at hl 1 rfl) ?_
    refine lv_iload (pc := 763) hx hb dL_law_763 (lv_at hl 6 rfl) ?_
    refine lv_iconst (pc := 765) (v := 1) hx hb dL_law_765 (by decide) ?_
    refine lv_iadd (pc := 766) hx hb dL_law_766 ?_
    refine va_sld (pc := 767) hx hb hscr hbl hbA h.2.2.1 hi1 dL_law_767 ?_
    refine call_VUp (pc := 768) (rest := []) (As := [.int (xs (i + 1).toNatClampNeg)]) (wc' := mW qm cA τ') (ws' := wL n q0 q qm cA σ0 σ τ' o o2 f f2) C h (k_X5_cancel (q := qm) τ (xs (i + 1).toNatClampNeg) h5) cm_L_161 (mW_c0 ..) rfl (wL_M ..) (wL_M n q0 q qm cA σ0 σ τ' o o2 f f2).symm (mW_fst ..) rfl rfl hl.1 (Nat.le_of_ble_eq_true rfl) dL_law_768 ⟨(Nat.le_of_ble_eq_true rfl), (Nat.le_of_ble_eq_true rfl)⟩ rfl rfl ⟨by show _ ≤ 601024; omega, by show _ ≤ 7293034; omega⟩ (fun H locs h => ?_)
    refine W.eq (g2 := F0 m 771 ls [.int w]) rfl ?_
    refine lv_istore (pc := 771) (lv' := [(7, .int w), (6, .int 1), (0, .ref b), (1, .ref (q0 0)), (2, .ref (qm 0)), (3, .ref o), (4, .ref o2), (5, .int i)]) hx hb dL_law_771 hl (by decide) rfl (fun ls hl => ?_)
    refine lv_aload_n (pc := 773) hx hb dL_law_773 rfl (lv_at hl 4 rfl) ?_
    refine call_VRp (pc := 774) (rest := []) (As := []) C h (k_X5_thrown (q := qm) τ' rfl) cm_L_131 (mW_c0 ..) rfl (wL_M ..) rfl rfl hl.1 (Nat.le_of_ble_eq_true rfl) dL_law_774 ⟨(Nat.le_of_ble_eq_true rfl), (Nat.le_of_ble_eq_true rfl)⟩ rfl rfl ⟨by show _ ≤ 601024; omega, by show _ ≤ 7293034; omega⟩ (fun H locs h => ?_)
    refine W.eq (g2 := F0 m 777 ls [.int (τ' 24 0)]) rfl ?_
    refine lv_iload (pc := 777) hx hb dL_law_777 (lv_at hl 1 rfl) ?_
    refine lv_icmp_eq (pc := 779) (tgt := 784) hx hb dL_law_779 (by decide) (fun _ => ?_) (fun c9 => absurd hthr c9)
    refine lv_iload (pc := 784) hx hb dL_law_784 (lv_at hl 1 rfl) ?_
    refine lv_if_ne (pc := 786) (tgt := 801) hx hb dL_law_786 (by decide) (fun _ => ?_) (fun c9 => absurd c9 (by decide))
    refine lv_goto (pc := 801) (tgt := 2364) hx hb dL_law_801 (by decide) ?_
    exact W.widen (by omega) (by omega) (kk _ _ _ _ _ _ _ _ _ hI2 h ls (lv_sub hl [2, 3, 4, 5, 6, 7] rfl))
  · refine lv_aload_n (pc := 748) hx hb dL_law_748 rfl (lv_at hl 1 rfl) ?_
    refine lv_aload_n (pc := 749) hx hb dL_law_749 rfl (lv_at hl 0 rfl) ?_
    refine lv_iload (pc := 750) hx hb dL_law_750 (lv_at hl 5 rfl) ?_
    refine lv_iconst (pc := 752) (v := 1) hx hb dL_law_752 (by decide) ?_
    refine lv_iadd (pc := 753) hx hb dL_law_753 ?_
    refine va_sld (pc := 754) hx hb hscr hbl hbA h.2.2.1 hi1 dL_law_754 ?_
    refine lv_aload_n (pc := 755) hx hb dL_law_755 rfl (lv_at hl 3 rfl) ?_
    refine call_W (pc := 756) (rest := []) (As := [.ref (q0 0), .int (xs (i + 1).toNatClampNeg), .ref o]) (ws' := wL n q0 q qm cA σ0 σ τ o o2 f f2) C hl0 hX hN h (wT_cancel_1 hn σ0 σ (xs (i + 1).toNatClampNeg) hf o f) cx_L_159 (wL_L ..) (wL_L n q0 q qm cA σ0 σ τ o o2 f f2).symm rfl rfl rfl hl.1 (Nat.le_of_ble_eq_true rfl) dL_law_756 ⟨(Nat.le_of_ble_eq_true rfl), (Nat.le_of_ble_eq_true rfl)⟩ rfl rfl ⟨by show cells + 1 ≤ 601024; omega, by show slots + 6 ≤ 7293034; omega⟩ (fun H locs h => ?_)
    refine W.eq (g2 := F0 m 759 ls [.int 2]) rfl ?_
    refine lv_istore (pc := 759) (lv' := [(6, .int 2), (0, .ref b), (1, .ref (q0 0)), (2, .ref (qm 0)), (3, .ref o), (4, .ref o2), (5, .int i)]) hx hb dL_law_759 hl (by decide) rfl (fun ls hl => ?_)
    refine lv_aload_n (pc := 761) hx hb dL_law_761 rfl (lv_at hl 3 rfl) ?_
    refine lv_aload_n (pc := 762) hx hb dL_law_762 rfl (lv_at hl 1 rfl) ?_
    refine lv_iload (pc := 763) hx hb dL_law_763 (lv_at hl 6 rfl) ?_
    refine lv_iconst (pc := 765) (v := 1) hx hb dL_law_765 (by decide) ?_
    refine lv_iadd (pc := 766) hx hb dL_law_766 ?_
    refine va_sld (pc := 767) hx hb hscr hbl hbA h.2.2.1 hi1 dL_law_767 ?_
    refine call_VUp (pc := 768) (rest := []) (As := [.int (xs (i + 1).toNatClampNeg)]) (wc' := mW qm cA τ') (ws' := wL n q0 q qm cA σ0 σ τ' o o2 f f2) C h (k_X5_cancel (q := qm) τ (xs (i + 1).toNatClampNeg) h5) cm_L_161 (mW_c0 ..) rfl (wL_M ..) (wL_M n q0 q qm cA σ0 σ τ' o o2 f f2).symm (mW_fst ..) rfl rfl hl.1 (Nat.le_of_ble_eq_true rfl) dL_law_768 ⟨(Nat.le_of_ble_eq_true rfl), (Nat.le_of_ble_eq_true rfl)⟩ rfl rfl ⟨by show _ ≤ 601024; omega, by show _ ≤ 7293034; omega⟩ (fun H locs h => ?_)
    refine W.eq (g2 := F0 m 771 ls [.int w]) rfl ?_
    refine lv_istore (pc := 771) (lv' := [(7, .int w), (6, .int 2), (0, .ref b), (1, .ref (q0 0)), (2, .ref (qm 0)), (3, .ref o), (4, .ref o2), (5, .int i)]) hx hb dL_law_771 hl (by decide) rfl (fun ls hl => ?_)
    refine lv_aload_n (pc := 773) hx hb dL_law_773 rfl (lv_at hl 4 rfl) ?_
    refine call_VRp (pc := 774) (rest := []) (As := []) C h (k_X5_thrown (q := qm) τ' rfl) cm_L_131 (mW_c0 ..) rfl (wL_M ..) rfl rfl hl.1 (Nat.le_of_ble_eq_true rfl) dL_law_774 ⟨(Nat.le_of_ble_eq_true rfl), (Nat.le_of_ble_eq_true rfl)⟩ rfl rfl ⟨by show _ ≤ 601024; omega, by show _ ≤ 7293034; omega⟩ (fun H locs h => ?_)
    refine W.eq (g2 := F0 m 777 ls [.int (τ' 24 0)]) rfl ?_
    refine lv_iload (pc := 777) hx hb dL_law_777 (lv_at hl 1 rfl) ?_
    refine lv_icmp_eq (pc := 779) (tgt := 784) hx hb dL_law_779 (by decide) (fun _ => ?_) (fun c9 => absurd hthr c9)
    refine lv_iload (pc := 784) hx hb dL_law_784 (lv_at hl 1 rfl) ?_
    refine lv_if_ne (pc := 786) (tgt := 801) hx hb dL_law_786 (by decide) (fun _ => ?_) (fun c9 => absurd c9 (by decide))
    refine lv_goto (pc := 801) (tgt := 2364) hx hb dL_law_801 (by decide) ?_
    exact W.widen (by omega) (by omega) (kk _ _ _ _ _ _ _ _ _ hI2 h ls (lv_sub hl [2, 3, 4, 5, 6, 7] rfl))
set_option maxHeartbeats 1000000 in
set_option maxRecDepth 100000 in
theorem law_delegate {Inv : IT} (hn6 : ∀ t n σ0 σ τ, Inv t n σ0 σ τ → n ≤ 6) (S : SA_delegate Inv) {t n : Nat} {q0 : Nat → Nat} {q : Nat → Nat → Nat} {qm : Nat → Nat} {σ0 τ : Nat → Nat → Int32} {σ : Nat → Nat → Nat → Int32} {o o2 : Nat} {f : Nat → Int64} {f2 : Nat → UInt64} {i : Int32} (ht : t < 512) (hI : Inv t n σ0 σ τ)
    (X : LX p l s m args meth c D cA b L xs) (h : St D (nA s) s.heap (wL n q0 q qm cA σ0 σ τ o o2 f f2) H locs) (hi : HI i L) (hl : lv_has ls 8 (L0 b (q0 0) (qm 0) o o2 i)) (hc : cells + 20 ≤ 601024) (hs : slots + 263 ≤ 7293034)
    (kk : LK p l e s m args below meth c D cA b q0 qm o o2 Inv t i cells slots Q) : W p l e room_1 s m args below meth c H locs cells slots Q (F0 m 804 ls []) := by
  obtain ⟨C, hl0, hX, hN, hscr, hbl⟩ := X
  obtain ⟨hi0, hi1, hi2, hi3, hi4, hi5⟩ := hi
  obtain ⟨hx, hb, hml, hown, hts, hK, hlk⟩ := id C
  have hbA : ¬ nA s b := Nat.not_le.mpr hbl
  have hn := hn6 _ _ _ _ _ hI
  obtain ⟨w, τ', h5, ⟨σ0', σ', hf, hI2, hthr⟩ | ⟨hf, hI2, hthr⟩ | ⟨hf, hI2, hthr⟩⟩ := S _ _ _ _ _ _ _ _ _ _ ht hI
  · refine lv_aload_n (pc := 804) hx hb dL_law_804 rfl (lv_at hl 1 rfl) ?_
    refine lv_aload_n (pc := 805) hx hb dL_law_805 rfl (lv_at hl 0 rfl) ?_
    refine lv_iload (pc := 806) hx hb dL_law_806 (lv_at hl 5 rfl) ?_
    refine lv_iconst (pc := 808) (v := 1) hx hb dL_law_808 (by decide) ?_
    refine lv_iadd (pc := 809) hx hb dL_law_809 ?_
    refine va_sld (pc := 810) hx hb hscr hbl hbA h.2.2.1 hi1 dL_law_810 ?_
    refine lv_aload_n (pc := 811) hx hb dL_law_811 rfl (lv_at hl 0 rfl) ?_
    refine lv_iload (pc := 812) hx hb dL_law_812 (lv_at hl 5 rfl) ?_
    refine lv_iconst (pc := 814) (v := 2) hx hb dL_law_814 (by decide) ?_
    refine lv_iadd (pc := 815) hx hb dL_law_815 ?_
    refine va_sld (pc := 816) hx hb hscr hbl hbA h.2.2.1 hi2 dL_law_816 ?_
    refine lv_aload_n (pc := 817) hx hb dL_law_817 rfl (lv_at hl 0 rfl) ?_
    refine lv_iload (pc := 818) hx hb dL_law_818 (lv_at hl 5 rfl) ?_
    refine lv_iconst (pc := 820) (v := 3) hx hb dL_law_820 (by decide) ?_
    refine lv_iadd (pc := 821) hx hb dL_law_821 ?_
    refine va_sld (pc := 822) hx hb hscr hbl hbA h.2.2.1 hi3 dL_law_822 ?_
    refine lv_aload_n (pc := 823) hx hb dL_law_823 rfl (lv_at hl 0 rfl) ?_
    refine lv_iload (pc := 824) hx hb dL_law_824 (lv_at hl 5 rfl) ?_
    refine lv_iconst (pc := 826) (v := 4) hx hb dL_law_826 (by decide) ?_
    refine lv_iadd (pc := 827) hx hb dL_law_827 ?_
    refine va_sld (pc := 828) hx hb hscr hbl hbA h.2.2.1 hi4 dL_law_828 ?_
    refine lv_aload_n (pc := 829) hx hb dL_law_829 rfl (lv_at hl 0 rfl) ?_
    refine lv_iload (pc := 830) hx hb dL_law_830 (lv_at hl 5 rfl) ?_
    refine lv_iconst (pc := 832) (v := 5) hx hb dL_law_832 (by decide) ?_
    refine lv_iadd (pc := 833) hx hb dL_law_833 ?_
    refine va_sld (pc := 834) hx hb hscr hbl hbA h.2.2.1 hi5 dL_law_834 ?_
    refine lv_aload_n (pc := 835) hx hb dL_law_835 rfl (lv_at hl 3 rfl) ?_
    refine call_W (pc := 836) (rest := []) (As := [.ref (q0 0), .int (xs (i + 1).toNatClampNeg), .int (xs (i + 2).toNatClampNeg), .int (xs (i + 3).toNatClampNeg), .int (xs (i + 4).toNatClampNeg), .int (xs (i + 5).toNatClampNeg), .ref o]) (ws' := wL n q0 q qm cA σ0' σ' τ o o2 (vp_updL f 0 w.toInt64) f2) C hl0 hX hN h (w_delegate hn σ0 σ (xs (i + 1).toNatClampNeg) (xs (i + 2).toNatClampNeg) (xs (i + 3).toNatClampNeg) (xs (i + 4).toNatClampNeg) (xs (i + 5).toNatClampNeg) hf o f) cx_L_162 (wL_L ..) (wL_L n q0 q qm cA σ0' σ' τ o o2 (vp_updL f 0 w.toInt64) f2).symm (xL_fst ..) rfl rfl hl.1 (Nat.le_of_ble_eq_true rfl) dL_law_836 ⟨(Nat.le_of_ble_eq_true rfl), (Nat.le_of_ble_eq_true rfl)⟩ rfl rfl ⟨by show cells + 1 ≤ 601024; omega, by show slots + 6 ≤ 7293034; omega⟩ (fun H locs h => ?_)
    refine W.eq (g2 := F0 m 839 ls [.int 0]) rfl ?_
    refine lv_istore (pc := 839) (lv' := [(6, .int 0), (0, .ref b), (1, .ref (q0 0)), (2, .ref (qm 0)), (3, .ref o), (4, .ref o2), (5, .int i)]) hx hb dL_law_839 hl (by decide) rfl (fun ls hl => ?_)
    refine lv_aload_n (pc := 841) hx hb dL_law_841 rfl (lv_at hl 3 rfl) ?_
    refine lv_aload_n (pc := 842) hx hb dL_law_842 rfl (lv_at hl 1 rfl) ?_
    refine lv_iload (pc := 843) hx hb dL_law_843 (lv_at hl 6 rfl) ?_
    refine lv_iconst (pc := 845) (v := 1) hx hb dL_law_845 (by decide) ?_
    refine lv_iadd (pc := 846) hx hb dL_law_846 ?_
    refine va_sld (pc := 847) hx hb hscr hbl hbA h.2.2.1 hi1 dL_law_847 ?_
    refine lv_aload_n (pc := 848) hx hb dL_law_848 rfl (lv_at hl 1 rfl) ?_
    refine lv_iload (pc := 849) hx hb dL_law_849 (lv_at hl 6 rfl) ?_
    refine lv_iconst (pc := 851) (v := 2) hx hb dL_law_851 (by decide) ?_
    refine lv_iadd (pc := 852) hx hb dL_law_852 ?_
    refine va_sld (pc := 853) hx hb hscr hbl hbA h.2.2.1 hi2 dL_law_853 ?_
    refine lv_aload_n (pc := 854) hx hb dL_law_854 rfl (lv_at hl 1 rfl) ?_
    refine lv_iload (pc := 855) hx hb dL_law_855 (lv_at hl 6 rfl) ?_
    refine lv_iconst (pc := 857) (v := 3) hx hb dL_law_857 (by decide) ?_
    refine lv_iadd (pc := 858) hx hb dL_law_858 ?_
    refine va_sld (pc := 859) hx hb hscr hbl hbA h.2.2.1 hi3 dL_law_859 ?_
    refine lv_aload_n (pc := 860) hx hb dL_law_860 rfl (lv_at hl 1 rfl) ?_
    refine lv_iload (pc := 861) hx hb dL_law_861 (lv_at hl 6 rfl) ?_
    refine lv_iconst (pc := 863) (v := 4) hx hb dL_law_863 (by decide) ?_
    refine lv_iadd (pc := 864) hx hb dL_law_864 ?_
    refine va_sld (pc := 865) hx hb hscr hbl hbA h.2.2.1 hi4 dL_law_865 ?_
    refine lv_aload_n (pc := 866) hx hb dL_law_866 rfl (lv_at hl 1 rfl) ?_
    refine lv_iload (pc := 867) hx hb dL_law_867 (lv_at hl 6 rfl) ?_
    refine lv_iconst (pc := 869) (v := 5) hx hb dL_law_869 (by decide) ?_
    refine lv_iadd (pc := 870) hx hb dL_law_870 ?_
    refine va_sld (pc := 871) hx hb hscr hbl hbA h.2.2.1 hi5 dL_law_871 ?_
    refine call_VUp (pc := 872) (rest := []) (As := [.int (xs (i + 1).toNatClampNeg), .int (xs (i + 2).toNatClampNeg), .int (xs (i + 3).toNatClampNeg), .int (xs (i + 4).toNatClampNeg), .int (xs (i + 5).toNatClampNeg)]) (wc' := mW qm cA τ') (ws' := wL n q0 q qm cA σ0' σ' τ' o o2 (vp_updL f 0 w.toInt64) f2) C h (k_X5_delegate (q := qm) τ (xs (i + 1).toNatClampNeg) (xs (i + 2).toNatClampNeg) (xs (i + 3).toNatClampNeg) (xs (i + 4).toNatClampNeg) (xs (i + 5).toNatClampNeg) h5) cm_L_165 (mW_c0 ..) rfl (wL_M ..) (wL_M n q0 q qm cA σ0' σ' τ' o o2 (vp_updL f 0 w.toInt64) f2).symm (mW_fst ..) rfl rfl hl.1 (Nat.le_of_ble_eq_true rfl) dL_law_872 ⟨(Nat.le_of_ble_eq_true rfl), (Nat.le_of_ble_eq_true rfl)⟩ rfl rfl ⟨by show _ ≤ 601024; omega, by show _ ≤ 7293034; omega⟩ (fun H locs h => ?_)
    refine W.eq (g2 := F0 m 875 ls [.int w]) rfl ?_
    refine lv_istore (pc := 875) (lv' := [(7, .int w), (6, .int 0), (0, .ref b), (1, .ref (q0 0)), (2, .ref (qm 0)), (3, .ref o), (4, .ref o2), (5, .int i)]) hx hb dL_law_875 hl (by decide) rfl (fun ls hl => ?_)
    refine lv_aload_n (pc := 877) hx hb dL_law_877 rfl (lv_at hl 4 rfl) ?_
    refine call_VRp (pc := 878) (rest := []) (As := []) C h (k_X5_thrown (q := qm) τ' rfl) cm_L_131 (mW_c0 ..) rfl (wL_M ..) rfl rfl hl.1 (Nat.le_of_ble_eq_true rfl) dL_law_878 ⟨(Nat.le_of_ble_eq_true rfl), (Nat.le_of_ble_eq_true rfl)⟩ rfl rfl ⟨by show _ ≤ 601024; omega, by show _ ≤ 7293034; omega⟩ (fun H locs h => ?_)
    refine W.eq (g2 := F0 m 881 ls [.int (τ' 24 0)]) rfl ?_
    refine lv_iload (pc := 881) hx hb dL_law_881 (lv_at hl 1 rfl) ?_
    refine lv_icmp_eq (pc := 883) (tgt := 888) hx hb dL_law_883 (by decide) (fun _ => ?_) (fun c9 => absurd hthr c9)
    refine lv_iload (pc := 888) hx hb dL_law_888 (lv_at hl 1 rfl) ?_
    refine lv_if_ne (pc := 890) (tgt := 905) hx hb dL_law_890 (by decide) (fun c9 => absurd rfl c9) (fun _ => ?_)
    refine lv_aload_n (pc := 893) hx hb dL_law_893 rfl (lv_at hl 5 rfl) ?_
    refine lv_iconst (pc := 894) (v := 0) hx hb dL_law_894 (by decide) ?_
    refine va_lald (pc := 895) hx hb hK.1 h.1 0 3 (wL_o ..) rfl (show inb (0 : Int32) 1 from by decide) dL_law_895 ?_
    refine W.eq (g2 := F0 m 896 ls [.long w.toInt64]) rfl ?_
    refine lv_iload (pc := 896) hx hb dL_law_896 (lv_at hl 0 rfl) ?_
    refine lv_i2l (pc := 898) (v := w.toInt64) hx hb dL_law_898 rfl ?_
    refine W.lcmp (pc := 899) hx hb dL_law_899 ?_
    rw [cmp_self]
    refine lv_if_eq (pc := 900) (tgt := 905) hx hb dL_law_900 (by decide) (fun _ => ?_) (fun c9 => absurd rfl c9)
    refine lv_goto (pc := 905) (tgt := 2364) hx hb dL_law_905 (by decide) ?_
    exact W.widen (by omega) (by omega) (kk _ _ _ _ _ _ _ _ _ hI2 h ls (lv_sub hl [2, 3, 4, 5, 6, 7] rfl))
  · refine lv_aload_n (pc := 804) hx hb dL_law_804 rfl (lv_at hl 1 rfl) ?_
    refine lv_aload_n (pc := 805) hx hb dL_law_805 rfl (lv_at hl 0 rfl) ?_
    refine lv_iload (pc := 806) hx hb dL_law_806 (lv_at hl 5 rfl) ?_
    refine lv_iconst (pc := 808) (v := 1) hx hb dL_law_808 (by decide) ?_
    refine lv_iadd (pc := 809) hx hb dL_law_809 ?_
    refine va_sld (pc := 810) hx hb hscr hbl hbA h.2.2.1 hi1 dL_law_810 ?_
    refine lv_aload_n (pc := 811) hx hb dL_law_811 rfl (lv_at hl 0 rfl) ?_
    refine lv_iload (pc := 812) hx hb dL_law_812 (lv_at hl 5 rfl) ?_
    refine lv_iconst (pc := 814) (v := 2) hx hb dL_law_814 (by decide) ?_
    refine lv_iadd (pc := 815) hx hb dL_law_815 ?_
    refine va_sld (pc := 816) hx hb hscr hbl hbA h.2.2.1 hi2 dL_law_816 ?_
    refine lv_aload_n (pc := 817) hx hb dL_law_817 rfl (lv_at hl 0 rfl) ?_
    refine lv_iload (pc := 818) hx hb dL_law_818 (lv_at hl 5 rfl) ?_
    refine lv_iconst (pc := 820) (v := 3) hx hb dL_law_820 (by decide) ?_
    refine lv_iadd (pc := 821) hx hb dL_law_821 ?_
    refine va_sld (pc := 822) hx hb hscr hbl hbA h.2.2.1 hi3 dL_law_822 ?_
    refine lv_aload_n (pc := 823) hx hb dL_law_823 rfl (lv_at hl 0 rfl) ?_
    refine lv_iload (pc := 824) hx hb dL_law_824 (lv_at hl 5 rfl) ?_
    refine lv_iconst (pc := 826) (v := 4) hx hb dL_law_826 (by decide) ?_
    refine lv_iadd (pc := 827) hx hb dL_law_827 ?_
    refine va_sld (pc := 828) hx hb hscr hbl hbA h.2.2.1 hi4 dL_law_828 ?_
    refine lv_aload_n (pc := 829) hx hb dL_law_829 rfl (lv_at hl 0 rfl) ?_
    refine lv_iload (pc := 830) hx hb dL_law_830 (lv_at hl 5 rfl) ?_
    refine lv_iconst (pc := 832) (v := 5) hx hb dL_law_832 (by decide) ?_
    refine lv_iadd (pc := 833) hx hb dL_law_833 ?_
    refine va_sld (pc := 834) hx hb hscr hbl hbA h.2.2.1 hi5 dL_law_834 ?_
    refine lv_aload_n (pc := 835) hx hb dL_law_835 rfl (lv_at hl 3 rfl) ?_
    refine call_W (pc := 836) (rest := []) (As := [.ref (q0 0), .int (xs (i + 1).toNatClampNeg), .int (xs (i + 2).toNatClampNeg), .int (xs (i + 3).toNatClampNeg), .int (xs (i + 4).toNatClampNeg), .int (xs (i + 5).toNatClampNeg), .ref o]) (ws' := wL n q0 q qm cA σ0 σ τ o o2 f f2) C hl0 hX hN h (wT_delegate_0 hn σ0 σ (xs (i + 1).toNatClampNeg) (xs (i + 2).toNatClampNeg) (xs (i + 3).toNatClampNeg) (xs (i + 4).toNatClampNeg) (xs (i + 5).toNatClampNeg) hf o f) cx_L_162 (wL_L ..) (wL_L n q0 q qm cA σ0 σ τ o o2 f f2).symm rfl rfl rfl hl.1 (Nat.le_of_ble_eq_true rfl) dL_law_836 ⟨(Nat.le_of_ble_eq_true rfl), (Nat.le_of_ble_eq_true rfl)⟩ rfl rfl ⟨by show cells + 1 ≤ 601024; omega, by show slots + 6 ≤ 7293034; omega⟩ (fun H locs h => ?_)
    refine W.eq (g2 := F0 m 839 ls [.int 1]) rfl ?_
    refine lv_istore (pc := 839) (lv' := [(6, .int 1), (0, .ref b), (1, .ref (q0 0)), (2, .ref (qm 0)), (3, .ref o), (4, .ref o2), (5, .int i)]) hx hb dL_law_839 hl (by decide) rfl (fun ls hl => ?_)
    refine lv_aload_n (pc := 841) hx hb dL_law_841 rfl (lv_at hl 3 rfl) ?_
    refine lv_aload_n (pc := 842) hx hb dL_law_842 rfl (lv_at hl 1 rfl) ?_
    refine lv_iload (pc := 843) hx hb dL_law_843 (lv_at hl 6 rfl) ?_
    refine lv_iconst (pc := 845) (v := 1) hx hb dL_law_845 (by decide) ?_
    refine lv_iadd (pc := 846) hx hb dL_law_846 ?_
    refine va_sld (pc := 847) hx hb hscr hbl hbA h.2.2.1 hi1 dL_law_847 ?_
    refine lv_aload_n (pc := 848) hx hb dL_law_848 rfl (lv_at hl 1 rfl) ?_
    refine lv_iload (pc := 849) hx hb dL_law_849 (lv_at hl 6 rfl) ?_
    refine lv_iconst (pc := 851) (v := 2) hx hb dL_law_851 (by decide) ?_
    refine lv_iadd (pc := 852) hx hb dL_law_852 ?_
    refine va_sld (pc := 853) hx hb hscr hbl hbA h.2.2.1 hi2 dL_law_853 ?_
    refine lv_aload_n (pc := 854) hx hb dL_law_854 rfl (lv_at hl 1 rfl) ?_
    refine lv_iload (pc := 855) hx hb dL_law_855 (lv_at hl 6 rfl) ?_
    refine lv_iconst (pc := 857) (v := 3) hx hb dL_law_857 (by decide) ?_
    refine lv_iadd (pc := 858) hx hb dL_law_858 ?_
    refine va_sld (pc := 859) hx hb hscr hbl hbA h.2.2.1 hi3 dL_law_859 ?_
    refine lv_aload_n (pc := 860) hx hb dL_law_860 rfl (lv_at hl 1 rfl) ?_
    refine lv_iload (pc := 861) hx hb dL_law_861 (lv_at hl 6 rfl) ?_
    refine lv_iconst (pc := 863) (v := 4) hx hb dL_law_863 (by decide) ?_
    refine lv_iadd (pc := 864) hx hb dL_law_864 ?_
    refine va_sld (pc := 865) hx hb hscr hbl hbA h.2.2.1 hi4 dL_law_865 ?_
    refine lv_aload_n (pc := 866) hx hb dL_law_866 rfl (lv_at hl 1 rfl) ?_
    refine lv_iload (pc := 867) hx hb dL_law_867 (lv_at hl 6 rfl) ?_
    refine lv_iconst (pc := 869) (v := 5) hx hb dL_law_869 (by decide) ?_
    refine lv_iadd (pc := 870) hx hb dL_law_870 ?_
    refine va_sld (pc := 871) hx hb hscr hbl hbA h.2.2.1 hi5 dL_law_871 ?_
    refine call_VUp (pc := 872) (rest := []) (As := [.int (xs (i + 1).toNatClampNeg), .int (xs (i + 2).toNatClampNeg), .int (xs (i + 3).toNatClampNeg), .int (xs (i + 4).toNatClampNeg), .int (xs (i + 5).toNatClampNeg)]) (wc' := mW qm cA τ') (ws' := wL n q0 q qm cA σ0 σ τ' o o2 f f2) C h (k_X5_delegate (q := qm) τ (xs (i + 1).toNatClampNeg) (xs (i + 2).toNatClampNeg) (xs (i + 3).toNatClampNeg) (xs (i + 4).toNatClampNeg) (xs (i + 5).toNatClampNeg) h5) cm_L_165 (mW_c0 ..) rfl (wL_M ..) (wL_M n q0 q qm cA σ0 σ τ' o o2 f f2).symm (mW_fst ..) rfl rfl hl.1 (Nat.le_of_ble_eq_true rfl) dL_law_872 ⟨(Nat.le_of_ble_eq_true rfl), (Nat.le_of_ble_eq_true rfl)⟩ rfl rfl ⟨by show _ ≤ 601024; omega, by show _ ≤ 7293034; omega⟩ (fun H locs h => ?_)
    refine W.eq (g2 := F0 m 875 ls [.int w]) rfl ?_
    refine lv_istore (pc := 875) (lv' := [(7, .int w), (6, .int 1), (0, .ref b), (1, .ref (q0 0)), (2, .ref (qm 0)), (3, .ref o), (4, .ref o2), (5, .int i)]) hx hb dL_law_875 hl (by decide) rfl (fun ls hl => ?_)
    refine lv_aload_n (pc := 877) hx hb dL_law_877 rfl (lv_at hl 4 rfl) ?_
    refine call_VRp (pc := 878) (rest := []) (As := []) C h (k_X5_thrown (q := qm) τ' rfl) cm_L_131 (mW_c0 ..) rfl (wL_M ..) rfl rfl hl.1 (Nat.le_of_ble_eq_true rfl) dL_law_878 ⟨(Nat.le_of_ble_eq_true rfl), (Nat.le_of_ble_eq_true rfl)⟩ rfl rfl ⟨by show _ ≤ 601024; omega, by show _ ≤ 7293034; omega⟩ (fun H locs h => ?_)
    refine W.eq (g2 := F0 m 881 ls [.int (τ' 24 0)]) rfl ?_
    refine lv_iload (pc := 881) hx hb dL_law_881 (lv_at hl 1 rfl) ?_
    refine lv_icmp_eq (pc := 883) (tgt := 888) hx hb dL_law_883 (by decide) (fun _ => ?_) (fun c9 => absurd hthr c9)
    refine lv_iload (pc := 888) hx hb dL_law_888 (lv_at hl 1 rfl) ?_
    refine lv_if_ne (pc := 890) (tgt := 905) hx hb dL_law_890 (by decide) (fun _ => ?_) (fun c9 => absurd c9 (by decide))
    refine lv_goto (pc := 905) (tgt := 2364) hx hb dL_law_905 (by decide) ?_
    exact W.widen (by omega) (by omega) (kk _ _ _ _ _ _ _ _ _ hI2 h ls (lv_sub hl [2, 3, 4, 5, 6, 7] rfl))
  · refine lv_aload_n (pc := 804) hx hb dL_law_804 rfl (lv_at hl 1 rfl) ?_
    refine lv_aload_n (pc := 805) hx hb dL_law_805 rfl (lv_at hl 0 rfl) ?_
    refine lv_iload (pc := 806) hx hb dL_law_806 (lv_at hl 5 rfl) ?_
    refine lv_iconst (pc := 808) (v := 1) hx hb dL_law_808 (by decide) ?_
    refine lv_iadd (pc := 809) hx hb dL_law_809 ?_
    refine va_sld (pc := 810) hx hb hscr hbl hbA h.2.2.1 hi1 dL_law_810 ?_
    refine lv_aload_n (pc := 811) hx hb dL_law_811 rfl (lv_at hl 0 rfl) ?_
    refine lv_iload (pc := 812) hx hb dL_law_812 (lv_at hl 5 rfl) ?_
    refine lv_iconst (pc := 814) (v := 2) hx hb dL_law_814 (by decide) ?_
    refine lv_iadd (pc := 815) hx hb dL_law_815 ?_
    refine va_sld (pc := 816) hx hb hscr hbl hbA h.2.2.1 hi2 dL_law_816 ?_
    refine lv_aload_n (pc := 817) hx hb dL_law_817 rfl (lv_at hl 0 rfl) ?_
    refine lv_iload (pc := 818) hx hb dL_law_818 (lv_at hl 5 rfl) ?_
    refine lv_iconst (pc := 820) (v := 3) hx hb dL_law_820 (by decide) ?_
    refine lv_iadd (pc := 821) hx hb dL_law_821 ?_
    refine va_sld (pc := 822) hx hb hscr hbl hbA h.2.2.1 hi3 dL_law_822 ?_
    refine lv_aload_n (pc := 823) hx hb dL_law_823 rfl (lv_at hl 0 rfl) ?_
    refine lv_iload (pc := 824) hx hb dL_law_824 (lv_at hl 5 rfl) ?_
    refine lv_iconst (pc := 826) (v := 4) hx hb dL_law_826 (by decide) ?_
    refine lv_iadd (pc := 827) hx hb dL_law_827 ?_
    refine va_sld (pc := 828) hx hb hscr hbl hbA h.2.2.1 hi4 dL_law_828 ?_
    refine lv_aload_n (pc := 829) hx hb dL_law_829 rfl (lv_at hl 0 rfl) ?_
    refine lv_iload (pc := 830) hx hb dL_law_830 (lv_at hl 5 rfl) ?_
    refine lv_iconst (pc := 832) (v := 5) hx hb dL_law_832 (by decide) ?_
    refine lv_iadd (pc := 833) hx hb dL_law_833 ?_
    refine va_sld (pc := 834) hx hb hscr hbl hbA h.2.2.1 hi5 dL_law_834 ?_
    refine lv_aload_n (pc := 835) hx hb dL_law_835 rfl (lv_at hl 3 rfl) ?_
    refine call_W (pc := 836) (rest := []) (As := [.ref (q0 0), .int (xs (i + 1).toNatClampNeg), .int (xs (i + 2).toNatClampNeg), .int (xs (i + 3).toNatClampNeg), .int (xs (i + 4).toNatClampNeg), .int (xs (i + 5).toNatClampNeg), .ref o]) (ws' := wL n q0 q qm cA σ0 σ τ o o2 f f2) C hl0 hX hN h (wT_delegate_1 hn σ0 σ (xs (i + 1).toNatClampNeg) (xs (i + 2).toNatClampNeg) (xs (i + 3).toNatClampNeg) (xs (i + 4).toNatClampNeg) (xs (i + 5).toNatClampNeg) hf o f) cx_L_162 (wL_L ..) (wL_L n q0 q qm cA σ0 σ τ o o2 f f2).symm rfl rfl rfl hl.1 (Nat.le_of_ble_eq_true rfl) dL_law_836 ⟨(Nat.le_of_ble_eq_true rfl), (Nat.le_of_ble_eq_true rfl)⟩ rfl rfl ⟨by show cells + 1 ≤ 601024; omega, by show slots + 6 ≤ 7293034; omega⟩ (fun H locs h => ?_)
    refine W.eq (g2 := F0 m 839 ls [.int 2]) rfl ?_
    refine lv_istore (pc := 839) (lv' := [(6, .int 2), (0, .ref b), (1, .ref (q0 0)), (2, .ref (qm 0)), (3, .ref o), (4, .ref o2), (5, .int i)]) hx hb dL_law_839 hl (by decide) rfl (fun ls hl => ?_)
    refine lv_aload_n (pc := 841) hx hb dL_law_841 rfl (lv_at hl 3 rfl) ?_
    refine lv_aload_n (pc := 842) hx hb dL_law_842 rfl (lv_at hl 1 rfl) ?_
    refine lv_iload (pc := 843) hx hb dL_law_843 (lv_at hl 6 rfl) ?_
    refine lv_iconst (pc := 845) (v := 1) hx hb dL_law_845 (by decide) ?_
    refine lv_iadd (pc := 846) hx hb dL_law_846 ?_
    refine va_sld (pc := 847) hx hb hscr hbl hbA h.2.2.1 hi1 dL_law_847 ?_
    refine lv_aload_n (pc := 848) hx hb dL_law_848 rfl (lv_at hl 1 rfl) ?_
    refine lv_iload (pc := 849) hx hb dL_law_849 (lv_at hl 6 rfl) ?_
    refine lv_iconst (pc := 851) (v := 2) hx hb dL_law_851 (by decide) ?_
    refine lv_iadd (pc := 852) hx hb dL_law_852 ?_
    refine va_sld (pc := 853) hx hb hscr hbl hbA h.2.2.1 hi2 dL_law_853 ?_
    refine lv_aload_n (pc := 854) hx hb dL_law_854 rfl (lv_at hl 1 rfl) ?_
    refine lv_iload (pc := 855) hx hb dL_law_855 (lv_at hl 6 rfl) ?_
    refine lv_iconst (pc := 857) (v := 3) hx hb dL_law_857 (by decide) ?_
    refine lv_iadd (pc := 858) hx hb dL_law_858 ?_
    refine va_sld (pc := 859) hx hb hscr hbl hbA h.2.2.1 hi3 dL_law_859 ?_
    refine lv_aload_n (pc := 860) hx hb dL_law_860 rfl (lv_at hl 1 rfl) ?_
    refine lv_iload (pc := 861) hx hb dL_law_861 (lv_at hl 6 rfl) ?_
    refine lv_iconst (pc := 863) (v := 4) hx hb dL_law_863 (by decide) ?_
    refine lv_iadd (pc := 864) hx hb dL_law_864 ?_
    refine va_sld (pc := 865) hx hb hscr hbl hbA h.2.2.1 hi4 dL_law_865 ?_
    refine lv_aload_n (pc := 866) hx hb dL_law_866 rfl (lv_at hl 1 rfl) ?_
    refine lv_iload (pc := 867) hx hb dL_law_867 (lv_at hl 6 rfl) ?_
    refine lv_iconst (pc := 869) (v := 5) hx hb dL_law_869 (by decide) ?_
    refine lv_iadd (pc := 870) hx hb dL_law_870 ?_
    refine va_sld (pc := 871) hx hb hscr hbl hbA h.2.2.1 hi5 dL_law_871 ?_
    refine call_VUp (pc := 872) (rest := []) (As := [.int (xs (i + 1).toNatClampNeg), .int (xs (i + 2).toNatClampNeg), .int (xs (i + 3).toNatClampNeg), .int (xs (i + 4).toNatClampNeg), .int (xs (i + 5).toNatClampNeg)]) (wc' := mW qm cA τ') (ws' := wL n q0 q qm cA σ0 σ τ' o o2 f f2) C h (k_X5_delegate (q := qm) τ (xs (i + 1).toNatClampNeg) (xs (i + 2).toNatClampNeg) (xs (i + 3).toNatClampNeg) (xs (i + 4).toNatClampNeg) (xs (i + 5).toNatClampNeg) h5) cm_L_165 (mW_c0 ..) rfl (wL_M ..) (wL_M n q0 q qm cA σ0 σ τ' o o2 f f2).symm (mW_fst ..) rfl rfl hl.1 (Nat.le_of_ble_eq_true rfl) dL_law_872 ⟨(Nat.le_of_ble_eq_true rfl), (Nat.le_of_ble_eq_true rfl)⟩ rfl rfl ⟨by show _ ≤ 601024; omega, by show _ ≤ 7293034; omega⟩ (fun H locs h => ?_)
    refine W.eq (g2 := F0 m 875 ls [.int w]) rfl ?_
    refine lv_istore (pc := 875) (lv' := [(7, .int w), (6, .int 2), (0, .ref b), (1, .ref (q0 0)), (2, .ref (qm 0)), (3, .ref o), (4, .ref o2), (5, .int i)]) hx hb dL_law_875 hl (by decide) rfl (fun ls hl => ?_)
    refine lv_aload_n (pc := 877) hx hb dL_law_877 rfl (lv_at hl 4 rfl) ?_
    refine call_VRp (pc := 878) (rest := []) (As := []) C h (k_X5_thrown (q := qm) τ' rfl) cm_L_131 (mW_c0 ..) rfl (wL_M ..) rfl rfl hl.1 (Nat.le_of_ble_eq_true rfl) dL_law_878 ⟨(Nat.le_of_ble_eq_true rfl), (Nat.le_of_ble_eq_true rfl)⟩ rfl rfl ⟨by show _ ≤ 601024; omega, by show _ ≤ 7293034; omega⟩ (fun H locs h => ?_)
    refine W.eq (g2 := F0 m 881 ls [.int (τ' 24 0)]) rfl ?_
    refine lv_iload (pc := 881) hx hb dL_law_881 (lv_at hl 1 rfl) ?_
    refine lv_icmp_eq (pc := 883) (tgt := 888) hx hb dL_law_883 (by decide) (fun _ => ?_) (fun c9 => absurd hthr c9)
    refine lv_iload (pc := 888) hx hb dL_law_888 (lv_at hl 1 rfl) ?_
    refine lv_if_ne (pc := 890) (tgt := 905) hx hb dL_law_890 (by decide) (fun _ => ?_) (fun c9 => absurd c9 (by decide))
    refine lv_goto (pc := 905) (tgt := 2364) hx hb dL_law_905 (by decide) ?_
    exact W.widen (by omega) (by omega) (kk _ _ _ _ _ _ _ _ _ hI2 h ls (lv_sub hl [2, 3, 4, 5, 6, 7] rfl))
set_option maxHeartbeats 1000000 in
set_option maxRecDepth 100000 in
theorem law_revoke {Inv : IT} (hn6 : ∀ t n σ0 σ τ, Inv t n σ0 σ τ → n ≤ 6) (S : SA_revoke Inv) {t n : Nat} {q0 : Nat → Nat} {q : Nat → Nat → Nat} {qm : Nat → Nat} {σ0 τ : Nat → Nat → Int32} {σ : Nat → Nat → Nat → Int32} {o o2 : Nat} {f : Nat → Int64} {f2 : Nat → UInt64} {i : Int32} (ht : t < 512) (hI : Inv t n σ0 σ τ)
    (X : LX p l s m args meth c D cA b L xs) (h : St D (nA s) s.heap (wL n q0 q qm cA σ0 σ τ o o2 f f2) H locs) (hi : HI i L) (hl : lv_has ls 8 (L0 b (q0 0) (qm 0) o o2 i)) (hc : cells + 20 ≤ 601024) (hs : slots + 263 ≤ 7293034)
    (kk : LK p l e s m args below meth c D cA b q0 qm o o2 Inv t i cells slots Q) : W p l e room_1 s m args below meth c H locs cells slots Q (F0 m 908 ls []) := by
  obtain ⟨C, hl0, hX, hN, hscr, hbl⟩ := X
  obtain ⟨hi0, hi1, hi2, hi3, hi4, hi5⟩ := hi
  obtain ⟨hx, hb, hml, hown, hts, hK, hlk⟩ := id C
  have hbA : ¬ nA s b := Nat.not_le.mpr hbl
  have hn := hn6 _ _ _ _ _ hI
  obtain ⟨w, τ', h5, ⟨σ0', σ', hf, hI2, hthr⟩ | ⟨hf, hI2, hthr⟩ | ⟨hf, hI2, hthr⟩⟩ := S _ _ _ _ _ _ ht hI
  · refine lv_aload_n (pc := 908) hx hb dL_law_908 rfl (lv_at hl 1 rfl) ?_
    refine lv_aload_n (pc := 909) hx hb dL_law_909 rfl (lv_at hl 0 rfl) ?_
    refine lv_iload (pc := 910) hx hb dL_law_910 (lv_at hl 5 rfl) ?_
    refine lv_iconst (pc := 912) (v := 1) hx hb dL_law_912 (by decide) ?_
    refine lv_iadd (pc := 913) hx hb dL_law_913 ?_
    refine va_sld (pc := 914) hx hb hscr hbl hbA h.2.2.1 hi1 dL_law_914 ?_
    refine lv_aload_n (pc := 915) hx hb dL_law_915 rfl (lv_at hl 3 rfl) ?_
    refine call_W (pc := 916) (rest := []) (As := [.ref (q0 0), .int (xs (i + 1).toNatClampNeg), .ref o]) (ws' := wL n q0 q qm cA σ0' σ' τ o o2 (vp_updL f 0 w.toInt64) f2) C hl0 hX hN h (w_revoke hn σ0 σ (xs (i + 1).toNatClampNeg) hf o f) cx_L_166 (wL_L ..) (wL_L n q0 q qm cA σ0' σ' τ o o2 (vp_updL f 0 w.toInt64) f2).symm (xL_fst ..) rfl rfl hl.1 (Nat.le_of_ble_eq_true rfl) dL_law_916 ⟨(Nat.le_of_ble_eq_true rfl), (Nat.le_of_ble_eq_true rfl)⟩ rfl rfl ⟨by show cells + 1 ≤ 601024; omega, by show slots + 6 ≤ 7293034; omega⟩ (fun H locs h => ?_)
    refine W.eq (g2 := F0 m 919 ls [.int 0]) rfl ?_
    refine lv_istore (pc := 919) (lv' := [(6, .int 0), (0, .ref b), (1, .ref (q0 0)), (2, .ref (qm 0)), (3, .ref o), (4, .ref o2), (5, .int i)]) hx hb dL_law_919 hl (by decide) rfl (fun ls hl => ?_)
    refine lv_aload_n (pc := 921) hx hb dL_law_921 rfl (lv_at hl 3 rfl) ?_
    refine lv_aload_n (pc := 922) hx hb dL_law_922 rfl (lv_at hl 1 rfl) ?_
    refine lv_iload (pc := 923) hx hb dL_law_923 (lv_at hl 6 rfl) ?_
    refine lv_iconst (pc := 925) (v := 1) hx hb dL_law_925 (by decide) ?_
    refine lv_iadd (pc := 926) hx hb dL_law_926 ?_
    refine va_sld (pc := 927) hx hb hscr hbl hbA h.2.2.1 hi1 dL_law_927 ?_
    refine call_VUp (pc := 928) (rest := []) (As := [.int (xs (i + 1).toNatClampNeg)]) (wc' := mW qm cA τ') (ws' := wL n q0 q qm cA σ0' σ' τ' o o2 (vp_updL f 0 w.toInt64) f2) C h (k_X5_revoke (q := qm) τ (xs (i + 1).toNatClampNeg) h5) cm_L_168 (mW_c0 ..) rfl (wL_M ..) (wL_M n q0 q qm cA σ0' σ' τ' o o2 (vp_updL f 0 w.toInt64) f2).symm (mW_fst ..) rfl rfl hl.1 (Nat.le_of_ble_eq_true rfl) dL_law_928 ⟨(Nat.le_of_ble_eq_true rfl), (Nat.le_of_ble_eq_true rfl)⟩ rfl rfl ⟨by show _ ≤ 601024; omega, by show _ ≤ 7293034; omega⟩ (fun H locs h => ?_)
    refine W.eq (g2 := F0 m 931 ls [.int w]) rfl ?_
    refine lv_istore (pc := 931) (lv' := [(7, .int w), (6, .int 0), (0, .ref b), (1, .ref (q0 0)), (2, .ref (qm 0)), (3, .ref o), (4, .ref o2), (5, .int i)]) hx hb dL_law_931 hl (by decide) rfl (fun ls hl => ?_)
    refine lv_aload_n (pc := 933) hx hb dL_law_933 rfl (lv_at hl 4 rfl) ?_
    refine call_VRp (pc := 934) (rest := []) (As := []) C h (k_X5_thrown (q := qm) τ' rfl) cm_L_131 (mW_c0 ..) rfl (wL_M ..) rfl rfl hl.1 (Nat.le_of_ble_eq_true rfl) dL_law_934 ⟨(Nat.le_of_ble_eq_true rfl), (Nat.le_of_ble_eq_true rfl)⟩ rfl rfl ⟨by show _ ≤ 601024; omega, by show _ ≤ 7293034; omega⟩ (fun H locs h => ?_)
    refine W.eq (g2 := F0 m 937 ls [.int (τ' 24 0)]) rfl ?_
    refine lv_iload (pc := 937) hx hb dL_law_937 (lv_at hl 1 rfl) ?_
    refine lv_icmp_eq (pc := 939) (tgt := 944) hx hb dL_law_939 (by decide) (fun _ => ?_) (fun c9 => absurd hthr c9)
    refine lv_iload (pc := 944) hx hb dL_law_944 (lv_at hl 1 rfl) ?_
    refine lv_if_ne (pc := 946) (tgt := 961) hx hb dL_law_946 (by decide) (fun c9 => absurd rfl c9) (fun _ => ?_)
    refine lv_aload_n (pc := 949) hx hb dL_law_949 rfl (lv_at hl 5 rfl) ?_
    refine lv_iconst (pc := 950) (v := 0) hx hb dL_law_950 (by decide) ?_
    refine va_lald (pc := 951) hx hb hK.1 h.1 0 3 (wL_o ..) rfl (show inb (0 : Int32) 1 from by decide) dL_law_951 ?_
    refine W.eq (g2 := F0 m 952 ls [.long w.toInt64]) rfl ?_
    refine lv_iload (pc := 952) hx hb dL_law_952 (lv_at hl 0 rfl) ?_
    refine lv_i2l (pc := 954) (v := w.toInt64) hx hb dL_law_954 rfl ?_
    refine W.lcmp (pc := 955) hx hb dL_law_955 ?_
    rw [cmp_self]
    refine lv_if_eq (pc := 956) (tgt := 961) hx hb dL_law_956 (by decide) (fun _ => ?_) (fun c9 => absurd rfl c9)
    refine lv_goto (pc := 961) (tgt := 2364) hx hb dL_law_961 (by decide) ?_
    exact W.widen (by omega) (by omega) (kk _ _ _ _ _ _ _ _ _ hI2 h ls (lv_sub hl [2, 3, 4, 5, 6, 7] rfl))
  · refine lv_aload_n (pc := 908) hx hb dL_law_908 rfl (lv_at hl 1 rfl) ?_
    refine lv_aload_n (pc := 909) hx hb dL_law_909 rfl (lv_at hl 0 rfl) ?_
    refine lv_iload (pc := 910) hx hb dL_law_910 (lv_at hl 5 rfl) ?_
    refine lv_iconst (pc := 912) (v := 1) hx hb dL_law_912 (by decide) ?_
    refine lv_iadd (pc := 913) hx hb dL_law_913 ?_
    refine va_sld (pc := 914) hx hb hscr hbl hbA h.2.2.1 hi1 dL_law_914 ?_
    refine lv_aload_n (pc := 915) hx hb dL_law_915 rfl (lv_at hl 3 rfl) ?_
    refine call_W (pc := 916) (rest := []) (As := [.ref (q0 0), .int (xs (i + 1).toNatClampNeg), .ref o]) (ws' := wL n q0 q qm cA σ0 σ τ o o2 f f2) C hl0 hX hN h (wT_revoke_0 hn σ0 σ (xs (i + 1).toNatClampNeg) hf o f) cx_L_166 (wL_L ..) (wL_L n q0 q qm cA σ0 σ τ o o2 f f2).symm rfl rfl rfl hl.1 (Nat.le_of_ble_eq_true rfl) dL_law_916 ⟨(Nat.le_of_ble_eq_true rfl), (Nat.le_of_ble_eq_true rfl)⟩ rfl rfl ⟨by show cells + 1 ≤ 601024; omega, by show slots + 6 ≤ 7293034; omega⟩ (fun H locs h => ?_)
    refine W.eq (g2 := F0 m 919 ls [.int 1]) rfl ?_
    refine lv_istore (pc := 919) (lv' := [(6, .int 1), (0, .ref b), (1, .ref (q0 0)), (2, .ref (qm 0)), (3, .ref o), (4, .ref o2), (5, .int i)]) hx hb dL_law_919 hl (by decide) rfl (fun ls hl => ?_)
    refine lv_aload_n (pc := 921) hx hb dL_law_921 rfl (lv_at hl 3 rfl) ?_
    refine lv_aload_n (pc := 922) hx hb dL_law_922 rfl (lv_at hl 1 rfl) ?_
    refine lv_iload (pc := 923) hx hb dL_law_923 (lv_at hl 6 rfl) ?_
    refine lv_iconst (pc := 925) (v := 1) hx hb dL_law_925 (by decide) ?_
    refine lv_iadd (pc := 926) hx hb dL_law_926 ?_
    refine va_sld (pc := 927) hx hb hscr hbl hbA h.2.2.1 hi1 dL_law_927 ?_
    refine call_VUp (pc := 928) (rest := []) (As := [.int (xs (i + 1).toNatClampNeg)]) (wc' := mW qm cA τ') (ws' := wL n q0 q qm cA σ0 σ τ' o o2 f f2) C h (k_X5_revoke (q := qm) τ (xs (i + 1).toNatClampNeg) h5) cm_L_168 (mW_c0 ..) rfl (wL_M ..) (wL_M n q0 q qm cA σ0 σ τ' o o2 f f2).symm (mW_fst ..) rfl rfl hl.1 (Nat.le_of_ble_eq_true rfl) dL_law_928 ⟨(Nat.le_of_ble_eq_true rfl), (Nat.le_of_ble_eq_true rfl)⟩ rfl rfl ⟨by show _ ≤ 601024; omega, by show _ ≤ 7293034; omega⟩ (fun H locs h => ?_)
    refine W.eq (g2 := F0 m 931 ls [.int w]) rfl ?_
    refine lv_istore (pc := 931) (lv' := [(7, .int w), (6, .int 1), (0, .ref b), (1, .ref (q0 0)), (2, .ref (qm 0)), (3, .ref o), (4, .ref o2), (5, .int i)]) hx hb dL_law_931 hl (by decide) rfl (fun ls hl => ?_)
    refine lv_aload_n (pc := 933) hx hb dL_law_933 rfl (lv_at hl 4 rfl) ?_
    refine call_VRp (pc := 934) (rest := []) (As := []) C h (k_X5_thrown (q := qm) τ' rfl) cm_L_131 (mW_c0 ..) rfl (wL_M ..) rfl rfl hl.1 (Nat.le_of_ble_eq_true rfl) dL_law_934 ⟨(Nat.le_of_ble_eq_true rfl), (Nat.le_of_ble_eq_true rfl)⟩ rfl rfl ⟨by show _ ≤ 601024; omega, by show _ ≤ 7293034; omega⟩ (fun H locs h => ?_)
    refine W.eq (g2 := F0 m 937 ls [.int (τ' 24 0)]) rfl ?_
    refine lv_iload (pc := 937) hx hb dL_law_937 (lv_at hl 1 rfl) ?_
    refine lv_icmp_eq (pc := 939) (tgt := 944) hx hb dL_law_939 (by decide) (fun _ => ?_) (fun c9 => absurd hthr c9)
    refine lv_iload (pc := 944) hx hb dL_law_944 (lv_at hl 1 rfl) ?_
    refine lv_if_ne (pc := 946) (tgt := 961) hx hb dL_law_946 (by decide) (fun _ => ?_) (fun c9 => absurd c9 (by decide))
    refine lv_goto (pc := 961) (tgt := 2364) hx hb dL_law_961 (by decide) ?_
    exact W.widen (by omega) (by omega) (kk _ _ _ _ _ _ _ _ _ hI2 h ls (lv_sub hl [2, 3, 4, 5, 6, 7] rfl))
  · refine lv_aload_n (pc := 908) hx hb dL_law_908 rfl (lv_at hl 1 rfl) ?_
    refine lv_aload_n (pc := 909) hx hb dL_law_909 rfl (lv_at hl 0 rfl) ?_
    refine lv_iload (pc := 910) hx hb dL_law_910 (lv_at hl 5 rfl) ?_
    refine lv_iconst (pc := 912) (v := 1) hx hb dL_law_912 (by decide) ?_
    refine lv_iadd (pc := 913) hx hb dL_law_913 ?_
    refine va_sld (pc := 914) hx hb hscr hbl hbA h.2.2.1 hi1 dL_law_914 ?_
    refine lv_aload_n (pc := 915) hx hb dL_law_915 rfl (lv_at hl 3 rfl) ?_
    refine call_W (pc := 916) (rest := []) (As := [.ref (q0 0), .int (xs (i + 1).toNatClampNeg), .ref o]) (ws' := wL n q0 q qm cA σ0 σ τ o o2 f f2) C hl0 hX hN h (wT_revoke_1 hn σ0 σ (xs (i + 1).toNatClampNeg) hf o f) cx_L_166 (wL_L ..) (wL_L n q0 q qm cA σ0 σ τ o o2 f f2).symm rfl rfl rfl hl.1 (Nat.le_of_ble_eq_true rfl) dL_law_916 ⟨(Nat.le_of_ble_eq_true rfl), (Nat.le_of_ble_eq_true rfl)⟩ rfl rfl ⟨by show cells + 1 ≤ 601024; omega, by show slots + 6 ≤ 7293034; omega⟩ (fun H locs h => ?_)
    refine W.eq (g2 := F0 m 919 ls [.int 2]) rfl ?_
    refine lv_istore (pc := 919) (lv' := [(6, .int 2), (0, .ref b), (1, .ref (q0 0)), (2, .ref (qm 0)), (3, .ref o), (4, .ref o2), (5, .int i)]) hx hb dL_law_919 hl (by decide) rfl (fun ls hl => ?_)
    refine lv_aload_n (pc := 921) hx hb dL_law_921 rfl (lv_at hl 3 rfl) ?_
    refine lv_aload_n (pc := 922) hx hb dL_law_922 rfl (lv_at hl 1 rfl) ?_
    refine lv_iload (pc := 923) hx hb dL_law_923 (lv_at hl 6 rfl) ?_
    refine lv_iconst (pc := 925) (v := 1) hx hb dL_law_925 (by decide) ?_
    refine lv_iadd (pc := 926) hx hb dL_law_926 ?_
    refine va_sld (pc := 927) hx hb hscr hbl hbA h.2.2.1 hi1 dL_law_927 ?_
    refine call_VUp (pc := 928) (rest := []) (As := [.int (xs (i + 1).toNatClampNeg)]) (wc' := mW qm cA τ') (ws' := wL n q0 q qm cA σ0 σ τ' o o2 f f2) C h (k_X5_revoke (q := qm) τ (xs (i + 1).toNatClampNeg) h5) cm_L_168 (mW_c0 ..) rfl (wL_M ..) (wL_M n q0 q qm cA σ0 σ τ' o o2 f f2).symm (mW_fst ..) rfl rfl hl.1 (Nat.le_of_ble_eq_true rfl) dL_law_928 ⟨(Nat.le_of_ble_eq_true rfl), (Nat.le_of_ble_eq_true rfl)⟩ rfl rfl ⟨by show _ ≤ 601024; omega, by show _ ≤ 7293034; omega⟩ (fun H locs h => ?_)
    refine W.eq (g2 := F0 m 931 ls [.int w]) rfl ?_
    refine lv_istore (pc := 931) (lv' := [(7, .int w), (6, .int 2), (0, .ref b), (1, .ref (q0 0)), (2, .ref (qm 0)), (3, .ref o), (4, .ref o2), (5, .int i)]) hx hb dL_law_931 hl (by decide) rfl (fun ls hl => ?_)
    refine lv_aload_n (pc := 933) hx hb dL_law_933 rfl (lv_at hl 4 rfl) ?_
    refine call_VRp (pc := 934) (rest := []) (As := []) C h (k_X5_thrown (q := qm) τ' rfl) cm_L_131 (mW_c0 ..) rfl (wL_M ..) rfl rfl hl.1 (Nat.le_of_ble_eq_true rfl) dL_law_934 ⟨(Nat.le_of_ble_eq_true rfl), (Nat.le_of_ble_eq_true rfl)⟩ rfl rfl ⟨by show _ ≤ 601024; omega, by show _ ≤ 7293034; omega⟩ (fun H locs h => ?_)
    refine W.eq (g2 := F0 m 937 ls [.int (τ' 24 0)]) rfl ?_
    refine lv_iload (pc := 937) hx hb dL_law_937 (lv_at hl 1 rfl) ?_
    refine lv_icmp_eq (pc := 939) (tgt := 944) hx hb dL_law_939 (by decide) (fun _ => ?_) (fun c9 => absurd hthr c9)
    refine lv_iload (pc := 944) hx hb dL_law_944 (lv_at hl 1 rfl) ?_
    refine lv_if_ne (pc := 946) (tgt := 961) hx hb dL_law_946 (by decide) (fun _ => ?_) (fun c9 => absurd c9 (by decide))
    refine lv_goto (pc := 961) (tgt := 2364) hx hb dL_law_961 (by decide) ?_
    exact W.widen (by omega) (by omega) (kk _ _ _ _ _ _ _ _ _ hI2 h ls (lv_sub hl [2, 3, 4, 5, 6, 7] rfl))
set_option maxHeartbeats 1000000 in
set_option maxRecDepth 100000 in
theorem law_delegateToday {Inv : IT} (hn6 : ∀ t n σ0 σ τ, Inv t n σ0 σ τ → n ≤ 6) (S : SA_delegateToday Inv) {t n : Nat} {q0 : Nat → Nat} {q : Nat → Nat → Nat} {qm : Nat → Nat} {σ0 τ : Nat → Nat → Int32} {σ : Nat → Nat → Nat → Int32} {o o2 : Nat} {f : Nat → Int64} {f2 : Nat → UInt64} {i : Int32} (ht : t < 512) (hI : Inv t n σ0 σ τ)
    (X : LX p l s m args meth c D cA b L xs) (h : St D (nA s) s.heap (wL n q0 q qm cA σ0 σ τ o o2 f f2) H locs) (hi : HI i L) (hl : lv_has ls 8 (L0 b (q0 0) (qm 0) o o2 i)) (hc : cells + 20 ≤ 601024) (hs : slots + 263 ≤ 7293034)
    (kk : LK p l e s m args below meth c D cA b q0 qm o o2 Inv t i cells slots Q) : W p l e room_1 s m args below meth c H locs cells slots Q (F0 m 964 ls []) := by
  obtain ⟨C, hl0, hX, hN, hscr, hbl⟩ := X
  obtain ⟨hi0, hi1, hi2, hi3, hi4, hi5⟩ := hi
  obtain ⟨hx, hb, hml, hown, hts, hK, hlk⟩ := id C
  have hbA : ¬ nA s b := Nat.not_le.mpr hbl
  have hn := hn6 _ _ _ _ _ hI
  obtain ⟨w, τ', h5, ⟨hf, hI2, hthr⟩ | ⟨hf, hI2, hthr⟩⟩ := S _ _ _ _ _ _ ht hI
  · refine lv_aload_n (pc := 964) hx hb dL_law_964 rfl (lv_at hl 1 rfl) ?_
    refine lv_aload_n (pc := 965) hx hb dL_law_965 rfl (lv_at hl 0 rfl) ?_
    refine lv_iload (pc := 966) hx hb dL_law_966 (lv_at hl 5 rfl) ?_
    refine lv_iconst (pc := 968) (v := 1) hx hb dL_law_968 (by decide) ?_
    refine lv_iadd (pc := 969) hx hb dL_law_969 ?_
    refine va_sld (pc := 970) hx hb hscr hbl hbA h.2.2.1 hi1 dL_law_970 ?_
    refine lv_aload_n (pc := 971) hx hb dL_law_971 rfl (lv_at hl 3 rfl) ?_
    refine call_W (pc := 972) (rest := []) (As := [.ref (q0 0), .int (xs (i + 1).toNatClampNeg), .ref o]) (ws' := wL n q0 q qm cA σ0 σ τ o o2 (vp_updL f 0 w.toInt64) f2) C hl0 hX hN h (w_delegateToday hn σ0 σ (xs (i + 1).toNatClampNeg) hf o f) cx_L_169 (wL_L ..) (wL_L n q0 q qm cA σ0 σ τ o o2 (vp_updL f 0 w.toInt64) f2).symm (xL_fst ..) rfl rfl hl.1 (Nat.le_of_ble_eq_true rfl) dL_law_972 ⟨(Nat.le_of_ble_eq_true rfl), (Nat.le_of_ble_eq_true rfl)⟩ rfl rfl ⟨by show cells + 1 ≤ 601024; omega, by show slots + 6 ≤ 7293034; omega⟩ (fun H locs h => ?_)
    refine W.eq (g2 := F0 m 975 ls [.int 0]) rfl ?_
    refine lv_istore (pc := 975) (lv' := [(6, .int 0), (0, .ref b), (1, .ref (q0 0)), (2, .ref (qm 0)), (3, .ref o), (4, .ref o2), (5, .int i)]) hx hb dL_law_975 hl (by decide) rfl (fun ls hl => ?_)
    refine lv_aload_n (pc := 977) hx hb dL_law_977 rfl (lv_at hl 3 rfl) ?_
    refine lv_aload_n (pc := 978) hx hb dL_law_978 rfl (lv_at hl 1 rfl) ?_
    refine lv_iload (pc := 979) hx hb dL_law_979 (lv_at hl 6 rfl) ?_
    refine lv_iconst (pc := 981) (v := 1) hx hb dL_law_981 (by decide) ?_
    refine lv_iadd (pc := 982) hx hb dL_law_982 ?_
    refine va_sld (pc := 983) hx hb hscr hbl hbA h.2.2.1 hi1 dL_law_983 ?_
    refine call_VUp (pc := 984) (rest := []) (As := [.int (xs (i + 1).toNatClampNeg)]) (wc' := mW qm cA τ') (ws' := wL n q0 q qm cA σ0 σ τ' o o2 (vp_updL f 0 w.toInt64) f2) C h (k_X5_delegateToday (q := qm) τ (xs (i + 1).toNatClampNeg) h5) cm_L_171 (mW_c0 ..) rfl (wL_M ..) (wL_M n q0 q qm cA σ0 σ τ' o o2 (vp_updL f 0 w.toInt64) f2).symm (mW_fst ..) rfl rfl hl.1 (Nat.le_of_ble_eq_true rfl) dL_law_984 ⟨(Nat.le_of_ble_eq_true rfl), (Nat.le_of_ble_eq_true rfl)⟩ rfl rfl ⟨by show _ ≤ 601024; omega, by show _ ≤ 7293034; omega⟩ (fun H locs h => ?_)
    refine W.eq (g2 := F0 m 987 ls [.int w]) rfl ?_
    refine lv_istore (pc := 987) (lv' := [(7, .int w), (6, .int 0), (0, .ref b), (1, .ref (q0 0)), (2, .ref (qm 0)), (3, .ref o), (4, .ref o2), (5, .int i)]) hx hb dL_law_987 hl (by decide) rfl (fun ls hl => ?_)
    refine lv_aload_n (pc := 989) hx hb dL_law_989 rfl (lv_at hl 4 rfl) ?_
    refine call_VRp (pc := 990) (rest := []) (As := []) C h (k_X5_thrown (q := qm) τ' rfl) cm_L_131 (mW_c0 ..) rfl (wL_M ..) rfl rfl hl.1 (Nat.le_of_ble_eq_true rfl) dL_law_990 ⟨(Nat.le_of_ble_eq_true rfl), (Nat.le_of_ble_eq_true rfl)⟩ rfl rfl ⟨by show _ ≤ 601024; omega, by show _ ≤ 7293034; omega⟩ (fun H locs h => ?_)
    refine W.eq (g2 := F0 m 993 ls [.int (τ' 24 0)]) rfl ?_
    refine lv_iload (pc := 993) hx hb dL_law_993 (lv_at hl 1 rfl) ?_
    refine lv_icmp_eq (pc := 995) (tgt := 1000) hx hb dL_law_995 (by decide) (fun _ => ?_) (fun c9 => absurd hthr c9)
    refine lv_iload (pc := 1000) hx hb dL_law_1000 (lv_at hl 1 rfl) ?_
    refine lv_if_ne (pc := 1002) (tgt := 1017) hx hb dL_law_1002 (by decide) (fun c9 => absurd rfl c9) (fun _ => ?_)
    refine lv_aload_n (pc := 1005) hx hb dL_law_1005 rfl (lv_at hl 5 rfl) ?_
    refine lv_iconst (pc := 1006) (v := 0) hx hb dL_law_1006 (by decide) ?_
    refine va_lald (pc := 1007) hx hb hK.1 h.1 0 3 (wL_o ..) rfl (show inb (0 : Int32) 1 from by decide) dL_law_1007 ?_
    refine W.eq (g2 := F0 m 1008 ls [.long w.toInt64]) rfl ?_
    refine lv_iload (pc := 1008) hx hb dL_law_1008 (lv_at hl 0 rfl) ?_
    refine lv_i2l (pc := 1010) (v := w.toInt64) hx hb dL_law_1010 rfl ?_
    refine W.lcmp (pc := 1011) hx hb dL_law_1011 ?_
    rw [cmp_self]
    refine lv_if_eq (pc := 1012) (tgt := 1017) hx hb dL_law_1012 (by decide) (fun _ => ?_) (fun c9 => absurd rfl c9)
    refine lv_goto (pc := 1017) (tgt := 2364) hx hb dL_law_1017 (by decide) ?_
    exact W.widen (by omega) (by omega) (kk _ _ _ _ _ _ _ _ _ hI2 h ls (lv_sub hl [2, 3, 4, 5, 6, 7] rfl))
  · refine lv_aload_n (pc := 964) hx hb dL_law_964 rfl (lv_at hl 1 rfl) ?_
    refine lv_aload_n (pc := 965) hx hb dL_law_965 rfl (lv_at hl 0 rfl) ?_
    refine lv_iload (pc := 966) hx hb dL_law_966 (lv_at hl 5 rfl) ?_
    refine lv_iconst (pc := 968) (v := 1) hx hb dL_law_968 (by decide) ?_
    refine lv_iadd (pc := 969) hx hb dL_law_969 ?_
    refine va_sld (pc := 970) hx hb hscr hbl hbA h.2.2.1 hi1 dL_law_970 ?_
    refine lv_aload_n (pc := 971) hx hb dL_law_971 rfl (lv_at hl 3 rfl) ?_
    refine call_W (pc := 972) (rest := []) (As := [.ref (q0 0), .int (xs (i + 1).toNatClampNeg), .ref o]) (ws' := wL n q0 q qm cA σ0 σ τ o o2 f f2) C hl0 hX hN h (wT_delegateToday_0 hn σ0 σ (xs (i + 1).toNatClampNeg) hf o f) cx_L_169 (wL_L ..) (wL_L n q0 q qm cA σ0 σ τ o o2 f f2).symm rfl rfl rfl hl.1 (Nat.le_of_ble_eq_true rfl) dL_law_972 ⟨(Nat.le_of_ble_eq_true rfl), (Nat.le_of_ble_eq_true rfl)⟩ rfl rfl ⟨by show cells + 1 ≤ 601024; omega, by show slots + 6 ≤ 7293034; omega⟩ (fun H locs h => ?_)
    refine W.eq (g2 := F0 m 975 ls [.int 1]) rfl ?_
    refine lv_istore (pc := 975) (lv' := [(6, .int 1), (0, .ref b), (1, .ref (q0 0)), (2, .ref (qm 0)), (3, .ref o), (4, .ref o2), (5, .int i)]) hx hb dL_law_975 hl (by decide) rfl (fun ls hl => ?_)
    refine lv_aload_n (pc := 977) hx hb dL_law_977 rfl (lv_at hl 3 rfl) ?_
    refine lv_aload_n (pc := 978) hx hb dL_law_978 rfl (lv_at hl 1 rfl) ?_
    refine lv_iload (pc := 979) hx hb dL_law_979 (lv_at hl 6 rfl) ?_
    refine lv_iconst (pc := 981) (v := 1) hx hb dL_law_981 (by decide) ?_
    refine lv_iadd (pc := 982) hx hb dL_law_982 ?_
    refine va_sld (pc := 983) hx hb hscr hbl hbA h.2.2.1 hi1 dL_law_983 ?_
    refine call_VUp (pc := 984) (rest := []) (As := [.int (xs (i + 1).toNatClampNeg)]) (wc' := mW qm cA τ') (ws' := wL n q0 q qm cA σ0 σ τ' o o2 f f2) C h (k_X5_delegateToday (q := qm) τ (xs (i + 1).toNatClampNeg) h5) cm_L_171 (mW_c0 ..) rfl (wL_M ..) (wL_M n q0 q qm cA σ0 σ τ' o o2 f f2).symm (mW_fst ..) rfl rfl hl.1 (Nat.le_of_ble_eq_true rfl) dL_law_984 ⟨(Nat.le_of_ble_eq_true rfl), (Nat.le_of_ble_eq_true rfl)⟩ rfl rfl ⟨by show _ ≤ 601024; omega, by show _ ≤ 7293034; omega⟩ (fun H locs h => ?_)
    refine W.eq (g2 := F0 m 987 ls [.int w]) rfl ?_
    refine lv_istore (pc := 987) (lv' := [(7, .int w), (6, .int 1), (0, .ref b), (1, .ref (q0 0)), (2, .ref (qm 0)), (3, .ref o), (4, .ref o2), (5, .int i)]) hx hb dL_law_987 hl (by decide) rfl (fun ls hl => ?_)
    refine lv_aload_n (pc := 989) hx hb dL_law_989 rfl (lv_at hl 4 rfl) ?_
    refine call_VRp (pc := 990) (rest := []) (As := []) C h (k_X5_thrown (q := qm) τ' rfl) cm_L_131 (mW_c0 ..) rfl (wL_M ..) rfl rfl hl.1 (Nat.le_of_ble_eq_true rfl) dL_law_990 ⟨(Nat.le_of_ble_eq_true rfl), (Nat.le_of_ble_eq_true rfl)⟩ rfl rfl ⟨by show _ ≤ 601024; omega, by show _ ≤ 7293034; omega⟩ (fun H locs h => ?_)
    refine W.eq (g2 := F0 m 993 ls [.int (τ' 24 0)]) rfl ?_
    refine lv_iload (pc := 993) hx hb dL_law_993 (lv_at hl 1 rfl) ?_
    refine lv_icmp_eq (pc := 995) (tgt := 1000) hx hb dL_law_995 (by decide) (fun _ => ?_) (fun c9 => absurd hthr c9)
    refine lv_iload (pc := 1000) hx hb dL_law_1000 (lv_at hl 1 rfl) ?_
    refine lv_if_ne (pc := 1002) (tgt := 1017) hx hb dL_law_1002 (by decide) (fun _ => ?_) (fun c9 => absurd c9 (by decide))
    refine lv_goto (pc := 1017) (tgt := 2364) hx hb dL_law_1017 (by decide) ?_
    exact W.widen (by omega) (by omega) (kk _ _ _ _ _ _ _ _ _ hI2 h ls (lv_sub hl [2, 3, 4, 5, 6, 7] rfl))
set_option maxHeartbeats 1000000 in
set_option maxRecDepth 100000 in
theorem law_signedFor {Inv : IT} (hn6 : ∀ t n σ0 σ τ, Inv t n σ0 σ τ → n ≤ 6) (S : SA_signedFor Inv) {t n : Nat} {q0 : Nat → Nat} {q : Nat → Nat → Nat} {qm : Nat → Nat} {σ0 τ : Nat → Nat → Int32} {σ : Nat → Nat → Nat → Int32} {o o2 : Nat} {f : Nat → Int64} {f2 : Nat → UInt64} {i : Int32} (ht : t < 512) (hI : Inv t n σ0 σ τ)
    (X : LX p l s m args meth c D cA b L xs) (h : St D (nA s) s.heap (wL n q0 q qm cA σ0 σ τ o o2 f f2) H locs) (hi : HI i L) (hl : lv_has ls 8 (L0 b (q0 0) (qm 0) o o2 i)) (hc : cells + 20 ≤ 601024) (hs : slots + 263 ≤ 7293034)
    (kk : LK p l e s m args below meth c D cA b q0 qm o o2 Inv t i cells slots Q) : W p l e room_1 s m args below meth c H locs cells slots Q (F0 m 1020 ls []) := by
  obtain ⟨C, hl0, hX, hN, hscr, hbl⟩ := X
  obtain ⟨hi0, hi1, hi2, hi3, hi4, hi5⟩ := hi
  obtain ⟨hx, hb, hml, hown, hts, hK, hlk⟩ := id C
  have hbA : ¬ nA s b := Nat.not_le.mpr hbl
  have hn := hn6 _ _ _ _ _ hI
  obtain ⟨w, τ', h5, ⟨hf, hI2, hthr⟩ | ⟨hf, hI2, hthr⟩⟩ := S _ _ _ _ _ _ ht hI
  · refine lv_aload_n (pc := 1020) hx hb dL_law_1020 rfl (lv_at hl 1 rfl) ?_
    refine lv_aload_n (pc := 1021) hx hb dL_law_1021 rfl (lv_at hl 0 rfl) ?_
    refine lv_iload (pc := 1022) hx hb dL_law_1022 (lv_at hl 5 rfl) ?_
    refine lv_iconst (pc := 1024) (v := 1) hx hb dL_law_1024 (by decide) ?_
    refine lv_iadd (pc := 1025) hx hb dL_law_1025 ?_
    refine va_sld (pc := 1026) hx hb hscr hbl hbA h.2.2.1 hi1 dL_law_1026 ?_
    refine lv_aload_n (pc := 1027) hx hb dL_law_1027 rfl (lv_at hl 3 rfl) ?_
    refine call_W (pc := 1028) (rest := []) (As := [.ref (q0 0), .int (xs (i + 1).toNatClampNeg), .ref o]) (ws' := wL n q0 q qm cA σ0 σ τ o o2 (vp_updL f 0 w.toInt64) f2) C hl0 hX hN h (w_signedFor hn σ0 σ (xs (i + 1).toNatClampNeg) hf o f) cx_L_172 (wL_L ..) (wL_L n q0 q qm cA σ0 σ τ o o2 (vp_updL f 0 w.toInt64) f2).symm (xL_fst ..) rfl rfl hl.1 (Nat.le_of_ble_eq_true rfl) dL_law_1028 ⟨(Nat.le_of_ble_eq_true rfl), (Nat.le_of_ble_eq_true rfl)⟩ rfl rfl ⟨by show cells + 1 ≤ 601024; omega, by show slots + 6 ≤ 7293034; omega⟩ (fun H locs h => ?_)
    refine W.eq (g2 := F0 m 1031 ls [.int 0]) rfl ?_
    refine lv_istore (pc := 1031) (lv' := [(6, .int 0), (0, .ref b), (1, .ref (q0 0)), (2, .ref (qm 0)), (3, .ref o), (4, .ref o2), (5, .int i)]) hx hb dL_law_1031 hl (by decide) rfl (fun ls hl => ?_)
    refine lv_aload_n (pc := 1033) hx hb dL_law_1033 rfl (lv_at hl 3 rfl) ?_
    refine lv_aload_n (pc := 1034) hx hb dL_law_1034 rfl (lv_at hl 1 rfl) ?_
    refine lv_iload (pc := 1035) hx hb dL_law_1035 (lv_at hl 6 rfl) ?_
    refine lv_iconst (pc := 1037) (v := 1) hx hb dL_law_1037 (by decide) ?_
    refine lv_iadd (pc := 1038) hx hb dL_law_1038 ?_
    refine va_sld (pc := 1039) hx hb hscr hbl hbA h.2.2.1 hi1 dL_law_1039 ?_
    refine call_VUp (pc := 1040) (rest := []) (As := [.int (xs (i + 1).toNatClampNeg)]) (wc' := mW qm cA τ') (ws' := wL n q0 q qm cA σ0 σ τ' o o2 (vp_updL f 0 w.toInt64) f2) C h (k_X5_signedFor (q := qm) τ (xs (i + 1).toNatClampNeg) h5) cm_L_174 (mW_c0 ..) rfl (wL_M ..) (wL_M n q0 q qm cA σ0 σ τ' o o2 (vp_updL f 0 w.toInt64) f2).symm (mW_fst ..) rfl rfl hl.1 (Nat.le_of_ble_eq_true rfl) dL_law_1040 ⟨(Nat.le_of_ble_eq_true rfl), (Nat.le_of_ble_eq_true rfl)⟩ rfl rfl ⟨by show _ ≤ 601024; omega, by show _ ≤ 7293034; omega⟩ (fun H locs h => ?_)
    refine W.eq (g2 := F0 m 1043 ls [.int w]) rfl ?_
    refine lv_istore (pc := 1043) (lv' := [(7, .int w), (6, .int 0), (0, .ref b), (1, .ref (q0 0)), (2, .ref (qm 0)), (3, .ref o), (4, .ref o2), (5, .int i)]) hx hb dL_law_1043 hl (by decide) rfl (fun ls hl => ?_)
    refine lv_aload_n (pc := 1045) hx hb dL_law_1045 rfl (lv_at hl 4 rfl) ?_
    refine call_VRp (pc := 1046) (rest := []) (As := []) C h (k_X5_thrown (q := qm) τ' rfl) cm_L_131 (mW_c0 ..) rfl (wL_M ..) rfl rfl hl.1 (Nat.le_of_ble_eq_true rfl) dL_law_1046 ⟨(Nat.le_of_ble_eq_true rfl), (Nat.le_of_ble_eq_true rfl)⟩ rfl rfl ⟨by show _ ≤ 601024; omega, by show _ ≤ 7293034; omega⟩ (fun H locs h => ?_)
    refine W.eq (g2 := F0 m 1049 ls [.int (τ' 24 0)]) rfl ?_
    refine lv_iload (pc := 1049) hx hb dL_law_1049 (lv_at hl 1 rfl) ?_
    refine lv_icmp_eq (pc := 1051) (tgt := 1056) hx hb dL_law_1051 (by decide) (fun _ => ?_) (fun c9 => absurd hthr c9)
    refine lv_iload (pc := 1056) hx hb dL_law_1056 (lv_at hl 1 rfl) ?_
    refine lv_if_ne (pc := 1058) (tgt := 1073) hx hb dL_law_1058 (by decide) (fun c9 => absurd rfl c9) (fun _ => ?_)
    refine lv_aload_n (pc := 1061) hx hb dL_law_1061 rfl (lv_at hl 5 rfl) ?_
    refine lv_iconst (pc := 1062) (v := 0) hx hb dL_law_1062 (by decide) ?_
    refine va_lald (pc := 1063) hx hb hK.1 h.1 0 3 (wL_o ..) rfl (show inb (0 : Int32) 1 from by decide) dL_law_1063 ?_
    refine W.eq (g2 := F0 m 1064 ls [.long w.toInt64]) rfl ?_
    refine lv_iload (pc := 1064) hx hb dL_law_1064 (lv_at hl 0 rfl) ?_
    refine lv_i2l (pc := 1066) (v := w.toInt64) hx hb dL_law_1066 rfl ?_
    refine W.lcmp (pc := 1067) hx hb dL_law_1067 ?_
    rw [cmp_self]
    refine lv_if_eq (pc := 1068) (tgt := 1073) hx hb dL_law_1068 (by decide) (fun _ => ?_) (fun c9 => absurd rfl c9)
    refine lv_goto (pc := 1073) (tgt := 2364) hx hb dL_law_1073 (by decide) ?_
    exact W.widen (by omega) (by omega) (kk _ _ _ _ _ _ _ _ _ hI2 h ls (lv_sub hl [2, 3, 4, 5, 6, 7] rfl))
  · refine lv_aload_n (pc := 1020) hx hb dL_law_1020 rfl (lv_at hl 1 rfl) ?_
    refine lv_aload_n (pc := 1021) hx hb dL_law_1021 rfl (lv_at hl 0 rfl) ?_
    refine lv_iload (pc := 1022) hx hb dL_law_1022 (lv_at hl 5 rfl) ?_
    refine lv_iconst (pc := 1024) (v := 1) hx hb dL_law_1024 (by decide) ?_
    refine lv_iadd (pc := 1025) hx hb dL_law_1025 ?_
    refine va_sld (pc := 1026) hx hb hscr hbl hbA h.2.2.1 hi1 dL_law_1026 ?_
    refine lv_aload_n (pc := 1027) hx hb dL_law_1027 rfl (lv_at hl 3 rfl) ?_
    refine call_W (pc := 1028) (rest := []) (As := [.ref (q0 0), .int (xs (i + 1).toNatClampNeg), .ref o]) (ws' := wL n q0 q qm cA σ0 σ τ o o2 f f2) C hl0 hX hN h (wT_signedFor_0 hn σ0 σ (xs (i + 1).toNatClampNeg) hf o f) cx_L_172 (wL_L ..) (wL_L n q0 q qm cA σ0 σ τ o o2 f f2).symm rfl rfl rfl hl.1 (Nat.le_of_ble_eq_true rfl) dL_law_1028 ⟨(Nat.le_of_ble_eq_true rfl), (Nat.le_of_ble_eq_true rfl)⟩ rfl rfl ⟨by show cells + 1 ≤ 601024; omega, by show slots + 6 ≤ 7293034; omega⟩ (fun H locs h => ?_)
    refine W.eq (g2 := F0 m 1031 ls [.int 1]) rfl ?_
    refine lv_istore (pc := 1031) (lv' := [(6, .int 1), (0, .ref b), (1, .ref (q0 0)), (2, .ref (qm 0)), (3, .ref o), (4, .ref o2), (5, .int i)]) hx hb dL_law_1031 hl (by decide) rfl (fun ls hl => ?_)
    refine lv_aload_n (pc := 1033) hx hb dL_law_1033 rfl (lv_at hl 3 rfl) ?_
    refine lv_aload_n (pc := 1034) hx hb dL_law_1034 rfl (lv_at hl 1 rfl) ?_
    refine lv_iload (pc := 1035) hx hb dL_law_1035 (lv_at hl 6 rfl) ?_
    refine lv_iconst (pc := 1037) (v := 1) hx hb dL_law_1037 (by decide) ?_
    refine lv_iadd (pc := 1038) hx hb dL_law_1038 ?_
    refine va_sld (pc := 1039) hx hb hscr hbl hbA h.2.2.1 hi1 dL_law_1039 ?_
    refine call_VUp (pc := 1040) (rest := []) (As := [.int (xs (i + 1).toNatClampNeg)]) (wc' := mW qm cA τ') (ws' := wL n q0 q qm cA σ0 σ τ' o o2 f f2) C h (k_X5_signedFor (q := qm) τ (xs (i + 1).toNatClampNeg) h5) cm_L_174 (mW_c0 ..) rfl (wL_M ..) (wL_M n q0 q qm cA σ0 σ τ' o o2 f f2).symm (mW_fst ..) rfl rfl hl.1 (Nat.le_of_ble_eq_true rfl) dL_law_1040 ⟨(Nat.le_of_ble_eq_true rfl), (Nat.le_of_ble_eq_true rfl)⟩ rfl rfl ⟨by show _ ≤ 601024; omega, by show _ ≤ 7293034; omega⟩ (fun H locs h => ?_)
    refine W.eq (g2 := F0 m 1043 ls [.int w]) rfl ?_
    refine lv_istore (pc := 1043) (lv' := [(7, .int w), (6, .int 1), (0, .ref b), (1, .ref (q0 0)), (2, .ref (qm 0)), (3, .ref o), (4, .ref o2), (5, .int i)]) hx hb dL_law_1043 hl (by decide) rfl (fun ls hl => ?_)
    refine lv_aload_n (pc := 1045) hx hb dL_law_1045 rfl (lv_at hl 4 rfl) ?_
    refine call_VRp (pc := 1046) (rest := []) (As := []) C h (k_X5_thrown (q := qm) τ' rfl) cm_L_131 (mW_c0 ..) rfl (wL_M ..) rfl rfl hl.1 (Nat.le_of_ble_eq_true rfl) dL_law_1046 ⟨(Nat.le_of_ble_eq_true rfl), (Nat.le_of_ble_eq_true rfl)⟩ rfl rfl ⟨by show _ ≤ 601024; omega, by show _ ≤ 7293034; omega⟩ (fun H locs h => ?_)
    refine W.eq (g2 := F0 m 1049 ls [.int (τ' 24 0)]) rfl ?_
    refine lv_iload (pc := 1049) hx hb dL_law_1049 (lv_at hl 1 rfl) ?_
    refine lv_icmp_eq (pc := 1051) (tgt := 1056) hx hb dL_law_1051 (by decide) (fun _ => ?_) (fun c9 => absurd hthr c9)
    refine lv_iload (pc := 1056) hx hb dL_law_1056 (lv_at hl 1 rfl) ?_
    refine lv_if_ne (pc := 1058) (tgt := 1073) hx hb dL_law_1058 (by decide) (fun _ => ?_) (fun c9 => absurd c9 (by decide))
    refine lv_goto (pc := 1073) (tgt := 2364) hx hb dL_law_1073 (by decide) ?_
    exact W.widen (by omega) (by omega) (kk _ _ _ _ _ _ _ _ _ hI2 h ls (lv_sub hl [2, 3, 4, 5, 6, 7] rfl))
set_option maxHeartbeats 1000000 in
set_option maxRecDepth 100000 in
theorem law_toSign {Inv : IT} (hn6 : ∀ t n σ0 σ τ, Inv t n σ0 σ τ → n ≤ 6) (S : SA_toSign Inv) {t n : Nat} {q0 : Nat → Nat} {q : Nat → Nat → Nat} {qm : Nat → Nat} {σ0 τ : Nat → Nat → Int32} {σ : Nat → Nat → Nat → Int32} {o o2 : Nat} {f : Nat → Int64} {f2 : Nat → UInt64} {i : Int32} (ht : t < 512) (hI : Inv t n σ0 σ τ)
    (X : LX p l s m args meth c D cA b L xs) (h : St D (nA s) s.heap (wL n q0 q qm cA σ0 σ τ o o2 f f2) H locs) (hi : HI i L) (hl : lv_has ls 8 (L0 b (q0 0) (qm 0) o o2 i)) (hc : cells + 20 ≤ 601024) (hs : slots + 263 ≤ 7293034)
    (kk : LK p l e s m args below meth c D cA b q0 qm o o2 Inv t i cells slots Q) : W p l e room_1 s m args below meth c H locs cells slots Q (F0 m 1076 ls []) := by
  obtain ⟨C, hl0, hX, hN, hscr, hbl⟩ := X
  obtain ⟨hi0, hi1, hi2, hi3, hi4, hi5⟩ := hi
  obtain ⟨hx, hb, hml, hown, hts, hK, hlk⟩ := id C
  have hbA : ¬ nA s b := Nat.not_le.mpr hbl
  have hn := hn6 _ _ _ _ _ hI
  obtain ⟨w, τ', h5, ⟨hf, hI2, hthr⟩ | ⟨hf, hI2, hthr⟩⟩ := S _ _ _ _ _ _ ht hI
  · refine lv_aload_n (pc := 1076) hx hb dL_law_1076 rfl (lv_at hl 1 rfl) ?_
    refine lv_aload_n (pc := 1077) hx hb dL_law_1077 rfl (lv_at hl 0 rfl) ?_
    refine lv_iload (pc := 1078) hx hb dL_law_1078 (lv_at hl 5 rfl) ?_
    refine lv_iconst (pc := 1080) (v := 1) hx hb dL_law_1080 (by decide) ?_
    refine lv_iadd (pc := 1081) hx hb dL_law_1081 ?_
    refine va_sld (pc := 1082) hx hb hscr hbl hbA h.2.2.1 hi1 dL_law_1082 ?_
    refine lv_aload_n (pc := 1083) hx hb dL_law_1083 rfl (lv_at hl 3 rfl) ?_
    refine call_W (pc := 1084) (rest := []) (As := [.ref (q0 0), .int (xs (i + 1).toNatClampNeg), .ref o]) (ws' := wL n q0 q qm cA σ0 σ τ o o2 (vp_updL f 0 w.toInt64) f2) C hl0 hX hN h (w_toSign hn σ0 σ (xs (i + 1).toNatClampNeg) hf o f) cx_L_175 (wL_L ..) (wL_L n q0 q qm cA σ0 σ τ o o2 (vp_updL f 0 w.toInt64) f2).symm (xL_fst ..) rfl rfl hl.1 (Nat.le_of_ble_eq_true rfl) dL_law_1084 ⟨(Nat.le_of_ble_eq_true rfl), (Nat.le_of_ble_eq_true rfl)⟩ rfl rfl ⟨by show cells + 1 ≤ 601024; omega, by show slots + 6 ≤ 7293034; omega⟩ (fun H locs h => ?_)
    refine W.eq (g2 := F0 m 1087 ls [.int 0]) rfl ?_
    refine lv_istore (pc := 1087) (lv' := [(6, .int 0), (0, .ref b), (1, .ref (q0 0)), (2, .ref (qm 0)), (3, .ref o), (4, .ref o2), (5, .int i)]) hx hb dL_law_1087 hl (by decide) rfl (fun ls hl => ?_)
    refine lv_aload_n (pc := 1089) hx hb dL_law_1089 rfl (lv_at hl 3 rfl) ?_
    refine lv_aload_n (pc := 1090) hx hb dL_law_1090 rfl (lv_at hl 1 rfl) ?_
    refine lv_iload (pc := 1091) hx hb dL_law_1091 (lv_at hl 6 rfl) ?_
    refine lv_iconst (pc := 1093) (v := 1) hx hb dL_law_1093 (by decide) ?_
    refine lv_iadd (pc := 1094) hx hb dL_law_1094 ?_
    refine va_sld (pc := 1095) hx hb hscr hbl hbA h.2.2.1 hi1 dL_law_1095 ?_
    refine call_VUp (pc := 1096) (rest := []) (As := [.int (xs (i + 1).toNatClampNeg)]) (wc' := mW qm cA τ') (ws' := wL n q0 q qm cA σ0 σ τ' o o2 (vp_updL f 0 w.toInt64) f2) C h (k_X5_toSign (q := qm) τ (xs (i + 1).toNatClampNeg) h5) cm_L_177 (mW_c0 ..) rfl (wL_M ..) (wL_M n q0 q qm cA σ0 σ τ' o o2 (vp_updL f 0 w.toInt64) f2).symm (mW_fst ..) rfl rfl hl.1 (Nat.le_of_ble_eq_true rfl) dL_law_1096 ⟨(Nat.le_of_ble_eq_true rfl), (Nat.le_of_ble_eq_true rfl)⟩ rfl rfl ⟨by show _ ≤ 601024; omega, by show _ ≤ 7293034; omega⟩ (fun H locs h => ?_)
    refine W.eq (g2 := F0 m 1099 ls [.int w]) rfl ?_
    refine lv_istore (pc := 1099) (lv' := [(7, .int w), (6, .int 0), (0, .ref b), (1, .ref (q0 0)), (2, .ref (qm 0)), (3, .ref o), (4, .ref o2), (5, .int i)]) hx hb dL_law_1099 hl (by decide) rfl (fun ls hl => ?_)
    refine lv_aload_n (pc := 1101) hx hb dL_law_1101 rfl (lv_at hl 4 rfl) ?_
    refine call_VRp (pc := 1102) (rest := []) (As := []) C h (k_X5_thrown (q := qm) τ' rfl) cm_L_131 (mW_c0 ..) rfl (wL_M ..) rfl rfl hl.1 (Nat.le_of_ble_eq_true rfl) dL_law_1102 ⟨(Nat.le_of_ble_eq_true rfl), (Nat.le_of_ble_eq_true rfl)⟩ rfl rfl ⟨by show _ ≤ 601024; omega, by show _ ≤ 7293034; omega⟩ (fun H locs h => ?_)
    refine W.eq (g2 := F0 m 1105 ls [.int (τ' 24 0)]) rfl ?_
    refine lv_iload (pc := 1105) hx hb dL_law_1105 (lv_at hl 1 rfl) ?_
    refine lv_icmp_eq (pc := 1107) (tgt := 1112) hx hb dL_law_1107 (by decide) (fun _ => ?_) (fun c9 => absurd hthr c9)
    refine lv_iload (pc := 1112) hx hb dL_law_1112 (lv_at hl 1 rfl) ?_
    refine lv_if_ne (pc := 1114) (tgt := 1129) hx hb dL_law_1114 (by decide) (fun c9 => absurd rfl c9) (fun _ => ?_)
    refine lv_aload_n (pc := 1117) hx hb dL_law_1117 rfl (lv_at hl 5 rfl) ?_
    refine lv_iconst (pc := 1118) (v := 0) hx hb dL_law_1118 (by decide) ?_
    refine va_lald (pc := 1119) hx hb hK.1 h.1 0 3 (wL_o ..) rfl (show inb (0 : Int32) 1 from by decide) dL_law_1119 ?_
    refine W.eq (g2 := F0 m 1120 ls [.long w.toInt64]) rfl ?_
    refine lv_iload (pc := 1120) hx hb dL_law_1120 (lv_at hl 0 rfl) ?_
    refine lv_i2l (pc := 1122) (v := w.toInt64) hx hb dL_law_1122 rfl ?_
    refine W.lcmp (pc := 1123) hx hb dL_law_1123 ?_
    rw [cmp_self]
    refine lv_if_eq (pc := 1124) (tgt := 1129) hx hb dL_law_1124 (by decide) (fun _ => ?_) (fun c9 => absurd rfl c9)
    refine lv_goto (pc := 1129) (tgt := 2364) hx hb dL_law_1129 (by decide) ?_
    exact W.widen (by omega) (by omega) (kk _ _ _ _ _ _ _ _ _ hI2 h ls (lv_sub hl [2, 3, 4, 5, 6, 7] rfl))
  · refine lv_aload_n (pc := 1076) hx hb dL_law_1076 rfl (lv_at hl 1 rfl) ?_
    refine lv_aload_n (pc := 1077) hx hb dL_law_1077 rfl (lv_at hl 0 rfl) ?_
    refine lv_iload (pc := 1078) hx hb dL_law_1078 (lv_at hl 5 rfl) ?_
    refine lv_iconst (pc := 1080) (v := 1) hx hb dL_law_1080 (by decide) ?_
    refine lv_iadd (pc := 1081) hx hb dL_law_1081 ?_
    refine va_sld (pc := 1082) hx hb hscr hbl hbA h.2.2.1 hi1 dL_law_1082 ?_
    refine lv_aload_n (pc := 1083) hx hb dL_law_1083 rfl (lv_at hl 3 rfl) ?_
    refine call_W (pc := 1084) (rest := []) (As := [.ref (q0 0), .int (xs (i + 1).toNatClampNeg), .ref o]) (ws' := wL n q0 q qm cA σ0 σ τ o o2 f f2) C hl0 hX hN h (wT_toSign_0 hn σ0 σ (xs (i + 1).toNatClampNeg) hf o f) cx_L_175 (wL_L ..) (wL_L n q0 q qm cA σ0 σ τ o o2 f f2).symm rfl rfl rfl hl.1 (Nat.le_of_ble_eq_true rfl) dL_law_1084 ⟨(Nat.le_of_ble_eq_true rfl), (Nat.le_of_ble_eq_true rfl)⟩ rfl rfl ⟨by show cells + 1 ≤ 601024; omega, by show slots + 6 ≤ 7293034; omega⟩ (fun H locs h => ?_)
    refine W.eq (g2 := F0 m 1087 ls [.int 1]) rfl ?_
    refine lv_istore (pc := 1087) (lv' := [(6, .int 1), (0, .ref b), (1, .ref (q0 0)), (2, .ref (qm 0)), (3, .ref o), (4, .ref o2), (5, .int i)]) hx hb dL_law_1087 hl (by decide) rfl (fun ls hl => ?_)
    refine lv_aload_n (pc := 1089) hx hb dL_law_1089 rfl (lv_at hl 3 rfl) ?_
    refine lv_aload_n (pc := 1090) hx hb dL_law_1090 rfl (lv_at hl 1 rfl) ?_
    refine lv_iload (pc := 1091) hx hb dL_law_1091 (lv_at hl 6 rfl) ?_
    refine lv_iconst (pc := 1093) (v := 1) hx hb dL_law_1093 (by decide) ?_
    refine lv_iadd (pc := 1094) hx hb dL_law_1094 ?_
    refine va_sld (pc := 1095) hx hb hscr hbl hbA h.2.2.1 hi1 dL_law_1095 ?_
    refine call_VUp (pc := 1096) (rest := []) (As := [.int (xs (i + 1).toNatClampNeg)]) (wc' := mW qm cA τ') (ws' := wL n q0 q qm cA σ0 σ τ' o o2 f f2) C h (k_X5_toSign (q := qm) τ (xs (i + 1).toNatClampNeg) h5) cm_L_177 (mW_c0 ..) rfl (wL_M ..) (wL_M n q0 q qm cA σ0 σ τ' o o2 f f2).symm (mW_fst ..) rfl rfl hl.1 (Nat.le_of_ble_eq_true rfl) dL_law_1096 ⟨(Nat.le_of_ble_eq_true rfl), (Nat.le_of_ble_eq_true rfl)⟩ rfl rfl ⟨by show _ ≤ 601024; omega, by show _ ≤ 7293034; omega⟩ (fun H locs h => ?_)
    refine W.eq (g2 := F0 m 1099 ls [.int w]) rfl ?_
    refine lv_istore (pc := 1099) (lv' := [(7, .int w), (6, .int 1), (0, .ref b), (1, .ref (q0 0)), (2, .ref (qm 0)), (3, .ref o), (4, .ref o2), (5, .int i)]) hx hb dL_law_1099 hl (by decide) rfl (fun ls hl => ?_)
    refine lv_aload_n (pc := 1101) hx hb dL_law_1101 rfl (lv_at hl 4 rfl) ?_
    refine call_VRp (pc := 1102) (rest := []) (As := []) C h (k_X5_thrown (q := qm) τ' rfl) cm_L_131 (mW_c0 ..) rfl (wL_M ..) rfl rfl hl.1 (Nat.le_of_ble_eq_true rfl) dL_law_1102 ⟨(Nat.le_of_ble_eq_true rfl), (Nat.le_of_ble_eq_true rfl)⟩ rfl rfl ⟨by show _ ≤ 601024; omega, by show _ ≤ 7293034; omega⟩ (fun H locs h => ?_)
    refine W.eq (g2 := F0 m 1105 ls [.int (τ' 24 0)]) rfl ?_
    refine lv_iload (pc := 1105) hx hb dL_law_1105 (lv_at hl 1 rfl) ?_
    refine lv_icmp_eq (pc := 1107) (tgt := 1112) hx hb dL_law_1107 (by decide) (fun _ => ?_) (fun c9 => absurd hthr c9)
    refine lv_iload (pc := 1112) hx hb dL_law_1112 (lv_at hl 1 rfl) ?_
    refine lv_if_ne (pc := 1114) (tgt := 1129) hx hb dL_law_1114 (by decide) (fun _ => ?_) (fun c9 => absurd c9 (by decide))
    refine lv_goto (pc := 1129) (tgt := 2364) hx hb dL_law_1129 (by decide) ?_
    exact W.widen (by omega) (by omega) (kk _ _ _ _ _ _ _ _ _ hI2 h ls (lv_sub hl [2, 3, 4, 5, 6, 7] rfl))
end
