section
variable {p : Program} {l : Launch} {e : Env} {R : Room} {s : State} {m : MethodId} {args : Array Value} {below : List Frame} {meth : Method} {c : Code} {Q : State → Prop}
variable {D : va_G} {cA : Nat → ClassId} {A : Nat → Prop} {q : Nat → Nat}
abbrev rm_X0_start : Room := { frames := 3, cells := 0, slots := 0, locals := 67 }
def f_X0_start (σ : Nat → Nat → Int32) (x1 : Int32) : Option (Int32 × (Nat → Nat → Int32)) := (lt (va_up σ 11 (fun _ => (1 : Int32))) fun t1 => (lt (va_up t1 14 (fun _ => x1)) fun t2 => (lt (hp t2 (f_X1_add (hs t2) (0 : Int32) (-1 : Int32) (-1 : Int32) x1)) fun t3 => ((f_X0_openNext t3 x1).bind fun z4 => (some (z4.1, z4.2))))))
set_option maxHeartbeats 400000 in
set_option maxRecDepth 100000 in
theorem k_X0_start {q : Nat → Nat} {cA : Nat → ClassId} {D : va_G} (σ : Nat → Nat → Int32) (x1 : Int32) {z : Int32 × (Nat → Nat → Int32)} (hf : f_X0_start σ x1 = some z) : CtU yX0_start cX0_start 2 (some .int) rm_X0_start [.ref (q 0), .int x1] D cA (eW q cA σ) (eW q cA z.2) (some (.int z.1)) 0 0 := by
  refine ctU_of (by decide) (Nat.le_of_ble_eq_true rfl) ?_
  intro p l e s m below meth c ls C hr hnm h hl
  have C : Cx p s m _ meth c cX0_start 2 RX0 D cA := C
  obtain ⟨hx, hb, hml, hown, hts, hK, hlk⟩ := id C
  replace hl : lv_has ls 2 [(0, .ref (q 0)), (1, .int x1)] := hl
  rw [f_X0_start] at hf
  refine lv_aload_n (pc := 0) hx hb dX0_start_0 rfl (lv_at hl 0 rfl) ?_
  refine lv_iconst (pc := 1) (v := 1) hx hb dX0_start_1 (by decide) ?_
  obtain ⟨t1, et1, hf⟩ := ltS hf
  refine g_puti (pc := 2) (v := (1 : Int32)) (ws' := (eW q cA t1)) C h 0 (eW_c0 _ _ _) fp_X0_39 (Nat.le_of_ble_eq_true rfl) ((eW_w0_7 _ _ _ _).trans (congrArg (eW q cA) et1.symm)) dX0_start_2 (fun H locs h => ?_)
  refine lv_aload_n (pc := 5) hx hb dX0_start_5 rfl (lv_at hl 0 rfl) ?_
  refine lv_iload_n (pc := 6) hx hb dX0_start_6 rfl (lv_at hl 1 rfl) ?_
  obtain ⟨t2, et2, hf⟩ := ltS hf
  refine g_puti (pc := 7) (v := x1) (ws' := (eW q cA t2)) C h 0 (eW_c0 _ _ _) fp_X0_71 (Nat.le_of_ble_eq_true rfl) ((eW_w0_10 _ _ _ _).trans (congrArg (eW q cA) et2.symm)) dX0_start_7 (fun H locs h => ?_)
  refine lv_aload_n (pc := 10) hx hb dX0_start_10 rfl (lv_at hl 0 rfl) ?_
  refine g_get (pc := 11) (v := .ref (q 11)) C h.1 0 (eW_c0 _ _ _) fl_X0_35 rfl dX0_start_11 ?_
  refine lv_iconst (pc := 14) (v := 0) hx hb dX0_start_14 (by decide) ?_
  refine lv_iconst (pc := 15) (v := -1) hx hb dX0_start_15 (by decide) ?_
  refine lv_iconst (pc := 16) (v := -1) hx hb dX0_start_16 (by decide) ?_
  refine lv_iload_n (pc := 17) hx hb dX0_start_17 rfl (lv_at hl 1 rfl) ?_
  obtain ⟨t3, et3, hf⟩ := ltS hf
  refine call_VU (pc := 18) (As := [.int (0 : Int32), .int (-1 : Int32), .int (-1 : Int32), .int x1]) (rest := []) (ws' := (eW q cA t3)) C h (k_X1_add (q := fun i => q (i + 11)) (hs t2) (0 : Int32) (-1 : Int32) (-1 : Int32) x1 rfl) cw_X0_74 11 (eW_c11 _ _ _) rfl [11, 12, 13, 14, 15, 16, 17, 18, 19] (eW_hs _ _ _) (by decide) (hW_fst _ _ _ _) ((eW_hp _ _ _ _).trans (congrArg (eW q cA) et3.symm)) rfl rfl hl.1 (Nat.le_of_ble_eq_true rfl) dX0_start_18 ⟨Nat.le_of_ble_eq_true rfl, Nat.le_of_ble_eq_true rfl⟩ rfl rfl ⟨Nat.le_of_ble_eq_true rfl, Nat.le_of_ble_eq_true rfl⟩ (fun H locs h => ?_)
  refine W.eq (g2 := F0 m 21 ls []) rfl ?_
  refine lv_aload_n (pc := 21) hx hb dX0_start_21 rfl (lv_at hl 0 rfl) ?_
  refine lv_iload_n (pc := 22) hx hb dX0_start_22 rfl (lv_at hl 1 rfl) ?_
  obtain ⟨z4, hc4, hf⟩ := bdS hf
  refine call_VUs (pc := 23) (As := [.int x1]) (rest := []) C h (k_X0_openNext t3 x1 hc4) cw_X0_78 0 (eW_c0 _ _ _) rfl (eW_fst _ _ _ _) rfl rfl hl.1 (Nat.le_of_ble_eq_true rfl) dX0_start_23 ⟨Nat.le_of_ble_eq_true rfl, Nat.le_of_ble_eq_true rfl⟩ rfl rfl ⟨Nat.le_of_ble_eq_true rfl, Nat.le_of_ble_eq_true rfl⟩ (fun H locs h => ?_)
  refine W.eq (g2 := F0 m 26 ls [.int z4.1]) rfl ?_
  have hf : (some (z4.1, z4.2)) = some z := hf
  cases hf
  exact ret_iU (pc := 26) C hr h dX0_start_26
abbrev rm_X0_mark : Room := { frames := 3, cells := 0, slots := 0, locals := 67 }
def f_X0_mark (σ : Nat → Nat → Int32) (x1 x2 x3 x4 : Int32) : Option (Int32 × (Nat → Nat → Int32)) := (lt (va_up σ 15 (fun _ => ((σ 15 0) ||| ((1 : Int32) <<< (x3 &&& 31))))) fun t1 => (lt (va_up t1 16 (fun _ => ((t1 16 0) &&& (((1 : Int32) <<< (x3 &&& 31)) ^^^ (-1 : Int32))))) fun t2 => (lt (hp t2 (f_X1_add (hs t2) x1 x2 x3 x4)) fun t3 => (if (t3 15 0) = (f_X0_allSlots t3) then (lt (va_up t3 11 (fun _ => (2 : Int32))) fun t4 => ((f_X0_openNext t4 x4).bind fun z5 => (some (z5.1, z5.2)))) else ((f_X0_openNext t3 x4).bind fun z4 => (some (z4.1, z4.2)))))))
set_option maxHeartbeats 400000 in
set_option maxRecDepth 100000 in
theorem k_X0_mark {q : Nat → Nat} {cA : Nat → ClassId} {D : va_G} (σ : Nat → Nat → Int32) (x1 x2 x3 x4 : Int32) {z : Int32 × (Nat → Nat → Int32)} (hf : f_X0_mark σ x1 x2 x3 x4 = some z) : CtU yX0_mark cX0_mark 5 (some .int) rm_X0_mark [.ref (q 0), .int x1, .int x2, .int x3, .int x4] D cA (eW q cA σ) (eW q cA z.2) (some (.int z.1)) 0 0 := by
  refine ctU_of (by decide) (Nat.le_of_ble_eq_true rfl) ?_
  intro p l e s m below meth c ls C hr hnm h hl
  have C : Cx p s m _ meth c cX0_mark 5 RX0 D cA := C
  obtain ⟨hx, hb, hml, hown, hts, hK, hlk⟩ := id C
  replace hl : lv_has ls 5 [(0, .ref (q 0)), (1, .int x1), (2, .int x2), (3, .int x3), (4, .int x4)] := hl
  rw [f_X0_mark] at hf
  refine lv_aload_n (pc := 0) hx hb dX0_mark_0 rfl (lv_at hl 0 rfl) ?_
  refine lv_dup (pc := 1) hx hb dX0_mark_1 rfl ?_
  refine g_get (pc := 2) (v := .int (σ 15 0)) C h.1 0 (eW_c0 _ _ _) fl_X0_81 rfl dX0_mark_2 ?_
  refine lv_iconst (pc := 5) (v := 1) hx hb dX0_mark_5 (by decide) ?_
  refine lv_iload_n (pc := 6) hx hb dX0_mark_6 rfl (lv_at hl 3 rfl) ?_
  refine lv_ishl (pc := 7) hx hb dX0_mark_7 ?_
  refine lv_ior (pc := 8) hx hb dX0_mark_8 ?_
  obtain ⟨t1, et1, hf⟩ := ltS hf
  refine g_puti (pc := 9) (v := ((σ 15 0) ||| ((1 : Int32) <<< (x3 &&& 31)))) (ws' := (eW q cA t1)) C h 0 (eW_c0 _ _ _) fp_X0_81 (Nat.le_of_ble_eq_true rfl) ((eW_w0_11 _ _ _ _).trans (congrArg (eW q cA) et1.symm)) dX0_mark_9 (fun H locs h => ?_)
  refine lv_aload_n (pc := 12) hx hb dX0_mark_12 rfl (lv_at hl 0 rfl) ?_
  refine lv_dup (pc := 13) hx hb dX0_mark_13 rfl ?_
  refine g_get (pc := 14) (v := .int (t1 16 0)) C h.1 0 (eW_c0 _ _ _) fl_X0_84 rfl dX0_mark_14 ?_
  refine lv_iconst (pc := 17) (v := 1) hx hb dX0_mark_17 (by decide) ?_
  refine lv_iload_n (pc := 18) hx hb dX0_mark_18 rfl (lv_at hl 3 rfl) ?_
  refine lv_ishl (pc := 19) hx hb dX0_mark_19 ?_
  refine lv_iconst (pc := 20) (v := -1) hx hb dX0_mark_20 (by decide) ?_
  refine lv_ixor (pc := 21) hx hb dX0_mark_21 ?_
  refine lv_iand (pc := 22) hx hb dX0_mark_22 ?_
  obtain ⟨t2, et2, hf⟩ := ltS hf
  refine g_puti (pc := 23) (v := ((t1 16 0) &&& (((1 : Int32) <<< (x3 &&& 31)) ^^^ (-1 : Int32)))) (ws' := (eW q cA t2)) C h 0 (eW_c0 _ _ _) fp_X0_84 (Nat.le_of_ble_eq_true rfl) ((eW_w0_12 _ _ _ _).trans (congrArg (eW q cA) et2.symm)) dX0_mark_23 (fun H locs h => ?_)
  refine lv_aload_n (pc := 26) hx hb dX0_mark_26 rfl (lv_at hl 0 rfl) ?_
  refine g_get (pc := 27) (v := .ref (q 11)) C h.1 0 (eW_c0 _ _ _) fl_X0_35 rfl dX0_mark_27 ?_
  refine lv_iload_n (pc := 30) hx hb dX0_mark_30 rfl (lv_at hl 1 rfl) ?_
  refine lv_iload_n (pc := 31) hx hb dX0_mark_31 rfl (lv_at hl 2 rfl) ?_
  refine lv_iload_n (pc := 32) hx hb dX0_mark_32 rfl (lv_at hl 3 rfl) ?_
  refine lv_iload (pc := 33) hx hb dX0_mark_33 (lv_at hl 4 rfl) ?_
  obtain ⟨t3, et3, hf⟩ := ltS hf
  refine call_VU (pc := 35) (As := [.int x1, .int x2, .int x3, .int x4]) (rest := []) (ws' := (eW q cA t3)) C h (k_X1_add (q := fun i => q (i + 11)) (hs t2) x1 x2 x3 x4 rfl) cw_X0_74 11 (eW_c11 _ _ _) rfl [11, 12, 13, 14, 15, 16, 17, 18, 19] (eW_hs _ _ _) (by decide) (hW_fst _ _ _ _) ((eW_hp _ _ _ _).trans (congrArg (eW q cA) et3.symm)) rfl rfl hl.1 (Nat.le_of_ble_eq_true rfl) dX0_mark_35 ⟨Nat.le_of_ble_eq_true rfl, Nat.le_of_ble_eq_true rfl⟩ rfl rfl ⟨Nat.le_of_ble_eq_true rfl, Nat.le_of_ble_eq_true rfl⟩ (fun H locs h => ?_)
  refine W.eq (g2 := F0 m 38 ls []) rfl ?_
  refine lv_aload_n (pc := 38) hx hb dX0_mark_38 rfl (lv_at hl 0 rfl) ?_
  refine g_get (pc := 39) (v := .int (t3 15 0)) C h.1 0 (eW_c0 _ _ _) fl_X0_81 rfl dX0_mark_39 ?_
  refine lv_aload_n (pc := 42) hx hb dX0_mark_42 rfl (lv_at hl 0 rfl) ?_
  refine call_VRs (pc := 43) (As := []) (rest := [.int (t3 15 0)]) C h (k_X0_allSlots t3 rfl) cw_X0_64 0 (eW_c0 _ _ _) rfl rfl rfl hl.1 (Nat.le_of_ble_eq_true rfl) dX0_mark_43 ⟨Nat.le_of_ble_eq_true rfl, Nat.le_of_ble_eq_true rfl⟩ rfl rfl ⟨Nat.le_of_ble_eq_true rfl, Nat.le_of_ble_eq_true rfl⟩ (fun H locs h => ?_)
  refine W.eq (g2 := F0 m 46 ls [.int (f_X0_allSlots t3), .int (t3 15 0)]) rfl ?_
  refine lv_icmp_ne (pc := 46) (tgt := 54) hx hb dX0_mark_46 (by decide) (fun c9 => ?_) (fun c9 => ?_)
  · have hf := ifF c9 hf
    refine lv_aload_n (pc := 54) hx hb dX0_mark_54 rfl (lv_at hl 0 rfl) ?_
    refine lv_iload (pc := 55) hx hb dX0_mark_55 (lv_at hl 4 rfl) ?_
    obtain ⟨z4, hc4, hf⟩ := bdS hf
    refine call_VUs (pc := 57) (As := [.int x4]) (rest := []) C h (k_X0_openNext t3 x4 hc4) cw_X0_78 0 (eW_c0 _ _ _) rfl (eW_fst _ _ _ _) rfl rfl hl.1 (Nat.le_of_ble_eq_true rfl) dX0_mark_57 ⟨Nat.le_of_ble_eq_true rfl, Nat.le_of_ble_eq_true rfl⟩ rfl rfl ⟨Nat.le_of_ble_eq_true rfl, Nat.le_of_ble_eq_true rfl⟩ (fun H locs h => ?_)
    refine W.eq (g2 := F0 m 60 ls [.int z4.1]) rfl ?_
    have hf : (some (z4.1, z4.2)) = some z := hf
    cases hf
    exact ret_iU (pc := 60) C hr h dX0_mark_60
  · have hf := ifT c9 hf
    refine lv_aload_n (pc := 49) hx hb dX0_mark_49 rfl (lv_at hl 0 rfl) ?_
    refine lv_iconst (pc := 50) (v := 2) hx hb dX0_mark_50 (by decide) ?_
    obtain ⟨t4, et4, hf⟩ := ltS hf
    refine g_puti (pc := 51) (v := (2 : Int32)) (ws' := (eW q cA t4)) C h 0 (eW_c0 _ _ _) fp_X0_39 (Nat.le_of_ble_eq_true rfl) ((eW_w0_7 _ _ _ _).trans (congrArg (eW q cA) et4.symm)) dX0_mark_51 (fun H locs h => ?_)
    refine lv_aload_n (pc := 54) hx hb dX0_mark_54 rfl (lv_at hl 0 rfl) ?_
    refine lv_iload (pc := 55) hx hb dX0_mark_55 (lv_at hl 4 rfl) ?_
    obtain ⟨z5, hc5, hf⟩ := bdS hf
    refine call_VUs (pc := 57) (As := [.int x4]) (rest := []) C h (k_X0_openNext t4 x4 hc5) cw_X0_78 0 (eW_c0 _ _ _) rfl (eW_fst _ _ _ _) rfl rfl hl.1 (Nat.le_of_ble_eq_true rfl) dX0_mark_57 ⟨Nat.le_of_ble_eq_true rfl, Nat.le_of_ble_eq_true rfl⟩ rfl rfl ⟨Nat.le_of_ble_eq_true rfl, Nat.le_of_ble_eq_true rfl⟩ (fun H locs h => ?_)
    refine W.eq (g2 := F0 m 60 ls [.int z5.1]) rfl ?_
    have hf : (some (z5.1, z5.2)) = some z := hf
    cases hf
    exact ret_iU (pc := 60) C hr h dX0_mark_60
abbrev rm_X0_finish : Room := { frames := 2, cells := 0, slots := 0, locals := 46 }
def f_X0_finish (σ : Nat → Nat → Int32) (x1 x2 x3 x4 x5 : Int32) : Int32 × (Nat → Nat → Int32) := (lt (va_up σ 11 (fun _ => x1)) fun t1 => (lt (va_up t1 16 (fun _ => (0 : Int32))) fun t2 => (lt (hp t2 (f_X1_add (hs t2) x2 x3 x4 x5)) fun t3 => (((t3 10 0) - (f_J6_bitCount_0f7a4 (t3 15 0))), t3))))
set_option maxHeartbeats 400000 in
set_option maxRecDepth 100000 in
theorem k_X0_finish {q : Nat → Nat} {cA : Nat → ClassId} {D : va_G} (σ : Nat → Nat → Int32) (x1 x2 x3 x4 x5 : Int32) {z : Int32 × (Nat → Nat → Int32)} (hf : f_X0_finish σ x1 x2 x3 x4 x5 = z) : CtU yX0_finish cX0_finish 6 (some .int) rm_X0_finish [.ref (q 0), .int x1, .int x2, .int x3, .int x4, .int x5] D cA (eW q cA σ) (eW q cA z.2) (some (.int z.1)) 0 0 := by
  refine ctU_of (by decide) (Nat.le_of_ble_eq_true rfl) ?_
  intro p l e s m below meth c ls C hr hnm h hl
  have C : Cx p s m _ meth c cX0_finish 6 RX0 D cA := C
  obtain ⟨hx, hb, hml, hown, hts, hK, hlk⟩ := id C
  replace hl : lv_has ls 6 [(0, .ref (q 0)), (1, .int x1), (2, .int x2), (3, .int x3), (4, .int x4), (5, .int x5)] := hl
  rw [f_X0_finish] at hf
  refine lv_aload_n (pc := 0) hx hb dX0_finish_0 rfl (lv_at hl 0 rfl) ?_
  refine lv_iload_n (pc := 1) hx hb dX0_finish_1 rfl (lv_at hl 1 rfl) ?_
  obtain ⟨t1, et1, hf⟩ := ltS hf
  refine g_puti (pc := 2) (v := x1) (ws' := (eW q cA t1)) C h 0 (eW_c0 _ _ _) fp_X0_39 (Nat.le_of_ble_eq_true rfl) ((eW_w0_7 _ _ _ _).trans (congrArg (eW q cA) et1.symm)) dX0_finish_2 (fun H locs h => ?_)
  refine lv_aload_n (pc := 5) hx hb dX0_finish_5 rfl (lv_at hl 0 rfl) ?_
  refine lv_iconst (pc := 6) (v := 0) hx hb dX0_finish_6 (by decide) ?_
  obtain ⟨t2, et2, hf⟩ := ltS hf
  refine g_puti (pc := 7) (v := (0 : Int32)) (ws' := (eW q cA t2)) C h 0 (eW_c0 _ _ _) fp_X0_84 (Nat.le_of_ble_eq_true rfl) ((eW_w0_12 _ _ _ _).trans (congrArg (eW q cA) et2.symm)) dX0_finish_7 (fun H locs h => ?_)
  refine lv_aload_n (pc := 10) hx hb dX0_finish_10 rfl (lv_at hl 0 rfl) ?_
  refine g_get (pc := 11) (v := .ref (q 11)) C h.1 0 (eW_c0 _ _ _) fl_X0_35 rfl dX0_finish_11 ?_
  refine lv_iload_n (pc := 14) hx hb dX0_finish_14 rfl (lv_at hl 2 rfl) ?_
  refine lv_iload_n (pc := 15) hx hb dX0_finish_15 rfl (lv_at hl 3 rfl) ?_
  refine lv_iload (pc := 16) hx hb dX0_finish_16 (lv_at hl 4 rfl) ?_
  refine lv_iload (pc := 18) hx hb dX0_finish_18 (lv_at hl 5 rfl) ?_
  obtain ⟨t3, et3, hf⟩ := ltS hf
  refine call_VU (pc := 20) (As := [.int x2, .int x3, .int x4, .int x5]) (rest := []) (ws' := (eW q cA t3)) C h (k_X1_add (q := fun i => q (i + 11)) (hs t2) x2 x3 x4 x5 rfl) cw_X0_74 11 (eW_c11 _ _ _) rfl [11, 12, 13, 14, 15, 16, 17, 18, 19] (eW_hs _ _ _) (by decide) (hW_fst _ _ _ _) ((eW_hp _ _ _ _).trans (congrArg (eW q cA) et3.symm)) rfl rfl hl.1 (Nat.le_of_ble_eq_true rfl) dX0_finish_20 ⟨Nat.le_of_ble_eq_true rfl, Nat.le_of_ble_eq_true rfl⟩ rfl rfl ⟨Nat.le_of_ble_eq_true rfl, Nat.le_of_ble_eq_true rfl⟩ (fun H locs h => ?_)
  refine W.eq (g2 := F0 m 23 ls []) rfl ?_
  refine lv_aload_n (pc := 23) hx hb dX0_finish_23 rfl (lv_at hl 0 rfl) ?_
  refine g_get (pc := 24) (v := .int (t3 10 0)) C h.1 0 (eW_c0 _ _ _) fl_X0_43 rfl dX0_finish_24 ?_
  refine lv_aload_n (pc := 27) hx hb dX0_finish_27 rfl (lv_at hl 0 rfl) ?_
  refine g_get (pc := 28) (v := .int (t3 15 0)) C h.1 0 (eW_c0 _ _ _) fl_X0_81 rfl dX0_finish_28 ?_
  refine call_SR (pc := 31) (As := [.int (t3 15 0)]) (rest := [.int (t3 10 0)]) (wc := []) C h (k_J6_bitCount_0f7a4 (t3 15 0) rfl) cw_X0_87 [] rfl rfl rfl rfl hl.1 (Nat.le_of_ble_eq_true rfl) dX0_finish_31 ⟨Nat.le_of_ble_eq_true rfl, Nat.le_of_ble_eq_true rfl⟩ rfl rfl ⟨Nat.le_of_ble_eq_true rfl, Nat.le_of_ble_eq_true rfl⟩ (fun H locs h => ?_)
  refine W.eq (g2 := F0 m 34 ls [.int (f_J6_bitCount_0f7a4 (t3 15 0)), .int (t3 10 0)]) rfl ?_
  refine lv_isub (pc := 34) hx hb dX0_finish_34 ?_
  have hf : (((t3 10 0) - (f_J6_bitCount_0f7a4 (t3 15 0))), t3) = z := hf
  subst hf
  exact ret_iU (pc := 35) C hr h dX0_finish_35
abbrev rm_X0_canRemind : Room := { frames := 1, cells := 0, slots := 0, locals := 21 }
def f_X0_canRemind (σ : Nat → Nat → Int32) (x1 : Int32) : Int32 := (if (σ 12 0) ≤ 0 then (0 : Int32) else (if (f_X4_has (σ 16 0) x1) = 0 then (0 : Int32) else (if (5 : Int32) ≤ (rg 8 (σ 4) x1) then (0 : Int32) else (1 : Int32))))
set_option maxHeartbeats 400000 in
set_option maxRecDepth 100000 in
theorem k_X0_canRemind {q : Nat → Nat} {cA : Nat → ClassId} {D : va_G} (σ : Nat → Nat → Int32) (x1 : Int32) {z : Int32} (hf : f_X0_canRemind σ x1 = z) : CtR yX0_canRemind cX0_canRemind 2 (some .boolean) rm_X0_canRemind [.ref (q 0), .int x1] D cA (eW q cA σ) (some (.int z)) 0 0 := by
  refine ctR_of (by decide) (Nat.le_of_ble_eq_true rfl) ?_
  intro p l e s m below meth c ls C hr hnm h hl
  have C : Cx p s m _ meth c cX0_canRemind 2 RX0 D cA := C
  obtain ⟨hx, hb, hml, hown, hts, hK, hlk⟩ := id C
  replace hl : lv_has ls 2 [(0, .ref (q 0)), (1, .int x1)] := hl
  rw [f_X0_canRemind] at hf
  refine lv_aload_n (pc := 0) hx hb dX0_canRemind_0 rfl (lv_at hl 0 rfl) ?_
  refine g_get (pc := 1) (v := .int (σ 12 0)) C h.1 0 (eW_c0 _ _ _) fl_X0_109 rfl dX0_canRemind_1 ?_
  refine lv_if_le (pc := 4) (tgt := 34) hx hb dX0_canRemind_4 (by decide) (fun c9 => ?_) (fun c9 => ?_)
  · have hf := ifT c9 hf
    refine lv_iconst (pc := 34) (v := 0) hx hb dX0_canRemind_34 (by decide) ?_
    have hf : (0 : Int32) = z := hf
    subst hf
    exact ret_zR (pc := 35) C hr nb0 h dX0_canRemind_35
  · have hf := ifF c9 hf
    refine lv_aload_n (pc := 7) hx hb dX0_canRemind_7 rfl (lv_at hl 0 rfl) ?_
    refine g_get (pc := 8) (v := .int (σ 16 0)) C h.1 0 (eW_c0 _ _ _) fl_X0_84 rfl dX0_canRemind_8 ?_
    refine lv_iload_n (pc := 11) hx hb dX0_canRemind_11 rfl (lv_at hl 1 rfl) ?_
    refine call_hasR (pc := 12) (rest := []) C h (k_X4_has (σ 16 0) x1 rfl) hw_has hl.1 (Nat.le_of_ble_eq_true rfl) dX0_canRemind_12 ⟨Nat.le_of_ble_eq_true rfl, Nat.le_of_ble_eq_true rfl⟩ rfl rfl ⟨Nat.le_of_ble_eq_true rfl, Nat.le_of_ble_eq_true rfl⟩ (fun H locs h => ?_)
    refine W.eq (g2 := F0 m 15 ls [.int (f_X4_has (σ 16 0) x1)]) rfl ?_
    refine lv_if_eq (pc := 15) (tgt := 34) hx hb dX0_canRemind_15 (by decide) (fun c9 => ?_) (fun c9 => ?_)
    · have hf := ifT c9 hf
      refine lv_iconst (pc := 34) (v := 0) hx hb dX0_canRemind_34 (by decide) ?_
      have hf : (0 : Int32) = z := hf
      subst hf
      exact ret_zR (pc := 35) C hr nb0 h dX0_canRemind_35
    · have hf := ifF c9 hf
      refine lv_aload_n (pc := 18) hx hb dX0_canRemind_18 rfl (lv_at hl 0 rfl) ?_
      refine g_get (pc := 19) (v := .ref (q 5)) C h.1 0 (eW_c0 _ _ _) fl_X0_29 rfl dX0_canRemind_19 ?_
      refine lv_iload_n (pc := 22) hx hb dX0_canRemind_22 rfl (lv_at hl 1 rfl) ?_
      refine call_rgetR (pc := 23) (rest := []) C h (by decide) (by decide) (eW_c5 _ _ _) (eW_c10 _ _ _) cw_X0_50 hl.1 (Nat.le_of_ble_eq_true rfl) dX0_canRemind_23 ⟨Nat.le_of_ble_eq_true rfl, Nat.le_of_ble_eq_true rfl⟩ rfl rfl ⟨Nat.le_of_ble_eq_true rfl, Nat.le_of_ble_eq_true rfl⟩ (fun H locs h => ?_)
      refine lv_iconst (pc := 26) (v := 5) hx hb dX0_canRemind_26 (by decide) ?_
      refine lv_icmp_ge (pc := 27) (tgt := 34) hx hb dX0_canRemind_27 (by decide) (fun c9 => ?_) (fun c9 => ?_)
      · have hf := ifT c9 hf
        refine lv_iconst (pc := 34) (v := 0) hx hb dX0_canRemind_34 (by decide) ?_
        have hf : (0 : Int32) = z := hf
        subst hf
        exact ret_zR (pc := 35) C hr nb0 h dX0_canRemind_35
      · have hf := ifF c9 hf
        refine lv_iconst (pc := 30) (v := 1) hx hb dX0_canRemind_30 (by decide) ?_
        refine lv_goto (pc := 31) (tgt := 35) hx hb dX0_canRemind_31 (by decide) ?_
        have hf : (1 : Int32) = z := hf
        subst hf
        exact ret_zR (pc := 35) C hr nb1 h dX0_canRemind_35
theorem nb_X0_canRemind {σ : Nat → Nat → Int32} {x1 : Int32} {z : Int32} (hf : f_X0_canRemind σ x1 = z) : narrow .boolean (.int z) = .int z := by
  rw [f_X0_canRemind] at hf
  by_cases c9 : (σ 12 0) ≤ 0
  · have hf := ifT c9 hf
    have hf : ((0 : Int32)) = z := hf
    subst hf
    exact nb0
  · have hf := ifF c9 hf
    by_cases c9 : (f_X4_has (σ 16 0) x1) = 0
    · have hf := ifT c9 hf
      have hf : ((0 : Int32)) = z := hf
      subst hf
      exact nb0
    · have hf := ifF c9 hf
      by_cases c9 : (5 : Int32) ≤ (rg 8 (σ 4) x1)
      · have hf := ifT c9 hf
        have hf : ((0 : Int32)) = z := hf
        subst hf
        exact nb0
      · have hf := ifF c9 hf
        have hf : ((1 : Int32)) = z := hf
        subst hf
        exact nb1
abbrev rm_X0_daysToPace : Room := { frames := 1, cells := 0, slots := 0, locals := 21 }
def f_X0_daysToPace (σ : Nat → Nat → Int32) (x1 x2 : Int32) : Option (Int32) := (if 0 < (σ 12 0) then if ¬ (σ 12 0) = 0 then (some ((σ 12 0) - ((x2 - (rg 8 (σ 3) x1)) - (x2 - (rg 8 (σ 3) x1)) / (σ 12 0) * (σ 12 0)))) else none else (some (0 : Int32)))
set_option maxHeartbeats 400000 in
set_option maxRecDepth 100000 in
theorem k_X0_daysToPace {q : Nat → Nat} {cA : Nat → ClassId} {D : va_G} (σ : Nat → Nat → Int32) (x1 x2 : Int32) {z : Int32} (hf : f_X0_daysToPace σ x1 x2 = some z) : CtR yX0_daysToPace cX0_daysToPace 3 (some .int) rm_X0_daysToPace [.ref (q 0), .int x1, .int x2] D cA (eW q cA σ) (some (.int z)) 0 0 := by
  refine ctR_of (by decide) (Nat.le_of_ble_eq_true rfl) ?_
  intro p l e s m below meth c ls C hr hnm h hl
  have C : Cx p s m _ meth c cX0_daysToPace 3 RX0 D cA := C
  obtain ⟨hx, hb, hml, hown, hts, hK, hlk⟩ := id C
  replace hl : lv_has ls 3 [(0, .ref (q 0)), (1, .int x1), (2, .int x2)] := hl
  rw [f_X0_daysToPace] at hf
  refine lv_aload_n (pc := 0) hx hb dX0_daysToPace_0 rfl (lv_at hl 0 rfl) ?_
  refine g_get (pc := 1) (v := .int (σ 12 0)) C h.1 0 (eW_c0 _ _ _) fl_X0_109 rfl dX0_daysToPace_1 ?_
  refine lv_if_gt (pc := 4) (tgt := 11) hx hb dX0_daysToPace_4 (by decide) (fun c9 => ?_) (fun c9 => ?_)
  · have hf := ifT c9 hf
    refine lv_aload_n (pc := 11) hx hb dX0_daysToPace_11 rfl (lv_at hl 0 rfl) ?_
    refine g_get (pc := 12) (v := .int (σ 12 0)) C h.1 0 (eW_c0 _ _ _) fl_X0_109 rfl dX0_daysToPace_12 ?_
    refine lv_iload_n (pc := 15) hx hb dX0_daysToPace_15 rfl (lv_at hl 2 rfl) ?_
    refine lv_aload_n (pc := 16) hx hb dX0_daysToPace_16 rfl (lv_at hl 0 rfl) ?_
    refine g_get (pc := 17) (v := .ref (q 4)) C h.1 0 (eW_c0 _ _ _) fl_X0_26 rfl dX0_daysToPace_17 ?_
    refine lv_iload_n (pc := 20) hx hb dX0_daysToPace_20 rfl (lv_at hl 1 rfl) ?_
    refine call_rgetR (pc := 21) (rest := [.int x2, .int (σ 12 0)]) C h (by decide) (by decide) (eW_c4 _ _ _) (eW_c9 _ _ _) cw_X0_50 hl.1 (Nat.le_of_ble_eq_true rfl) dX0_daysToPace_21 ⟨Nat.le_of_ble_eq_true rfl, Nat.le_of_ble_eq_true rfl⟩ rfl rfl ⟨Nat.le_of_ble_eq_true rfl, Nat.le_of_ble_eq_true rfl⟩ (fun H locs h => ?_)
    refine lv_isub (pc := 24) hx hb dX0_daysToPace_24 ?_
    refine lv_aload_n (pc := 25) hx hb dX0_daysToPace_25 rfl (lv_at hl 0 rfl) ?_
    refine g_get (pc := 26) (v := .int (σ 12 0)) C h.1 0 (eW_c0 _ _ _) fl_X0_109 rfl dX0_daysToPace_26 ?_
    obtain ⟨hne, hf⟩ := ifS hf
    refine lv_irem (pc := 29) hx hb dX0_daysToPace_29 hne ?_
    refine lv_isub (pc := 30) hx hb dX0_daysToPace_30 ?_
    have hf : (some ((σ 12 0) - ((x2 - (rg 8 (σ 3) x1)) - (x2 - (rg 8 (σ 3) x1)) / (σ 12 0) * (σ 12 0)))) = some z := hf
    cases hf
    exact ret_iR (pc := 31) C hr h dX0_daysToPace_31
  · have hf := ifF c9 hf
    refine lv_iconst (pc := 7) (v := 0) hx hb dX0_daysToPace_7 (by decide) ?_
    refine lv_goto (pc := 8) (tgt := 31) hx hb dX0_daysToPace_8 (by decide) ?_
    have hf : (some (0 : Int32)) = some z := hf
    cases hf
    exact ret_iR (pc := 31) C hr h dX0_daysToPace_31
abbrev rm_X0_remind : Room := { frames := 2, cells := 0, slots := 0, locals := 46 }
def f_X0_remind_4 : Nat → (Nat → Nat → Int32) → Int32 → Int32 → Int32 → Option ((Nat → Nat → Int32) × Int32 × Int32)
  | 0, _, _, _, _ => none
  | n + 1, σ, x1, x2, x3 => (if (σ 10 0) ≤ x3 then some (σ, x2, x3) else (if (f_X0_canRemind σ x3) = 0 then (f_X0_remind_4 n σ x1 x2 (x3 + (1 : Int32))) else ((f_X0_daysToPace σ x3 x1).bind fun z1 => (if z1 = (σ 12 0) then (lt (va_up σ 4 (rs 8 (σ 4) x3 ((rg 8 (σ 4) x3) + (1 : Int32)))) fun t2 => (lt (hp t2 (f_X1_add (hs t2) (6 : Int32) (rg 8 (t2 0) x3) x3 x1)) fun t3 => (f_X0_remind_4 n t3 x1 (x2 + (1 : Int32)) (x3 + (1 : Int32))))) else (f_X0_remind_4 n σ x1 x2 (x3 + (1 : Int32)))))))
def f_X0_remind (σ : Nat → Nat → Int32) (x1 : Int32) : Option (Int32 × (Nat → Nat → Int32)) := ((f_X0_remind_4 FU σ x1 (0 : Int32) (0 : Int32)).bind fun z1 => (some (z1.2.1, z1.1)))
set_option maxHeartbeats 400000 in
set_option maxRecDepth 100000 in
theorem l_X0_remind_4 (C : Cx p s m args meth c cX0_remind 4 RX0 D cA) : ∀ (n : Nat) (σ : Nat → Nat → Int32) (x1 x2 x3 : Int32) (z : (Nat → Nat → Int32) × Int32 × Int32), f_X0_remind_4 n σ x1 x2 x3 = some z → ∀ (H : Heap) (locs : List Loc) (ls : Array Slot), St D A s.heap (eW q cA σ) H locs → lv_has ls 4 [(0, .ref (q 0)), (1, .int x1), (2, .int x2), (3, .int x3)] → (∀ (H : Heap) (locs : List Loc) (ls : Array Slot), St D A s.heap (eW q cA z.1) H locs → lv_has ls 4 [(0, .ref (q 0)), (1, .int x1), (2, .int z.2.1), (3, .int z.2.2)] → W p l e rm_X0_remind s m args below meth c H locs 0 0 Q (F0 m 79 ls [])) → W p l e rm_X0_remind s m args below meth c H locs 0 0 Q (F0 m 4 ls []) := by
  obtain ⟨hx, hb, hml, hown, hts, hK, hlk⟩ := id C
  intro n
  induction n with
  | zero => intro σ x1 x2 x3 z hf; rw [f_X0_remind_4] at hf; cases hf
  | succ n ih =>
    intro σ x1 x2 x3 z hf H locs ls h hl kk
    rw [f_X0_remind_4] at hf
    refine lv_iload_n (pc := 4) hx hb dX0_remind_4 rfl (lv_at hl 3 rfl) ?_
    refine lv_aload_n (pc := 5) hx hb dX0_remind_5 rfl (lv_at hl 0 rfl) ?_
    refine g_get (pc := 6) (v := .int (σ 10 0)) C h.1 0 (eW_c0 _ _ _) fl_X0_43 rfl dX0_remind_6 ?_
    refine lv_icmp_ge (pc := 9) (tgt := 79) hx hb dX0_remind_9 (by decide) (fun c9 => ?_) (fun c9 => ?_)
    · have hf := ifT c9 hf
      have hf : some (σ, x2, x3) = some z := hf
      cases hf
      exact kk _ _ _ h (lv_sub hl [0, 1, 2, 3] rfl)
    · have hf := ifF c9 hf
      refine lv_aload_n (pc := 12) hx hb dX0_remind_12 rfl (lv_at hl 0 rfl) ?_
      refine lv_iload_n (pc := 13) hx hb dX0_remind_13 rfl (lv_at hl 3 rfl) ?_
      refine call_VRs (pc := 14) (As := [.int x3]) (rest := []) C h (k_X0_canRemind σ x3 rfl) cw_X0_102 0 (eW_c0 _ _ _) rfl rfl rfl hl.1 (Nat.le_of_ble_eq_true rfl) dX0_remind_14 ⟨Nat.le_of_ble_eq_true rfl, Nat.le_of_ble_eq_true rfl⟩ rfl rfl ⟨Nat.le_of_ble_eq_true rfl, Nat.le_of_ble_eq_true rfl⟩ (fun H locs h => ?_)
      refine W.eq (g2 := F0 m 17 ls [.int (f_X0_canRemind σ x3)]) rfl ?_
      refine lv_if_eq (pc := 17) (tgt := 73) hx hb dX0_remind_17 (by decide) (fun c9 => ?_) (fun c9 => ?_)
      · have hf := ifT c9 hf
        refine lv_iinc (pc := 73) (v := (x3 + (1 : Int32))) (lv' := [(3, .int (x3 + (1 : Int32))), (0, .ref (q 0)), (1, .int x1), (2, .int x2)]) hx hb dX0_remind_73 hl (k := 3) rfl rfl (by decide) rfl (fun ls hl => ?_)
        refine lv_goto (pc := 76) (tgt := 4) hx hb dX0_remind_76 (by decide) ?_
        exact ih _ _ _ _ _ hf _ _ _ h (lv_sub hl [1, 2, 3, 0] rfl) kk
      · have hf := ifF c9 hf
        refine lv_aload_n (pc := 20) hx hb dX0_remind_20 rfl (lv_at hl 0 rfl) ?_
        refine lv_iload_n (pc := 21) hx hb dX0_remind_21 rfl (lv_at hl 3 rfl) ?_
        refine lv_iload_n (pc := 22) hx hb dX0_remind_22 rfl (lv_at hl 1 rfl) ?_
        obtain ⟨z1, hc1, hf⟩ := bdS hf
        refine call_VRs (pc := 23) (As := [.int x3, .int x1]) (rest := []) C h (k_X0_daysToPace σ x3 x1 hc1) cw_X0_106 0 (eW_c0 _ _ _) rfl rfl rfl hl.1 (Nat.le_of_ble_eq_true rfl) dX0_remind_23 ⟨Nat.le_of_ble_eq_true rfl, Nat.le_of_ble_eq_true rfl⟩ rfl rfl ⟨Nat.le_of_ble_eq_true rfl, Nat.le_of_ble_eq_true rfl⟩ (fun H locs h => ?_)
        refine W.eq (g2 := F0 m 26 ls [.int z1]) rfl ?_
        refine lv_aload_n (pc := 26) hx hb dX0_remind_26 rfl (lv_at hl 0 rfl) ?_
        refine g_get (pc := 27) (v := .int (σ 12 0)) C h.1 0 (eW_c0 _ _ _) fl_X0_109 rfl dX0_remind_27 ?_
        refine lv_icmp_ne (pc := 30) (tgt := 73) hx hb dX0_remind_30 (by decide) (fun c9 => ?_) (fun c9 => ?_)
        · have hf := ifF c9 hf
          refine lv_iinc (pc := 73) (v := (x3 + (1 : Int32))) (lv' := [(3, .int (x3 + (1 : Int32))), (0, .ref (q 0)), (1, .int x1), (2, .int x2)]) hx hb dX0_remind_73 hl (k := 3) rfl rfl (by decide) rfl (fun ls hl => ?_)
          refine lv_goto (pc := 76) (tgt := 4) hx hb dX0_remind_76 (by decide) ?_
          exact ih _ _ _ _ _ hf _ _ _ h (lv_sub hl [1, 2, 3, 0] rfl) kk
        · have hf := ifT c9 hf
          refine lv_aload_n (pc := 33) hx hb dX0_remind_33 rfl (lv_at hl 0 rfl) ?_
          refine g_get (pc := 34) (v := .ref (q 5)) C h.1 0 (eW_c0 _ _ _) fl_X0_29 rfl dX0_remind_34 ?_
          refine lv_iload_n (pc := 37) hx hb dX0_remind_37 rfl (lv_at hl 3 rfl) ?_
          refine lv_aload_n (pc := 38) hx hb dX0_remind_38 rfl (lv_at hl 0 rfl) ?_
          refine g_get (pc := 39) (v := .ref (q 5)) C h.1 0 (eW_c0 _ _ _) fl_X0_29 rfl dX0_remind_39 ?_
          refine lv_iload_n (pc := 42) hx hb dX0_remind_42 rfl (lv_at hl 3 rfl) ?_
          refine call_rget (pc := 43) (rest := [.int x3, .ref (q 5)]) C h (by decide) (by decide) (eW_c5 _ _ _) (eW_c10 _ _ _) cw_X0_50 hl.1 (Nat.le_of_ble_eq_true rfl) dX0_remind_43 ⟨Nat.le_of_ble_eq_true rfl, Nat.le_of_ble_eq_true rfl⟩ rfl rfl ⟨Nat.le_of_ble_eq_true rfl, Nat.le_of_ble_eq_true rfl⟩ (fun H locs h => ?_)
          refine lv_iconst (pc := 46) (v := 1) hx hb dX0_remind_46 (by decide) ?_
          refine lv_iadd (pc := 47) hx hb dX0_remind_47 ?_
          obtain ⟨t2, et2, hf⟩ := ltS hf
          refine call_rset (pc := 48) (rest := []) (ws' := (eW q cA t2)) C h (by decide) (by decide) (eW_c5 _ _ _) (eW_c10 _ _ _) ((eW_w10 _ _ _ _).trans (congrArg (eW q cA) et2.symm)) cw_X0_60 hl.1 (Nat.le_of_ble_eq_true rfl) dX0_remind_48 ⟨Nat.le_of_ble_eq_true rfl, Nat.le_of_ble_eq_true rfl⟩ rfl rfl ⟨Nat.le_of_ble_eq_true rfl, Nat.le_of_ble_eq_true rfl⟩ (fun H locs h => ?_)
          refine lv_aload_n (pc := 51) hx hb dX0_remind_51 rfl (lv_at hl 0 rfl) ?_
          refine g_get (pc := 52) (v := .ref (q 11)) C h.1 0 (eW_c0 _ _ _) fl_X0_35 rfl dX0_remind_52 ?_
          refine lv_bipush (pc := 55) (v := 6) hx hb dX0_remind_55 (by decide) ?_
          refine lv_aload_n (pc := 57) hx hb dX0_remind_57 rfl (lv_at hl 0 rfl) ?_
          refine g_get (pc := 58) (v := .ref (q 1)) C h.1 0 (eW_c0 _ _ _) fl_X0_14 rfl dX0_remind_58 ?_
          refine lv_iload_n (pc := 61) hx hb dX0_remind_61 rfl (lv_at hl 3 rfl) ?_
          refine call_rget (pc := 62) (rest := [.int (6 : Int32), .ref (q 11)]) C h (by decide) (by decide) (eW_c1 _ _ _) (eW_c6 _ _ _) cw_X0_50 hl.1 (Nat.le_of_ble_eq_true rfl) dX0_remind_62 ⟨Nat.le_of_ble_eq_true rfl, Nat.le_of_ble_eq_true rfl⟩ rfl rfl ⟨Nat.le_of_ble_eq_true rfl, Nat.le_of_ble_eq_true rfl⟩ (fun H locs h => ?_)
          refine lv_iload_n (pc := 65) hx hb dX0_remind_65 rfl (lv_at hl 3 rfl) ?_
          refine lv_iload_n (pc := 66) hx hb dX0_remind_66 rfl (lv_at hl 1 rfl) ?_
          obtain ⟨t3, et3, hf⟩ := ltS hf
          refine call_VU (pc := 67) (As := [.int (6 : Int32), .int (rg 8 (t2 0) x3), .int x3, .int x1]) (rest := []) (ws' := (eW q cA t3)) C h (k_X1_add (q := fun i => q (i + 11)) (hs t2) (6 : Int32) (rg 8 (t2 0) x3) x3 x1 rfl) cw_X0_74 11 (eW_c11 _ _ _) rfl [11, 12, 13, 14, 15, 16, 17, 18, 19] (eW_hs _ _ _) (by decide) (hW_fst _ _ _ _) ((eW_hp _ _ _ _).trans (congrArg (eW q cA) et3.symm)) rfl rfl hl.1 (Nat.le_of_ble_eq_true rfl) dX0_remind_67 ⟨Nat.le_of_ble_eq_true rfl, Nat.le_of_ble_eq_true rfl⟩ rfl rfl ⟨Nat.le_of_ble_eq_true rfl, Nat.le_of_ble_eq_true rfl⟩ (fun H locs h => ?_)
          refine W.eq (g2 := F0 m 70 ls []) rfl ?_
          refine lv_iinc (pc := 70) (v := (x2 + (1 : Int32))) (lv' := [(2, .int (x2 + (1 : Int32))), (0, .ref (q 0)), (1, .int x1), (3, .int x3)]) hx hb dX0_remind_70 hl (k := 2) rfl rfl (by decide) rfl (fun ls hl => ?_)
          refine lv_iinc (pc := 73) (v := (x3 + (1 : Int32))) (lv' := [(3, .int (x3 + (1 : Int32))), (2, .int (x2 + (1 : Int32))), (0, .ref (q 0)), (1, .int x1)]) hx hb dX0_remind_73 hl (k := 3) rfl rfl (by decide) rfl (fun ls hl => ?_)
          refine lv_goto (pc := 76) (tgt := 4) hx hb dX0_remind_76 (by decide) ?_
          exact ih _ _ _ _ _ hf _ _ _ h (lv_sub hl [2, 3, 1, 0] rfl) kk
set_option maxHeartbeats 400000 in
set_option maxRecDepth 100000 in
theorem k_X0_remind {q : Nat → Nat} {cA : Nat → ClassId} {D : va_G} (σ : Nat → Nat → Int32) (x1 : Int32) {z : Int32 × (Nat → Nat → Int32)} (hf : f_X0_remind σ x1 = some z) : CtU yX0_remind cX0_remind 4 (some .int) rm_X0_remind [.ref (q 0), .int x1] D cA (eW q cA σ) (eW q cA z.2) (some (.int z.1)) 0 0 := by
  refine ctU_of (by decide) (Nat.le_of_ble_eq_true rfl) ?_
  intro p l e s m below meth c ls C hr hnm h hl
  have C : Cx p s m _ meth c cX0_remind 4 RX0 D cA := C
  obtain ⟨hx, hb, hml, hown, hts, hK, hlk⟩ := id C
  replace hl : lv_has ls 4 [(0, .ref (q 0)), (1, .int x1)] := hl
  rw [f_X0_remind] at hf
  refine lv_iconst (pc := 0) (v := 0) hx hb dX0_remind_0 (by decide) ?_
  refine lv_istore_n (pc := 1) (lv' := [(2, .int (0 : Int32)), (0, .ref (q 0)), (1, .int x1)]) hx hb dX0_remind_1 rfl hl (by decide) rfl (fun ls hl => ?_)
  refine lv_iconst (pc := 2) (v := 0) hx hb dX0_remind_2 (by decide) ?_
  refine lv_istore_n (pc := 3) (lv' := [(3, .int (0 : Int32)), (2, .int (0 : Int32)), (0, .ref (q 0)), (1, .int x1)]) hx hb dX0_remind_3 rfl hl (by decide) rfl (fun ls hl => ?_)
  obtain ⟨z1, hc1, hf⟩ := bdS hf
  refine l_X0_remind_4 C _ _ _ _ _ _ hc1 _ _ _ h (lv_sub hl [2, 3, 1, 0] rfl) (fun H locs ls h hl => ?_)
  refine lv_iload_n (pc := 79) hx hb dX0_remind_79 rfl (lv_at hl 2 rfl) ?_
  have hf : (some (z1.2.1, z1.1)) = some z := hf
  cases hf
  exact ret_iU (pc := 80) C hr h dX0_remind_80
abbrev rm_X0_meetDay : Room := { frames := 3, cells := 0, slots := 0, locals := 71 }
def f_X0_meetDay (σ : Nat → Nat → Int32) (x1 : Int32) : Option (Int32 × (Nat → Nat → Int32)) := (if (σ 11 0) = (1 : Int32) then (if (σ 13 0) ≤ 0 then ((f_X0_remind σ x1).bind fun z1 => (some (z1.1, z1.2))) else (if x1 = ((σ 14 0) + (σ 13 0)) then (some ((0 : Int32), (f_X0_finish σ (5 : Int32) (5 : Int32) (-1 : Int32) (-1 : Int32) x1).2)) else ((f_X0_remind σ x1).bind fun z1 => (some (z1.1, z1.2))))) else (some ((0 : Int32), σ)))
set_option maxHeartbeats 400000 in
set_option maxRecDepth 100000 in
theorem k_X0_meetDay {q : Nat → Nat} {cA : Nat → ClassId} {D : va_G} (σ : Nat → Nat → Int32) (x1 : Int32) {z : Int32 × (Nat → Nat → Int32)} (hf : f_X0_meetDay σ x1 = some z) : CtU yX0_meetDay cX0_meetDay 2 (some .int) rm_X0_meetDay [.ref (q 0), .int x1] D cA (eW q cA σ) (eW q cA z.2) (some (.int z.1)) 0 0 := by
  refine ctU_of (by decide) (Nat.le_of_ble_eq_true rfl) ?_
  intro p l e s m below meth c ls C hr hnm h hl
  have C : Cx p s m _ meth c cX0_meetDay 2 RX0 D cA := C
  obtain ⟨hx, hb, hml, hown, hts, hK, hlk⟩ := id C
  replace hl : lv_has ls 2 [(0, .ref (q 0)), (1, .int x1)] := hl
  rw [f_X0_meetDay] at hf
  refine lv_aload_n (pc := 0) hx hb dX0_meetDay_0 rfl (lv_at hl 0 rfl) ?_
  refine g_get (pc := 1) (v := .int (σ 11 0)) C h.1 0 (eW_c0 _ _ _) fl_X0_39 rfl dX0_meetDay_1 ?_
  refine lv_iconst (pc := 4) (v := 1) hx hb dX0_meetDay_4 (by decide) ?_
  refine lv_icmp_eq (pc := 5) (tgt := 10) hx hb dX0_meetDay_5 (by decide) (fun c9 => ?_) (fun c9 => ?_)
  · have hf := ifT c9 hf
    refine lv_aload_n (pc := 10) hx hb dX0_meetDay_10 rfl (lv_at hl 0 rfl) ?_
    refine g_get (pc := 11) (v := .int (σ 13 0)) C h.1 0 (eW_c0 _ _ _) fl_X0_92 rfl dX0_meetDay_11 ?_
    refine lv_if_le (pc := 14) (tgt := 42) hx hb dX0_meetDay_14 (by decide) (fun c9 => ?_) (fun c9 => ?_)
    · have hf := ifT c9 hf
      refine lv_aload_n (pc := 42) hx hb dX0_meetDay_42 rfl (lv_at hl 0 rfl) ?_
      refine lv_iload_n (pc := 43) hx hb dX0_meetDay_43 rfl (lv_at hl 1 rfl) ?_
      obtain ⟨z1, hc1, hf⟩ := bdS hf
      refine call_VUs (pc := 44) (As := [.int x1]) (rest := []) C h (k_X0_remind σ x1 hc1) cw_X0_99 0 (eW_c0 _ _ _) rfl (eW_fst _ _ _ _) rfl rfl hl.1 (Nat.le_of_ble_eq_true rfl) dX0_meetDay_44 ⟨Nat.le_of_ble_eq_true rfl, Nat.le_of_ble_eq_true rfl⟩ rfl rfl ⟨Nat.le_of_ble_eq_true rfl, Nat.le_of_ble_eq_true rfl⟩ (fun H locs h => ?_)
      refine W.eq (g2 := F0 m 47 ls [.int z1.1]) rfl ?_
      have hf : (some (z1.1, z1.2)) = some z := hf
      cases hf
      exact ret_iU (pc := 47) C hr h dX0_meetDay_47
    · have hf := ifF c9 hf
      refine lv_iload_n (pc := 17) hx hb dX0_meetDay_17 rfl (lv_at hl 1 rfl) ?_
      refine lv_aload_n (pc := 18) hx hb dX0_meetDay_18 rfl (lv_at hl 0 rfl) ?_
      refine g_get (pc := 19) (v := .int (σ 14 0)) C h.1 0 (eW_c0 _ _ _) fl_X0_71 rfl dX0_meetDay_19 ?_
      refine lv_aload_n (pc := 22) hx hb dX0_meetDay_22 rfl (lv_at hl 0 rfl) ?_
      refine g_get (pc := 23) (v := .int (σ 13 0)) C h.1 0 (eW_c0 _ _ _) fl_X0_92 rfl dX0_meetDay_23 ?_
      refine lv_iadd (pc := 26) hx hb dX0_meetDay_26 ?_
      refine lv_icmp_ne (pc := 27) (tgt := 42) hx hb dX0_meetDay_27 (by decide) (fun c9 => ?_) (fun c9 => ?_)
      · have hf := ifF c9 hf
        refine lv_aload_n (pc := 42) hx hb dX0_meetDay_42 rfl (lv_at hl 0 rfl) ?_
        refine lv_iload_n (pc := 43) hx hb dX0_meetDay_43 rfl (lv_at hl 1 rfl) ?_
        obtain ⟨z1, hc1, hf⟩ := bdS hf
        refine call_VUs (pc := 44) (As := [.int x1]) (rest := []) C h (k_X0_remind σ x1 hc1) cw_X0_99 0 (eW_c0 _ _ _) rfl (eW_fst _ _ _ _) rfl rfl hl.1 (Nat.le_of_ble_eq_true rfl) dX0_meetDay_44 ⟨Nat.le_of_ble_eq_true rfl, Nat.le_of_ble_eq_true rfl⟩ rfl rfl ⟨Nat.le_of_ble_eq_true rfl, Nat.le_of_ble_eq_true rfl⟩ (fun H locs h => ?_)
        refine W.eq (g2 := F0 m 47 ls [.int z1.1]) rfl ?_
        have hf : (some (z1.1, z1.2)) = some z := hf
        cases hf
        exact ret_iU (pc := 47) C hr h dX0_meetDay_47
      · have hf := ifT c9 hf
        refine lv_aload_n (pc := 30) hx hb dX0_meetDay_30 rfl (lv_at hl 0 rfl) ?_
        refine lv_iconst (pc := 31) (v := 5) hx hb dX0_meetDay_31 (by decide) ?_
        refine lv_iconst (pc := 32) (v := 5) hx hb dX0_meetDay_32 (by decide) ?_
        refine lv_iconst (pc := 33) (v := -1) hx hb dX0_meetDay_33 (by decide) ?_
        refine lv_iconst (pc := 34) (v := -1) hx hb dX0_meetDay_34 (by decide) ?_
        refine lv_iload_n (pc := 35) hx hb dX0_meetDay_35 rfl (lv_at hl 1 rfl) ?_
        refine call_VUs (pc := 36) (As := [.int (5 : Int32), .int (5 : Int32), .int (-1 : Int32), .int (-1 : Int32), .int x1]) (rest := []) C h (k_X0_finish σ (5 : Int32) (5 : Int32) (-1 : Int32) (-1 : Int32) x1 rfl) cw_X0_95 0 (eW_c0 _ _ _) rfl (eW_fst _ _ _ _) rfl rfl hl.1 (Nat.le_of_ble_eq_true rfl) dX0_meetDay_36 ⟨Nat.le_of_ble_eq_true rfl, Nat.le_of_ble_eq_true rfl⟩ rfl rfl ⟨Nat.le_of_ble_eq_true rfl, Nat.le_of_ble_eq_true rfl⟩ (fun H locs h => ?_)
        refine W.eq (g2 := F0 m 39 ls [.int (f_X0_finish σ (5 : Int32) (5 : Int32) (-1 : Int32) (-1 : Int32) x1).1]) rfl ?_
        refine lv_pop (pc := 39) hx hb dX0_meetDay_39 rfl ?_
        refine lv_iconst (pc := 40) (v := 0) hx hb dX0_meetDay_40 (by decide) ?_
        have hf : (some ((0 : Int32), (f_X0_finish σ (5 : Int32) (5 : Int32) (-1 : Int32) (-1 : Int32) x1).2)) = some z := hf
        cases hf
        exact ret_iU (pc := 41) C hr h dX0_meetDay_41
  · have hf := ifF c9 hf
    refine lv_iconst (pc := 8) (v := 0) hx hb dX0_meetDay_8 (by decide) ?_
    have hf : (some ((0 : Int32), σ)) = some z := hf
    cases hf
    exact ret_iU (pc := 9) C hr h dX0_meetDay_9
abbrev rm_X0_reminderBehind : Room := { frames := 2, cells := 0, slots := 0, locals := 43 }
def f_X0_reminderBehind_4 : Nat → (Nat → Nat → Int32) → Int32 → Int32 → Int32 → Option (Int32 × Int32)
  | 0, _, _, _, _ => none
  | n + 1, σ, x1, x2, x3 => (if (σ 10 0) ≤ x3 then some (x2, x3) else (if (f_X0_canRemind σ x3) = 0 then (f_X0_reminderBehind_4 n σ x1 x2 (x3 + (1 : Int32))) else ((f_X0_daysToPace σ x3 x1).bind fun z1 => (if x2 = (-1 : Int32) then (f_X0_reminderBehind_4 n σ x1 (x1 + z1) (x3 + (1 : Int32))) else (f_X0_reminderBehind_4 n σ x1 (mn x2 (x1 + z1)) (x3 + (1 : Int32)))))))
def f_X0_reminderBehind (σ : Nat → Nat → Int32) (x1 : Int32) : Option (Int32) := ((f_X0_reminderBehind_4 FU σ x1 (-1 : Int32) (0 : Int32)).bind fun z1 => (some z1.1))
set_option maxHeartbeats 400000 in
set_option maxRecDepth 100000 in
theorem l_X0_reminderBehind_4 (C : Cx p s m args meth c cX0_reminderBehind 5 RX0 D cA) : ∀ (n : Nat) (σ : Nat → Nat → Int32) (x1 x2 x3 : Int32) (z : Int32 × Int32), f_X0_reminderBehind_4 n σ x1 x2 x3 = some z → ∀ (H : Heap) (locs : List Loc) (ls : Array Slot), SR D s.heap (eW q cA σ) H locs → lv_has ls 5 [(0, .ref (q 0)), (1, .int x1), (2, .int x2), (3, .int x3)] → (∀ (H : Heap) (locs : List Loc) (ls : Array Slot), SR D s.heap (eW q cA σ) H locs → lv_has ls 5 [(0, .ref (q 0)), (1, .int x1), (2, .int z.1), (3, .int z.2)] → W p l e rm_X0_reminderBehind s m args below meth c H locs 0 0 Q (F0 m 53 ls [])) → W p l e rm_X0_reminderBehind s m args below meth c H locs 0 0 Q (F0 m 4 ls []) := by
  obtain ⟨hx, hb, hml, hown, hts, hK, hlk⟩ := id C
  intro n
  induction n with
  | zero => intro σ x1 x2 x3 z hf; rw [f_X0_reminderBehind_4] at hf; cases hf
  | succ n ih =>
    intro σ x1 x2 x3 z hf H locs ls h hl kk
    rw [f_X0_reminderBehind_4] at hf
    refine lv_iload_n (pc := 4) hx hb dX0_reminderBehind_4 rfl (lv_at hl 3 rfl) ?_
    refine lv_aload_n (pc := 5) hx hb dX0_reminderBehind_5 rfl (lv_at hl 0 rfl) ?_
    refine g_get (pc := 6) (v := .int (σ 10 0)) C h.1 0 (eW_c0 _ _ _) fl_X0_43 rfl dX0_reminderBehind_6 ?_
    refine lv_icmp_ge (pc := 9) (tgt := 53) hx hb dX0_reminderBehind_9 (by decide) (fun c9 => ?_) (fun c9 => ?_)
    · have hf := ifT c9 hf
      have hf : some (x2, x3) = some z := hf
      cases hf
      exact kk _ _ _ h (lv_sub hl [0, 1, 2, 3] rfl)
    · have hf := ifF c9 hf
      refine lv_aload_n (pc := 12) hx hb dX0_reminderBehind_12 rfl (lv_at hl 0 rfl) ?_
      refine lv_iload_n (pc := 13) hx hb dX0_reminderBehind_13 rfl (lv_at hl 3 rfl) ?_
      refine call_VRsR (pc := 14) (As := [.int x3]) (rest := []) C h (k_X0_canRemind σ x3 rfl) cw_X0_102 0 (eW_c0 _ _ _) rfl rfl rfl hl.1 (Nat.le_of_ble_eq_true rfl) dX0_reminderBehind_14 ⟨Nat.le_of_ble_eq_true rfl, Nat.le_of_ble_eq_true rfl⟩ rfl rfl ⟨Nat.le_of_ble_eq_true rfl, Nat.le_of_ble_eq_true rfl⟩ (fun H locs h => ?_)
      refine W.eq (g2 := F0 m 17 ls [.int (f_X0_canRemind σ x3)]) rfl ?_
      refine lv_if_eq (pc := 17) (tgt := 47) hx hb dX0_reminderBehind_17 (by decide) (fun c9 => ?_) (fun c9 => ?_)
      · have hf := ifT c9 hf
        refine lv_iinc (pc := 47) (v := (x3 + (1 : Int32))) (lv' := [(3, .int (x3 + (1 : Int32))), (0, .ref (q 0)), (1, .int x1), (2, .int x2)]) hx hb dX0_reminderBehind_47 hl (k := 3) rfl rfl (by decide) rfl (fun ls hl => ?_)
        refine lv_goto (pc := 50) (tgt := 4) hx hb dX0_reminderBehind_50 (by decide) ?_
        exact ih _ _ _ _ _ hf _ _ _ h (lv_sub hl [1, 2, 3, 0] rfl) kk
      · have hf := ifF c9 hf
        refine lv_iload_n (pc := 20) hx hb dX0_reminderBehind_20 rfl (lv_at hl 1 rfl) ?_
        refine lv_aload_n (pc := 21) hx hb dX0_reminderBehind_21 rfl (lv_at hl 0 rfl) ?_
        refine lv_iload_n (pc := 22) hx hb dX0_reminderBehind_22 rfl (lv_at hl 3 rfl) ?_
        refine lv_iload_n (pc := 23) hx hb dX0_reminderBehind_23 rfl (lv_at hl 1 rfl) ?_
        obtain ⟨z1, hc1, hf⟩ := bdS hf
        refine call_VRsR (pc := 24) (As := [.int x3, .int x1]) (rest := [.int x1]) C h (k_X0_daysToPace σ x3 x1 hc1) cw_X0_106 0 (eW_c0 _ _ _) rfl rfl rfl hl.1 (Nat.le_of_ble_eq_true rfl) dX0_reminderBehind_24 ⟨Nat.le_of_ble_eq_true rfl, Nat.le_of_ble_eq_true rfl⟩ rfl rfl ⟨Nat.le_of_ble_eq_true rfl, Nat.le_of_ble_eq_true rfl⟩ (fun H locs h => ?_)
        refine W.eq (g2 := F0 m 27 ls [.int z1, .int x1]) rfl ?_
        refine lv_iadd (pc := 27) hx hb dX0_reminderBehind_27 ?_
        refine lv_istore (pc := 28) (lv' := [(4, .int (x1 + z1)), (0, .ref (q 0)), (1, .int x1), (2, .int x2), (3, .int x3)]) hx hb dX0_reminderBehind_28 hl (by decide) rfl (fun ls hl => ?_)
        refine lv_iload_n (pc := 30) hx hb dX0_reminderBehind_30 rfl (lv_at hl 3 rfl) ?_
        refine lv_iconst (pc := 31) (v := -1) hx hb dX0_reminderBehind_31 (by decide) ?_
        refine lv_icmp_ne (pc := 32) (tgt := 40) hx hb dX0_reminderBehind_32 (by decide) (fun c9 => ?_) (fun c9 => ?_)
        · have hf := ifF c9 hf
          refine lv_iload_n (pc := 40) hx hb dX0_reminderBehind_40 rfl (lv_at hl 3 rfl) ?_
          refine lv_iload (pc := 41) hx hb dX0_reminderBehind_41 (lv_at hl 0 rfl) ?_
          refine g_mmin (pc := 43) (rest := []) C mw_min hl.1 (Nat.le_of_ble_eq_true rfl) (Nat.le_of_ble_eq_true rfl) (Nat.le_of_ble_eq_true rfl) (Nat.le_of_ble_eq_true rfl) dX0_reminderBehind_43 ?_
          refine lv_istore_n (pc := 46) (lv' := [(2, .int (mn x2 (x1 + z1))), (4, .int (x1 + z1)), (0, .ref (q 0)), (1, .int x1), (3, .int x3)]) hx hb dX0_reminderBehind_46 rfl hl (by decide) rfl (fun ls hl => ?_)
          refine lv_iinc (pc := 47) (v := (x3 + (1 : Int32))) (lv' := [(3, .int (x3 + (1 : Int32))), (2, .int (mn x2 (x1 + z1))), (4, .int (x1 + z1)), (0, .ref (q 0)), (1, .int x1)]) hx hb dX0_reminderBehind_47 hl (k := 4) rfl rfl (by decide) rfl (fun ls hl => ?_)
          refine lv_goto (pc := 50) (tgt := 4) hx hb dX0_reminderBehind_50 (by decide) ?_
          exact ih _ _ _ _ _ hf _ _ _ h (lv_sub hl [3, 4, 1, 0] rfl) kk
        · have hf := ifT c9 hf
          refine lv_iload (pc := 35) hx hb dX0_reminderBehind_35 (lv_at hl 0 rfl) ?_
          refine lv_goto (pc := 37) (tgt := 46) hx hb dX0_reminderBehind_37 (by decide) ?_
          refine lv_istore_n (pc := 46) (lv' := [(2, .int (x1 + z1)), (4, .int (x1 + z1)), (0, .ref (q 0)), (1, .int x1), (3, .int x3)]) hx hb dX0_reminderBehind_46 rfl hl (by decide) rfl (fun ls hl => ?_)
          refine lv_iinc (pc := 47) (v := (x3 + (1 : Int32))) (lv' := [(3, .int (x3 + (1 : Int32))), (2, .int (x1 + z1)), (4, .int (x1 + z1)), (0, .ref (q 0)), (1, .int x1)]) hx hb dX0_reminderBehind_47 hl (k := 4) rfl rfl (by decide) rfl (fun ls hl => ?_)
          refine lv_goto (pc := 50) (tgt := 4) hx hb dX0_reminderBehind_50 (by decide) ?_
          exact ih _ _ _ _ _ hf _ _ _ h (lv_sub hl [3, 4, 1, 0] rfl) kk
set_option maxHeartbeats 400000 in
set_option maxRecDepth 100000 in
theorem k_X0_reminderBehind {q : Nat → Nat} {cA : Nat → ClassId} {D : va_G} (σ : Nat → Nat → Int32) (x1 : Int32) {z : Int32} (hf : f_X0_reminderBehind σ x1 = some z) : CtR yX0_reminderBehind cX0_reminderBehind 5 (some .int) rm_X0_reminderBehind [.ref (q 0), .int x1] D cA (eW q cA σ) (some (.int z)) 0 0 := by
  refine ctR_of (by decide) (Nat.le_of_ble_eq_true rfl) ?_
  intro p l e s m below meth c ls C hr hnm h hl
  have C : Cx p s m _ meth c cX0_reminderBehind 5 RX0 D cA := C
  obtain ⟨hx, hb, hml, hown, hts, hK, hlk⟩ := id C
  replace hl : lv_has ls 5 [(0, .ref (q 0)), (1, .int x1)] := hl
  rw [f_X0_reminderBehind] at hf
  refine lv_iconst (pc := 0) (v := -1) hx hb dX0_reminderBehind_0 (by decide) ?_
  refine lv_istore_n (pc := 1) (lv' := [(2, .int (-1 : Int32)), (0, .ref (q 0)), (1, .int x1)]) hx hb dX0_reminderBehind_1 rfl hl (by decide) rfl (fun ls hl => ?_)
  refine lv_iconst (pc := 2) (v := 0) hx hb dX0_reminderBehind_2 (by decide) ?_
  refine lv_istore_n (pc := 3) (lv' := [(3, .int (0 : Int32)), (2, .int (-1 : Int32)), (0, .ref (q 0)), (1, .int x1)]) hx hb dX0_reminderBehind_3 rfl hl (by decide) rfl (fun ls hl => ?_)
  obtain ⟨z1, hc1, hf⟩ := bdS hf
  refine l_X0_reminderBehind_4 C _ _ _ _ _ _ hc1 _ _ _ h (lv_sub hl [2, 3, 1, 0] rfl) (fun H locs ls h hl => ?_)
  refine lv_iload_n (pc := 53) hx hb dX0_reminderBehind_53 rfl (lv_at hl 2 rfl) ?_
  have hf : (some z1.1) = some z := hf
  cases hf
  exact ret_iR (pc := 54) C hr h dX0_reminderBehind_54
abbrev rm_X0_stateOf : Room := { frames := 1, cells := 0, slots := 0, locals := 21 }
def f_X0_stateOf (σ : Nat → Nat → Int32) (x1 : Int32) : Int32 := (if (f_X4_has (σ 15 0) x1) = 0 then (if (f_X4_has (σ 16 0) x1) = 0 then (if (σ 11 0) = 0 then (0 : Int32) else (if (σ 11 0) = (1 : Int32) then (0 : Int32) else (3 : Int32))) else (1 : Int32)) else (2 : Int32))
set_option maxHeartbeats 400000 in
set_option maxRecDepth 100000 in
theorem k_X0_stateOf {q : Nat → Nat} {cA : Nat → ClassId} {D : va_G} (σ : Nat → Nat → Int32) (x1 : Int32) {z : Int32} (hf : f_X0_stateOf σ x1 = z) : CtR yX0_stateOf cX0_stateOf 2 (some .int) rm_X0_stateOf [.ref (q 0), .int x1] D cA (eW q cA σ) (some (.int z)) 0 0 := by
  refine ctR_of (by decide) (Nat.le_of_ble_eq_true rfl) ?_
  intro p l e s m below meth c ls C hr hnm h hl
  have C : Cx p s m _ meth c cX0_stateOf 2 RX0 D cA := C
  obtain ⟨hx, hb, hml, hown, hts, hK, hlk⟩ := id C
  replace hl : lv_has ls 2 [(0, .ref (q 0)), (1, .int x1)] := hl
  rw [f_X0_stateOf] at hf
  refine lv_aload_n (pc := 0) hx hb dX0_stateOf_0 rfl (lv_at hl 0 rfl) ?_
  refine g_get (pc := 1) (v := .int (σ 15 0)) C h.1 0 (eW_c0 _ _ _) fl_X0_81 rfl dX0_stateOf_1 ?_
  refine lv_iload_n (pc := 4) hx hb dX0_stateOf_4 rfl (lv_at hl 1 rfl) ?_
  refine call_hasR (pc := 5) (rest := []) C h (k_X4_has (σ 15 0) x1 rfl) hw_has hl.1 (Nat.le_of_ble_eq_true rfl) dX0_stateOf_5 ⟨Nat.le_of_ble_eq_true rfl, Nat.le_of_ble_eq_true rfl⟩ rfl rfl ⟨Nat.le_of_ble_eq_true rfl, Nat.le_of_ble_eq_true rfl⟩ (fun H locs h => ?_)
  refine W.eq (g2 := F0 m 8 ls [.int (f_X4_has (σ 15 0) x1)]) rfl ?_
  refine lv_if_eq (pc := 8) (tgt := 13) hx hb dX0_stateOf_8 (by decide) (fun c9 => ?_) (fun c9 => ?_)
  · have hf := ifT c9 hf
    refine lv_aload_n (pc := 13) hx hb dX0_stateOf_13 rfl (lv_at hl 0 rfl) ?_
    refine g_get (pc := 14) (v := .int (σ 16 0)) C h.1 0 (eW_c0 _ _ _) fl_X0_84 rfl dX0_stateOf_14 ?_
    refine lv_iload_n (pc := 17) hx hb dX0_stateOf_17 rfl (lv_at hl 1 rfl) ?_
    refine call_hasR (pc := 18) (rest := []) C h (k_X4_has (σ 16 0) x1 rfl) hw_has hl.1 (Nat.le_of_ble_eq_true rfl) dX0_stateOf_18 ⟨Nat.le_of_ble_eq_true rfl, Nat.le_of_ble_eq_true rfl⟩ rfl rfl ⟨Nat.le_of_ble_eq_true rfl, Nat.le_of_ble_eq_true rfl⟩ (fun H locs h => ?_)
    refine W.eq (g2 := F0 m 21 ls [.int (f_X4_has (σ 16 0) x1)]) rfl ?_
    refine lv_if_eq (pc := 21) (tgt := 26) hx hb dX0_stateOf_21 (by decide) (fun c9 => ?_) (fun c9 => ?_)
    · have hf := ifT c9 hf
      refine lv_aload_n (pc := 26) hx hb dX0_stateOf_26 rfl (lv_at hl 0 rfl) ?_
      refine g_get (pc := 27) (v := .int (σ 11 0)) C h.1 0 (eW_c0 _ _ _) fl_X0_39 rfl dX0_stateOf_27 ?_
      refine lv_if_eq (pc := 30) (tgt := 41) hx hb dX0_stateOf_30 (by decide) (fun c9 => ?_) (fun c9 => ?_)
      · have hf := ifT c9 hf
        refine lv_iconst (pc := 41) (v := 0) hx hb dX0_stateOf_41 (by decide) ?_
        refine lv_goto (pc := 42) (tgt := 46) hx hb dX0_stateOf_42 (by decide) ?_
        have hf : (0 : Int32) = z := hf
        subst hf
        exact ret_iR (pc := 46) C hr h dX0_stateOf_46
      · have hf := ifF c9 hf
        refine lv_aload_n (pc := 33) hx hb dX0_stateOf_33 rfl (lv_at hl 0 rfl) ?_
        refine g_get (pc := 34) (v := .int (σ 11 0)) C h.1 0 (eW_c0 _ _ _) fl_X0_39 rfl dX0_stateOf_34 ?_
        refine lv_iconst (pc := 37) (v := 1) hx hb dX0_stateOf_37 (by decide) ?_
        refine lv_icmp_ne (pc := 38) (tgt := 45) hx hb dX0_stateOf_38 (by decide) (fun c9 => ?_) (fun c9 => ?_)
        · have hf := ifF c9 hf
          refine lv_iconst (pc := 45) (v := 3) hx hb dX0_stateOf_45 (by decide) ?_
          have hf : (3 : Int32) = z := hf
          subst hf
          exact ret_iR (pc := 46) C hr h dX0_stateOf_46
        · have hf := ifT c9 hf
          refine lv_iconst (pc := 41) (v := 0) hx hb dX0_stateOf_41 (by decide) ?_
          refine lv_goto (pc := 42) (tgt := 46) hx hb dX0_stateOf_42 (by decide) ?_
          have hf : (0 : Int32) = z := hf
          subst hf
          exact ret_iR (pc := 46) C hr h dX0_stateOf_46
    · have hf := ifF c9 hf
      refine lv_iconst (pc := 24) (v := 1) hx hb dX0_stateOf_24 (by decide) ?_
      have hf : (1 : Int32) = z := hf
      subst hf
      exact ret_iR (pc := 25) C hr h dX0_stateOf_25
  · have hf := ifF c9 hf
    refine lv_iconst (pc := 11) (v := 2) hx hb dX0_stateOf_11 (by decide) ?_
    have hf : (2 : Int32) = z := hf
    subst hf
    exact ret_iR (pc := 12) C hr h dX0_stateOf_12
abbrev rm_X0_ordersBehind : Room := { frames := 2, cells := 0, slots := 0, locals := 44 }
def f_X0_ordersBehind_8 : Nat → (Nat → Nat → Int32) → Int32 → Int32 → Int32 → Option ((Nat → Nat → Int32) × Int32)
  | 0, _, _, _, _ => none
  | n + 1, σ, x1, x3, x4 => (if x3 < x4 then some (σ, x4) else (lt (va_up σ 17 (rs 256 (σ 17) x4 (0 : Int32))) fun t1 => (f_X0_ordersBehind_8 n t1 x1 x3 (x4 + (1 : Int32)))))
def f_X0_ordersBehind_70 : Nat → (Nat → Nat → Int32) → Int32 → Int32 → Int32 → Int32 → Int32 → Int32 → Option ((Nat → Nat → Int32) × Int32)
  | 0, _, _, _, _, _, _, _ => none
  | n + 1, σ, x1, x3, x4, x5, x6, x7 => (if (σ 10 0) ≤ x7 then some (σ, x7) else (if (f_X4_has x6 x7) = 0 then (f_X0_ordersBehind_70 n σ x1 x3 x4 x5 x6 (x7 + (1 : Int32))) else (lt (va_up σ 17 (rs 256 (σ 17) (x4 ||| ((1 : Int32) <<< (x7 &&& 31))) ((rg 256 (σ 17) (x4 ||| ((1 : Int32) <<< (x7 &&& 31)))) + x5))) fun t4 => (f_X0_ordersBehind_70 n t4 x1 x3 x4 x5 x6 (x7 + (1 : Int32))))))
def f_X0_ordersBehind_36 : Nat → (Nat → Nat → Int32) → Int32 → Int32 → Int32 → Option ((Nat → Nat → Int32) × Int32)
  | 0, _, _, _, _ => none
  | n + 1, σ, x1, x3, x4 => (if x3 ≤ x4 then some (σ, x4) else (if (rg 256 (σ 17) x4) = 0 then ((f_X0_ordersBehind_70 FU σ x1 x3 x4 (rg 256 (σ 17) x4) (0 : Int32) (0 : Int32)).bind fun z3 => (f_X0_ordersBehind_36 n z3.1 x1 x3 (x4 + (1 : Int32)))) else ((f_X0_nextBehind σ x4).bind fun z3 => ((f_X0_ordersBehind_70 FU σ x1 x3 x4 (rg 256 (σ 17) x4) z3 (0 : Int32)).bind fun z4 => (f_X0_ordersBehind_36 n z4.1 x1 x3 (x4 + (1 : Int32)))))))
def f_X0_ordersBehind (σ : Nat → Nat → Int32) (x1 : Int32) : Option (Int32 × (Nat → Nat → Int32)) := ((f_X0_ordersBehind_8 FU σ x1 (f_X0_allSlots σ) x1).bind fun z1 => (lt (va_up z1.1 17 (rs 256 (z1.1 17) x1 (1 : Int32))) fun t2 => ((f_X0_ordersBehind_36 FU t2 x1 (f_X0_allSlots σ) x1).bind fun z3 => (some ((rg 256 (z3.1 17) (f_X0_allSlots σ)), z3.1)))))
set_option maxHeartbeats 400000 in
set_option maxRecDepth 100000 in
theorem l_X0_ordersBehind_8 (C : Cx p s m args meth c cX0_ordersBehind 8 RX0 D cA) : ∀ (n : Nat) (σ : Nat → Nat → Int32) (x1 x3 x4 : Int32) (z : (Nat → Nat → Int32) × Int32), f_X0_ordersBehind_8 n σ x1 x3 x4 = some z → ∀ (H : Heap) (locs : List Loc) (ls : Array Slot), St D A s.heap (eoW q cA σ) H locs → lv_has ls 8 [(0, .ref (q 0)), (1, .int x1), (2, .ref (q 20)), (3, .int x3), (4, .int x4)] → (∀ (H : Heap) (locs : List Loc) (ls : Array Slot), St D A s.heap (eoW q cA z.1) H locs → lv_has ls 8 [(0, .ref (q 0)), (1, .int x1), (2, .ref (q 20)), (3, .int x3), (4, .int z.2)] → W p l e rm_X0_ordersBehind s m args below meth c H locs 0 0 Q (F0 m 27 ls [])) → W p l e rm_X0_ordersBehind s m args below meth c H locs 0 0 Q (F0 m 8 ls []) := by
  obtain ⟨hx, hb, hml, hown, hts, hK, hlk⟩ := id C
  intro n
  induction n with
  | zero => intro σ x1 x3 x4 z hf; rw [f_X0_ordersBehind_8] at hf; cases hf
  | succ n ih =>
    intro σ x1 x3 x4 z hf H locs ls h hl kk
    rw [f_X0_ordersBehind_8] at hf
    refine lv_iload (pc := 8) hx hb dX0_ordersBehind_8 (lv_at hl 4 rfl) ?_
    refine lv_iload_n (pc := 10) hx hb dX0_ordersBehind_10 rfl (lv_at hl 3 rfl) ?_
    refine lv_icmp_gt (pc := 11) (tgt := 27) hx hb dX0_ordersBehind_11 (by decide) (fun c9 => ?_) (fun c9 => ?_)
    · have hf := ifT c9 hf
      have hf : some (σ, x4) = some z := hf
      cases hf
      exact kk _ _ _ h (lv_sub hl [0, 1, 2, 3, 4] rfl)
    · have hf := ifF c9 hf
      refine lv_aload_n (pc := 14) hx hb dX0_ordersBehind_14 rfl (lv_at hl 2 rfl) ?_
      refine lv_iload (pc := 15) hx hb dX0_ordersBehind_15 (lv_at hl 4 rfl) ?_
      refine lv_iconst (pc := 17) (v := 0) hx hb dX0_ordersBehind_17 (by decide) ?_
      obtain ⟨t1, et1, hf⟩ := ltS hf
      refine call_rset (pc := 18) (rest := []) (ws' := (eoW q cA t1)) C h (by decide) (by decide) (eoW_c20 _ _ _) (eoW_c21 _ _ _) ((eoW_w21 _ _ _ _).trans (congrArg (eoW q cA) et1.symm)) cw_X0_60 hl.1 (Nat.le_of_ble_eq_true rfl) dX0_ordersBehind_18 ⟨Nat.le_of_ble_eq_true rfl, Nat.le_of_ble_eq_true rfl⟩ rfl rfl ⟨Nat.le_of_ble_eq_true rfl, Nat.le_of_ble_eq_true rfl⟩ (fun H locs h => ?_)
      refine lv_iinc (pc := 21) (v := (x4 + (1 : Int32))) (lv' := [(4, .int (x4 + (1 : Int32))), (0, .ref (q 0)), (1, .int x1), (2, .ref (q 20)), (3, .int x3)]) hx hb dX0_ordersBehind_21 hl (k := 4) rfl rfl (by decide) rfl (fun ls hl => ?_)
      refine lv_goto (pc := 24) (tgt := 8) hx hb dX0_ordersBehind_24 (by decide) ?_
      exact ih _ _ _ _ _ hf _ _ _ h (lv_sub hl [1, 2, 3, 4, 0] rfl) kk
set_option maxHeartbeats 400000 in
set_option maxRecDepth 100000 in
theorem l_X0_ordersBehind_70 (C : Cx p s m args meth c cX0_ordersBehind 8 RX0 D cA) : ∀ (n : Nat) (σ : Nat → Nat → Int32) (x1 x3 x4 x5 x6 x7 : Int32) (z : (Nat → Nat → Int32) × Int32), f_X0_ordersBehind_70 n σ x1 x3 x4 x5 x6 x7 = some z → ∀ (H : Heap) (locs : List Loc) (ls : Array Slot), St D A s.heap (eoW q cA σ) H locs → lv_has ls 8 [(0, .ref (q 0)), (1, .int x1), (2, .ref (q 20)), (3, .int x3), (4, .int x4), (5, .int x5), (6, .int x6), (7, .int x7)] → (∀ (H : Heap) (locs : List Loc) (ls : Array Slot), St D A s.heap (eoW q cA z.1) H locs → lv_has ls 8 [(0, .ref (q 0)), (1, .int x1), (2, .ref (q 20)), (3, .int x3), (4, .int x4), (5, .int x5), (6, .int x6), (7, .int z.2)] → W p l e rm_X0_ordersBehind s m args below meth c H locs 0 0 Q (F0 m 120 ls [])) → W p l e rm_X0_ordersBehind s m args below meth c H locs 0 0 Q (F0 m 70 ls []) := by
  obtain ⟨hx, hb, hml, hown, hts, hK, hlk⟩ := id C
  intro n
  induction n with
  | zero => intro σ x1 x3 x4 x5 x6 x7 z hf; rw [f_X0_ordersBehind_70] at hf; cases hf
  | succ n ih =>
    intro σ x1 x3 x4 x5 x6 x7 z hf H locs ls h hl kk
    rw [f_X0_ordersBehind_70] at hf
    refine lv_iload (pc := 70) hx hb dX0_ordersBehind_70 (lv_at hl 7 rfl) ?_
    refine lv_aload_n (pc := 72) hx hb dX0_ordersBehind_72 rfl (lv_at hl 0 rfl) ?_
    refine g_get (pc := 73) (v := .int (σ 10 0)) C h.1 0 (eoW_c0 _ _ _) fl_X0_43 rfl dX0_ordersBehind_73 ?_
    refine lv_icmp_ge (pc := 76) (tgt := 120) hx hb dX0_ordersBehind_76 (by decide) (fun c9 => ?_) (fun c9 => ?_)
    · have hf := ifT c9 hf
      have hf : some (σ, x7) = some z := hf
      cases hf
      exact kk _ _ _ h (lv_sub hl [0, 1, 2, 3, 4, 5, 6, 7] rfl)
    · have hf := ifF c9 hf
      refine lv_iload (pc := 79) hx hb dX0_ordersBehind_79 (lv_at hl 6 rfl) ?_
      refine lv_iload (pc := 81) hx hb dX0_ordersBehind_81 (lv_at hl 7 rfl) ?_
      refine call_has (pc := 83) (rest := []) C h (k_X4_has x6 x7 rfl) hw_has hl.1 (Nat.le_of_ble_eq_true rfl) dX0_ordersBehind_83 ⟨Nat.le_of_ble_eq_true rfl, Nat.le_of_ble_eq_true rfl⟩ rfl rfl ⟨Nat.le_of_ble_eq_true rfl, Nat.le_of_ble_eq_true rfl⟩ (fun H locs h => ?_)
      refine W.eq (g2 := F0 m 86 ls [.int (f_X4_has x6 x7)]) rfl ?_
      refine lv_if_eq (pc := 86) (tgt := 114) hx hb dX0_ordersBehind_86 (by decide) (fun c9 => ?_) (fun c9 => ?_)
      · have hf := ifT c9 hf
        refine lv_iinc (pc := 114) (v := (x7 + (1 : Int32))) (lv' := [(7, .int (x7 + (1 : Int32))), (0, .ref (q 0)), (1, .int x1), (2, .ref (q 20)), (3, .int x3), (4, .int x4), (5, .int x5), (6, .int x6)]) hx hb dX0_ordersBehind_114 hl (k := 7) rfl rfl (by decide) rfl (fun ls hl => ?_)
        refine lv_goto (pc := 117) (tgt := 70) hx hb dX0_ordersBehind_117 (by decide) ?_
        exact ih _ _ _ _ _ _ _ _ hf _ _ _ h (lv_sub hl [1, 2, 3, 4, 5, 6, 7, 0] rfl) kk
      · have hf := ifF c9 hf
        refine lv_aload_n (pc := 89) hx hb dX0_ordersBehind_89 rfl (lv_at hl 2 rfl) ?_
        refine lv_iload (pc := 90) hx hb dX0_ordersBehind_90 (lv_at hl 4 rfl) ?_
        refine lv_iconst (pc := 92) (v := 1) hx hb dX0_ordersBehind_92 (by decide) ?_
        refine lv_iload (pc := 93) hx hb dX0_ordersBehind_93 (lv_at hl 7 rfl) ?_
        refine lv_ishl (pc := 95) hx hb dX0_ordersBehind_95 ?_
        refine lv_ior (pc := 96) hx hb dX0_ordersBehind_96 ?_
        refine lv_aload_n (pc := 97) hx hb dX0_ordersBehind_97 rfl (lv_at hl 2 rfl) ?_
        refine lv_iload (pc := 98) hx hb dX0_ordersBehind_98 (lv_at hl 4 rfl) ?_
        refine lv_iconst (pc := 100) (v := 1) hx hb dX0_ordersBehind_100 (by decide) ?_
        refine lv_iload (pc := 101) hx hb dX0_ordersBehind_101 (lv_at hl 7 rfl) ?_
        refine lv_ishl (pc := 103) hx hb dX0_ordersBehind_103 ?_
        refine lv_ior (pc := 104) hx hb dX0_ordersBehind_104 ?_
        refine call_rget (pc := 105) (rest := [.int (x4 ||| ((1 : Int32) <<< (x7 &&& 31))), .ref (q 20)]) C h (by decide) (by decide) (eoW_c20 _ _ _) (eoW_c21 _ _ _) cw_X0_50 hl.1 (Nat.le_of_ble_eq_true rfl) dX0_ordersBehind_105 ⟨Nat.le_of_ble_eq_true rfl, Nat.le_of_ble_eq_true rfl⟩ rfl rfl ⟨Nat.le_of_ble_eq_true rfl, Nat.le_of_ble_eq_true rfl⟩ (fun H locs h => ?_)
        refine lv_iload (pc := 108) hx hb dX0_ordersBehind_108 (lv_at hl 5 rfl) ?_
        refine lv_iadd (pc := 110) hx hb dX0_ordersBehind_110 ?_
        obtain ⟨t4, et4, hf⟩ := ltS hf
        refine call_rset (pc := 111) (rest := []) (ws' := (eoW q cA t4)) C h (by decide) (by decide) (eoW_c20 _ _ _) (eoW_c21 _ _ _) ((eoW_w21 _ _ _ _).trans (congrArg (eoW q cA) et4.symm)) cw_X0_60 hl.1 (Nat.le_of_ble_eq_true rfl) dX0_ordersBehind_111 ⟨Nat.le_of_ble_eq_true rfl, Nat.le_of_ble_eq_true rfl⟩ rfl rfl ⟨Nat.le_of_ble_eq_true rfl, Nat.le_of_ble_eq_true rfl⟩ (fun H locs h => ?_)
        refine lv_iinc (pc := 114) (v := (x7 + (1 : Int32))) (lv' := [(7, .int (x7 + (1 : Int32))), (0, .ref (q 0)), (1, .int x1), (2, .ref (q 20)), (3, .int x3), (4, .int x4), (5, .int x5), (6, .int x6)]) hx hb dX0_ordersBehind_114 hl (k := 7) rfl rfl (by decide) rfl (fun ls hl => ?_)
        refine lv_goto (pc := 117) (tgt := 70) hx hb dX0_ordersBehind_117 (by decide) ?_
        exact ih _ _ _ _ _ _ _ _ hf _ _ _ h (lv_sub hl [1, 2, 3, 4, 5, 6, 7, 0] rfl) kk
set_option maxHeartbeats 400000 in
set_option maxRecDepth 100000 in
theorem l_X0_ordersBehind_36 (C : Cx p s m args meth c cX0_ordersBehind 8 RX0 D cA) : ∀ (n : Nat) (σ : Nat → Nat → Int32) (x1 x3 x4 : Int32) (z : (Nat → Nat → Int32) × Int32), f_X0_ordersBehind_36 n σ x1 x3 x4 = some z → ∀ (H : Heap) (locs : List Loc) (ls : Array Slot), St D A s.heap (eoW q cA σ) H locs → lv_has ls 8 [(0, .ref (q 0)), (1, .int x1), (2, .ref (q 20)), (3, .int x3), (4, .int x4)] → (∀ (H : Heap) (locs : List Loc) (ls : Array Slot), St D A s.heap (eoW q cA z.1) H locs → lv_has ls 8 [(0, .ref (q 0)), (1, .int x1), (2, .ref (q 20)), (3, .int x3), (4, .int z.2)] → W p l e rm_X0_ordersBehind s m args below meth c H locs 0 0 Q (F0 m 126 ls [])) → W p l e rm_X0_ordersBehind s m args below meth c H locs 0 0 Q (F0 m 36 ls []) := by
  obtain ⟨hx, hb, hml, hown, hts, hK, hlk⟩ := id C
  intro n
  induction n with
  | zero => intro σ x1 x3 x4 z hf; rw [f_X0_ordersBehind_36] at hf; cases hf
  | succ n ih =>
    intro σ x1 x3 x4 z hf H locs ls h hl kk
    rw [f_X0_ordersBehind_36] at hf
    refine lv_iload (pc := 36) hx hb dX0_ordersBehind_36 (lv_at hl 4 rfl) ?_
    refine lv_iload_n (pc := 38) hx hb dX0_ordersBehind_38 rfl (lv_at hl 3 rfl) ?_
    refine lv_icmp_ge (pc := 39) (tgt := 126) hx hb dX0_ordersBehind_39 (by decide) (fun c9 => ?_) (fun c9 => ?_)
    · have hf := ifT c9 hf
      have hf : some (σ, x4) = some z := hf
      cases hf
      exact kk _ _ _ h (lv_sub hl [0, 1, 2, 3, 4] rfl)
    · have hf := ifF c9 hf
      refine lv_aload_n (pc := 42) hx hb dX0_ordersBehind_42 rfl (lv_at hl 2 rfl) ?_
      refine lv_iload (pc := 43) hx hb dX0_ordersBehind_43 (lv_at hl 4 rfl) ?_
      refine call_rget (pc := 45) (rest := []) C h (by decide) (by decide) (eoW_c20 _ _ _) (eoW_c21 _ _ _) cw_X0_50 hl.1 (Nat.le_of_ble_eq_true rfl) dX0_ordersBehind_45 ⟨Nat.le_of_ble_eq_true rfl, Nat.le_of_ble_eq_true rfl⟩ rfl rfl ⟨Nat.le_of_ble_eq_true rfl, Nat.le_of_ble_eq_true rfl⟩ (fun H locs h => ?_)
      refine lv_istore (pc := 48) (lv' := [(5, .int (rg 256 (σ 17) x4)), (0, .ref (q 0)), (1, .int x1), (2, .ref (q 20)), (3, .int x3), (4, .int x4)]) hx hb dX0_ordersBehind_48 hl (by decide) rfl (fun ls hl => ?_)
      refine lv_iload (pc := 50) hx hb dX0_ordersBehind_50 (lv_at hl 0 rfl) ?_
      refine lv_if_ne (pc := 52) (tgt := 59) hx hb dX0_ordersBehind_52 (by decide) (fun c9 => ?_) (fun c9 => ?_)
      · have hf := ifF c9 hf
        refine lv_aload_n (pc := 59) hx hb dX0_ordersBehind_59 rfl (lv_at hl 1 rfl) ?_
        refine lv_iload (pc := 60) hx hb dX0_ordersBehind_60 (lv_at hl 5 rfl) ?_
        obtain ⟨z3, hc3, hf⟩ := bdS hf
        refine call_VR (pc := 62) (As := [.int x4]) (rest := []) C h (k_X0_nextBehind σ x4 hc3) cw_X0_68 0 (eoW_c0 _ _ _) rfl [0, 1, 2, 3, 4, 5, 6, 7, 8, 9, 10, 11, 12, 13, 14, 15, 16, 17, 18, 19] (eoW_e _ _ _) (by decide) rfl rfl hl.1 (Nat.le_of_ble_eq_true rfl) dX0_ordersBehind_62 ⟨Nat.le_of_ble_eq_true rfl, Nat.le_of_ble_eq_true rfl⟩ rfl rfl ⟨Nat.le_of_ble_eq_true rfl, Nat.le_of_ble_eq_true rfl⟩ (fun H locs h => ?_)
        refine W.eq (g2 := F0 m 65 ls [.int z3]) rfl ?_
        refine lv_istore (pc := 65) (lv' := [(6, .int z3), (5, .int (rg 256 (σ 17) x4)), (0, .ref (q 0)), (1, .int x1), (2, .ref (q 20)), (3, .int x3), (4, .int x4)]) hx hb dX0_ordersBehind_65 hl (by decide) rfl (fun ls hl => ?_)
        refine lv_iconst (pc := 67) (v := 0) hx hb dX0_ordersBehind_67 (by decide) ?_
        refine lv_istore (pc := 68) (lv' := [(7, .int (0 : Int32)), (6, .int z3), (5, .int (rg 256 (σ 17) x4)), (0, .ref (q 0)), (1, .int x1), (2, .ref (q 20)), (3, .int x3), (4, .int x4)]) hx hb dX0_ordersBehind_68 hl (by decide) rfl (fun ls hl => ?_)
        obtain ⟨z4, hc4, hf⟩ := bdS hf
        refine l_X0_ordersBehind_70 C _ _ _ _ _ _ _ _ _ hc4 _ _ _ h (lv_sub hl [3, 4, 5, 6, 7, 2, 1, 0] rfl) (fun H locs ls h hl => ?_)
        refine lv_iinc (pc := 120) (v := (x4 + (1 : Int32))) (lv' := [(4, .int (x4 + (1 : Int32))), (0, .ref (q 0)), (1, .int x1), (2, .ref (q 20)), (3, .int x3), (5, .int (rg 256 (σ 17) x4)), (6, .int z3), (7, .int z4.2)]) hx hb dX0_ordersBehind_120 hl (k := 4) rfl rfl (by decide) rfl (fun ls hl => ?_)
        refine lv_goto (pc := 123) (tgt := 36) hx hb dX0_ordersBehind_123 (by decide) ?_
        exact ih _ _ _ _ _ hf _ _ _ h (lv_sub hl [1, 2, 3, 4, 0] rfl) kk
      · have hf := ifT c9 hf
        refine lv_iconst (pc := 55) (v := 0) hx hb dX0_ordersBehind_55 (by decide) ?_
        refine lv_goto (pc := 56) (tgt := 65) hx hb dX0_ordersBehind_56 (by decide) ?_
        refine lv_istore (pc := 65) (lv' := [(6, .int (0 : Int32)), (5, .int (rg 256 (σ 17) x4)), (0, .ref (q 0)), (1, .int x1), (2, .ref (q 20)), (3, .int x3), (4, .int x4)]) hx hb dX0_ordersBehind_65 hl (by decide) rfl (fun ls hl => ?_)
        refine lv_iconst (pc := 67) (v := 0) hx hb dX0_ordersBehind_67 (by decide) ?_
        refine lv_istore (pc := 68) (lv' := [(7, .int (0 : Int32)), (6, .int (0 : Int32)), (5, .int (rg 256 (σ 17) x4)), (0, .ref (q 0)), (1, .int x1), (2, .ref (q 20)), (3, .int x3), (4, .int x4)]) hx hb dX0_ordersBehind_68 hl (by decide) rfl (fun ls hl => ?_)
        obtain ⟨z3, hc3, hf⟩ := bdS hf
        refine l_X0_ordersBehind_70 C _ _ _ _ _ _ _ _ _ hc3 _ _ _ h (lv_sub hl [3, 4, 5, 6, 7, 2, 1, 0] rfl) (fun H locs ls h hl => ?_)
        refine lv_iinc (pc := 120) (v := (x4 + (1 : Int32))) (lv' := [(4, .int (x4 + (1 : Int32))), (0, .ref (q 0)), (1, .int x1), (2, .ref (q 20)), (3, .int x3), (5, .int (rg 256 (σ 17) x4)), (6, .int (0 : Int32)), (7, .int z3.2)]) hx hb dX0_ordersBehind_120 hl (k := 4) rfl rfl (by decide) rfl (fun ls hl => ?_)
        refine lv_goto (pc := 123) (tgt := 36) hx hb dX0_ordersBehind_123 (by decide) ?_
        exact ih _ _ _ _ _ hf _ _ _ h (lv_sub hl [1, 2, 3, 4, 0] rfl) kk
set_option maxHeartbeats 400000 in
set_option maxRecDepth 100000 in
theorem k_X0_ordersBehind {q : Nat → Nat} {cA : Nat → ClassId} {D : va_G} (σ : Nat → Nat → Int32) (x1 : Int32) {z : Int32 × (Nat → Nat → Int32)} (hf : f_X0_ordersBehind σ x1 = some z) : CtU yX0_ordersBehind cX0_ordersBehind 8 (some .int) rm_X0_ordersBehind [.ref (q 0), .int x1, .ref (q 20)] D cA (eoW q cA σ) (eoW q cA z.2) (some (.int z.1)) 0 0 := by
  refine ctU_of (by decide) (Nat.le_of_ble_eq_true rfl) ?_
  intro p l e s m below meth c ls C hr hnm h hl
  have C : Cx p s m _ meth c cX0_ordersBehind 8 RX0 D cA := C
  obtain ⟨hx, hb, hml, hown, hts, hK, hlk⟩ := id C
  replace hl : lv_has ls 8 [(0, .ref (q 0)), (1, .int x1), (2, .ref (q 20))] := hl
  rw [f_X0_ordersBehind] at hf
  refine lv_aload_n (pc := 0) hx hb dX0_ordersBehind_0 rfl (lv_at hl 0 rfl) ?_
  refine call_VR (pc := 1) (As := []) (rest := []) C h (k_X0_allSlots σ rfl) cw_X0_64 0 (eoW_c0 _ _ _) rfl [0, 1, 2, 3, 4, 5, 6, 7, 8, 9, 10, 11, 12, 13, 14, 15, 16, 17, 18, 19] (eoW_e _ _ _) (by decide) rfl rfl hl.1 (Nat.le_of_ble_eq_true rfl) dX0_ordersBehind_1 ⟨Nat.le_of_ble_eq_true rfl, Nat.le_of_ble_eq_true rfl⟩ rfl rfl ⟨Nat.le_of_ble_eq_true rfl, Nat.le_of_ble_eq_true rfl⟩ (fun H locs h => ?_)
  refine W.eq (g2 := F0 m 4 ls [.int (f_X0_allSlots σ)]) rfl ?_
  refine lv_istore_n (pc := 4) (lv' := [(3, .int (f_X0_allSlots σ)), (0, .ref (q 0)), (1, .int x1), (2, .ref (q 20))]) hx hb dX0_ordersBehind_4 rfl hl (by decide) rfl (fun ls hl => ?_)
  refine lv_iload_n (pc := 5) hx hb dX0_ordersBehind_5 rfl (lv_at hl 2 rfl) ?_
  refine lv_istore (pc := 6) (lv' := [(4, .int x1), (3, .int (f_X0_allSlots σ)), (0, .ref (q 0)), (1, .int x1), (2, .ref (q 20))]) hx hb dX0_ordersBehind_6 hl (by decide) rfl (fun ls hl => ?_)
  obtain ⟨z1, hc1, hf⟩ := bdS hf
  refine l_X0_ordersBehind_8 C _ _ _ _ _ _ hc1 _ _ _ h (lv_sub hl [2, 3, 4, 1, 0] rfl) (fun H locs ls h hl => ?_)
  refine lv_aload_n (pc := 27) hx hb dX0_ordersBehind_27 rfl (lv_at hl 2 rfl) ?_
  refine lv_iload_n (pc := 28) hx hb dX0_ordersBehind_28 rfl (lv_at hl 1 rfl) ?_
  refine lv_iconst (pc := 29) (v := 1) hx hb dX0_ordersBehind_29 (by decide) ?_
  obtain ⟨t2, et2, hf⟩ := ltS hf
  refine call_rset (pc := 30) (rest := []) (ws' := (eoW q cA t2)) C h (by decide) (by decide) (eoW_c20 _ _ _) (eoW_c21 _ _ _) ((eoW_w21 _ _ _ _).trans (congrArg (eoW q cA) et2.symm)) cw_X0_60 hl.1 (Nat.le_of_ble_eq_true rfl) dX0_ordersBehind_30 ⟨Nat.le_of_ble_eq_true rfl, Nat.le_of_ble_eq_true rfl⟩ rfl rfl ⟨Nat.le_of_ble_eq_true rfl, Nat.le_of_ble_eq_true rfl⟩ (fun H locs h => ?_)
  refine lv_iload_n (pc := 33) hx hb dX0_ordersBehind_33 rfl (lv_at hl 1 rfl) ?_
  refine lv_istore (pc := 34) (lv' := [(4, .int x1), (0, .ref (q 0)), (1, .int x1), (2, .ref (q 20)), (3, .int (f_X0_allSlots σ))]) hx hb dX0_ordersBehind_34 hl (by decide) rfl (fun ls hl => ?_)
  obtain ⟨z3, hc3, hf⟩ := bdS hf
  refine l_X0_ordersBehind_36 C _ _ _ _ _ _ hc3 _ _ _ h (lv_sub hl [1, 2, 3, 4, 0] rfl) (fun H locs ls h hl => ?_)
  refine lv_aload_n (pc := 126) hx hb dX0_ordersBehind_126 rfl (lv_at hl 2 rfl) ?_
  refine lv_iload_n (pc := 127) hx hb dX0_ordersBehind_127 rfl (lv_at hl 3 rfl) ?_
  refine call_rget (pc := 128) (rest := []) C h (by decide) (by decide) (eoW_c20 _ _ _) (eoW_c21 _ _ _) cw_X0_50 hl.1 (Nat.le_of_ble_eq_true rfl) dX0_ordersBehind_128 ⟨Nat.le_of_ble_eq_true rfl, Nat.le_of_ble_eq_true rfl⟩ rfl rfl ⟨Nat.le_of_ble_eq_true rfl, Nat.le_of_ble_eq_true rfl⟩ (fun H locs h => ?_)
  have hf : (some ((rg 256 (z3.1 17) (f_X0_allSlots σ)), z3.1)) = some z := hf
  cases hf
  exact ret_iU (pc := 131) C hr h dX0_ordersBehind_131
end
