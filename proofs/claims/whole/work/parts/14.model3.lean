section
variable {p : Program} {l : Launch} {e : Env} {R : Room} {s : State} {m : MethodId} {args : Array Value} {below : List Frame} {meth : Method} {c : Code} {Q : State → Prop}
variable {D : va_G} {cA : Nat → ClassId} {A : Nat → Prop} {q : Nat → Nat}
abbrev rm_X5_cancel : Room := { frames := 5, cells := 0, slots := 0, locals := 113 }
def f_X5_cancel (σ : Nat → Nat → Int32) (x1 : Int32) : Option (Int32 × (Nat → Nat → Int32)) := (if (f_X5_isEnvelope σ x1) = 0 then (if (f_X5_goes σ (f_X5_isEnvelope σ x1) (0 : Int32) (1 : Int32)).1 = 0 then (some ((0 : Int32), (f_X5_goes σ (f_X5_isEnvelope σ x1) (0 : Int32) (1 : Int32)).2)) else ((f_X5_closes (f_X5_goes σ (f_X5_isEnvelope σ x1) (0 : Int32) (1 : Int32)).2 x1 (4 : Int32) (-1 : Int32) (-1 : Int32)).bind fun z1 => (some (z1.1, z1.2)))) else ((f_X5_isIn σ x1 (1 : Int32)).bind fun z1 => (if z1.1 = 0 then (if (f_X5_goes z1.2 (f_X5_isEnvelope σ x1) (0 : Int32) (1 : Int32)).1 = 0 then (some ((0 : Int32), (f_X5_goes z1.2 (f_X5_isEnvelope σ x1) (0 : Int32) (1 : Int32)).2)) else ((f_X5_closes (f_X5_goes z1.2 (f_X5_isEnvelope σ x1) (0 : Int32) (1 : Int32)).2 x1 (4 : Int32) (-1 : Int32) (-1 : Int32)).bind fun z2 => (some (z2.1, z2.2)))) else (if (f_X5_goes z1.2 (f_X5_isEnvelope σ x1) (1 : Int32) (1 : Int32)).1 = 0 then (some ((0 : Int32), (f_X5_goes z1.2 (f_X5_isEnvelope σ x1) (1 : Int32) (1 : Int32)).2)) else ((f_X5_closes (f_X5_goes z1.2 (f_X5_isEnvelope σ x1) (1 : Int32) (1 : Int32)).2 x1 (4 : Int32) (-1 : Int32) (-1 : Int32)).bind fun z2 => (some (z2.1, z2.2)))))))
set_option maxHeartbeats 400000 in
set_option maxRecDepth 100000 in
theorem k_X5_cancel {q : Nat → Nat} {cA : Nat → ClassId} {D : va_G} (σ : Nat → Nat → Int32) (x1 : Int32) {z : Int32 × (Nat → Nat → Int32)} (hf : f_X5_cancel σ x1 = some z) : CtU yX5_cancel cX5_cancel 3 (some .int) rm_X5_cancel [.ref (q 0), .int x1] D cA (mW q cA σ) (mW q cA z.2) (some (.int z.1)) 0 0 := by
  refine ctU_of (by decide) (Nat.le_of_ble_eq_true rfl) ?_
  intro p l e s m below meth c ls C hr hnm h hl
  have C : Cx p s m _ meth c cX5_cancel 3 RX5 D cA := C
  obtain ⟨hx, hb, hml, hown, hts, hK, hlk⟩ := id C
  replace hl : lv_has ls 3 [(0, .ref (q 0)), (1, .int x1)] := hl
  rw [f_X5_cancel] at hf
  refine lv_aload_n (pc := 0) hx hb dX5_cancel_0 rfl (lv_at hl 0 rfl) ?_
  refine lv_iload_n (pc := 1) hx hb dX5_cancel_1 rfl (lv_at hl 1 rfl) ?_
  refine call_VRs (pc := 2) (As := [.int x1]) (rest := []) C h (k_X5_isEnvelope σ x1 rfl) cw_X5_78 0 (mW_c0 _ _ _) rfl rfl rfl hl.1 (Nat.le_of_ble_eq_true rfl) dX5_cancel_2 ⟨Nat.le_of_ble_eq_true rfl, Nat.le_of_ble_eq_true rfl⟩ rfl rfl ⟨Nat.le_of_ble_eq_true rfl, Nat.le_of_ble_eq_true rfl⟩ (fun H locs h => ?_)
  refine W.eq (g2 := F0 m 5 ls [.int (f_X5_isEnvelope σ x1)]) rfl ?_
  refine lv_istore_n (pc := 5) (lv' := [(2, .int (f_X5_isEnvelope σ x1)), (0, .ref (q 0)), (1, .int x1)]) hx hb dX5_cancel_5 rfl hl (by decide) rfl (fun ls hl => ?_)
  refine lv_aload_n (pc := 6) hx hb dX5_cancel_6 rfl (lv_at hl 1 rfl) ?_
  refine lv_iload_n (pc := 7) hx hb dX5_cancel_7 rfl (lv_at hl 0 rfl) ?_
  refine lv_iload_n (pc := 8) hx hb dX5_cancel_8 rfl (lv_at hl 0 rfl) ?_
  refine lv_if_eq (pc := 9) (tgt := 25) hx hb dX5_cancel_9 (by decide) (fun c9 => ?_) (fun c9 => ?_)
  · have hf := ifT c9 hf
    refine lv_iconst (pc := 25) (v := 0) hx hb dX5_cancel_25 (by decide) ?_
    refine lv_iconst (pc := 26) (v := 1) hx hb dX5_cancel_26 (by decide) ?_
    refine call_VUs (pc := 27) (As := [.int (f_X5_isEnvelope σ x1), .int (0 : Int32), .int (1 : Int32)]) (rest := []) C h (k_X5_goes σ (f_X5_isEnvelope σ x1) (0 : Int32) (1 : Int32) rfl) cw_X5_123 0 (mW_c0 _ _ _) rfl (mW_fst _ _ _ _) rfl rfl hl.1 (Nat.le_of_ble_eq_true rfl) dX5_cancel_27 ⟨Nat.le_of_ble_eq_true rfl, Nat.le_of_ble_eq_true rfl⟩ rfl rfl ⟨Nat.le_of_ble_eq_true rfl, Nat.le_of_ble_eq_true rfl⟩ (fun H locs h => ?_)
    refine W.eq (g2 := F0 m 30 ls [.int (f_X5_goes σ (f_X5_isEnvelope σ x1) (0 : Int32) (1 : Int32)).1]) rfl ?_
    refine lv_if_eq (pc := 30) (tgt := 44) hx hb dX5_cancel_30 (by decide) (fun c9 => ?_) (fun c9 => ?_)
    · have hf := ifT c9 hf
      refine lv_iconst (pc := 44) (v := 0) hx hb dX5_cancel_44 (by decide) ?_
      have hf : (some ((0 : Int32), (f_X5_goes σ (f_X5_isEnvelope σ x1) (0 : Int32) (1 : Int32)).2)) = some z := hf
      cases hf
      exact ret_iU (pc := 45) C hr h dX5_cancel_45
    · have hf := ifF c9 hf
      refine lv_aload_n (pc := 33) hx hb dX5_cancel_33 rfl (lv_at hl 1 rfl) ?_
      refine lv_iload_n (pc := 34) hx hb dX5_cancel_34 rfl (lv_at hl 2 rfl) ?_
      refine lv_iconst (pc := 35) (v := 4) hx hb dX5_cancel_35 (by decide) ?_
      refine lv_iconst (pc := 36) (v := -1) hx hb dX5_cancel_36 (by decide) ?_
      refine lv_iconst (pc := 37) (v := -1) hx hb dX5_cancel_37 (by decide) ?_
      obtain ⟨z1, hc1, hf⟩ := bdS hf
      refine call_VUs (pc := 38) (As := [.int x1, .int (4 : Int32), .int (-1 : Int32), .int (-1 : Int32)]) (rest := []) C h (k_X5_closes (f_X5_goes σ (f_X5_isEnvelope σ x1) (0 : Int32) (1 : Int32)).2 x1 (4 : Int32) (-1 : Int32) (-1 : Int32) hc1) cw_X5_153 0 (mW_c0 _ _ _) rfl (mW_fst _ _ _ _) rfl rfl hl.1 (Nat.le_of_ble_eq_true rfl) dX5_cancel_38 ⟨Nat.le_of_ble_eq_true rfl, Nat.le_of_ble_eq_true rfl⟩ rfl rfl ⟨Nat.le_of_ble_eq_true rfl, Nat.le_of_ble_eq_true rfl⟩ (fun H locs h => ?_)
      refine W.eq (g2 := F0 m 41 ls [.int z1.1]) rfl ?_
      refine lv_goto (pc := 41) (tgt := 45) hx hb dX5_cancel_41 (by decide) ?_
      have hf : (some (z1.1, z1.2)) = some z := hf
      cases hf
      exact ret_iU (pc := 45) C hr h dX5_cancel_45
  · have hf := ifF c9 hf
    refine lv_aload_n (pc := 12) hx hb dX5_cancel_12 rfl (lv_at hl 1 rfl) ?_
    refine lv_iload_n (pc := 13) hx hb dX5_cancel_13 rfl (lv_at hl 2 rfl) ?_
    refine lv_iconst (pc := 14) (v := 1) hx hb dX5_cancel_14 (by decide) ?_
    obtain ⟨z1, hc1, hf⟩ := bdS hf
    refine call_VUs (pc := 15) (As := [.int x1, .int (1 : Int32)]) (rest := [.int (f_X5_isEnvelope σ x1), .ref (q 0)]) C h (k_X5_isIn σ x1 (1 : Int32) hc1) cw_X5_130 0 (mW_c0 _ _ _) rfl (mW_fst _ _ _ _) rfl rfl hl.1 (Nat.le_of_ble_eq_true rfl) dX5_cancel_15 ⟨Nat.le_of_ble_eq_true rfl, Nat.le_of_ble_eq_true rfl⟩ rfl rfl ⟨Nat.le_of_ble_eq_true rfl, Nat.le_of_ble_eq_true rfl⟩ (fun H locs h => ?_)
    refine W.eq (g2 := F0 m 18 ls [.int z1.1, .int (f_X5_isEnvelope σ x1), .ref (q 0)]) rfl ?_
    refine lv_if_eq (pc := 18) (tgt := 25) hx hb dX5_cancel_18 (by decide) (fun c9 => ?_) (fun c9 => ?_)
    · have hf := ifT c9 hf
      refine lv_iconst (pc := 25) (v := 0) hx hb dX5_cancel_25 (by decide) ?_
      refine lv_iconst (pc := 26) (v := 1) hx hb dX5_cancel_26 (by decide) ?_
      refine call_VUs (pc := 27) (As := [.int (f_X5_isEnvelope σ x1), .int (0 : Int32), .int (1 : Int32)]) (rest := []) C h (k_X5_goes z1.2 (f_X5_isEnvelope σ x1) (0 : Int32) (1 : Int32) rfl) cw_X5_123 0 (mW_c0 _ _ _) rfl (mW_fst _ _ _ _) rfl rfl hl.1 (Nat.le_of_ble_eq_true rfl) dX5_cancel_27 ⟨Nat.le_of_ble_eq_true rfl, Nat.le_of_ble_eq_true rfl⟩ rfl rfl ⟨Nat.le_of_ble_eq_true rfl, Nat.le_of_ble_eq_true rfl⟩ (fun H locs h => ?_)
      refine W.eq (g2 := F0 m 30 ls [.int (f_X5_goes z1.2 (f_X5_isEnvelope σ x1) (0 : Int32) (1 : Int32)).1]) rfl ?_
      refine lv_if_eq (pc := 30) (tgt := 44) hx hb dX5_cancel_30 (by decide) (fun c9 => ?_) (fun c9 => ?_)
      · have hf := ifT c9 hf
        refine lv_iconst (pc := 44) (v := 0) hx hb dX5_cancel_44 (by decide) ?_
        have hf : (some ((0 : Int32), (f_X5_goes z1.2 (f_X5_isEnvelope σ x1) (0 : Int32) (1 : Int32)).2)) = some z := hf
        cases hf
        exact ret_iU (pc := 45) C hr h dX5_cancel_45
      · have hf := ifF c9 hf
        refine lv_aload_n (pc := 33) hx hb dX5_cancel_33 rfl (lv_at hl 1 rfl) ?_
        refine lv_iload_n (pc := 34) hx hb dX5_cancel_34 rfl (lv_at hl 2 rfl) ?_
        refine lv_iconst (pc := 35) (v := 4) hx hb dX5_cancel_35 (by decide) ?_
        refine lv_iconst (pc := 36) (v := -1) hx hb dX5_cancel_36 (by decide) ?_
        refine lv_iconst (pc := 37) (v := -1) hx hb dX5_cancel_37 (by decide) ?_
        obtain ⟨z2, hc2, hf⟩ := bdS hf
        refine call_VUs (pc := 38) (As := [.int x1, .int (4 : Int32), .int (-1 : Int32), .int (-1 : Int32)]) (rest := []) C h (k_X5_closes (f_X5_goes z1.2 (f_X5_isEnvelope σ x1) (0 : Int32) (1 : Int32)).2 x1 (4 : Int32) (-1 : Int32) (-1 : Int32) hc2) cw_X5_153 0 (mW_c0 _ _ _) rfl (mW_fst _ _ _ _) rfl rfl hl.1 (Nat.le_of_ble_eq_true rfl) dX5_cancel_38 ⟨Nat.le_of_ble_eq_true rfl, Nat.le_of_ble_eq_true rfl⟩ rfl rfl ⟨Nat.le_of_ble_eq_true rfl, Nat.le_of_ble_eq_true rfl⟩ (fun H locs h => ?_)
        refine W.eq (g2 := F0 m 41 ls [.int z2.1]) rfl ?_
        refine lv_goto (pc := 41) (tgt := 45) hx hb dX5_cancel_41 (by decide) ?_
        have hf : (some (z2.1, z2.2)) = some z := hf
        cases hf
        exact ret_iU (pc := 45) C hr h dX5_cancel_45
    · have hf := ifF c9 hf
      refine lv_iconst (pc := 21) (v := 1) hx hb dX5_cancel_21 (by decide) ?_
      refine lv_goto (pc := 22) (tgt := 26) hx hb dX5_cancel_22 (by decide) ?_
      refine lv_iconst (pc := 26) (v := 1) hx hb dX5_cancel_26 (by decide) ?_
      refine call_VUs (pc := 27) (As := [.int (f_X5_isEnvelope σ x1), .int (1 : Int32), .int (1 : Int32)]) (rest := []) C h (k_X5_goes z1.2 (f_X5_isEnvelope σ x1) (1 : Int32) (1 : Int32) rfl) cw_X5_123 0 (mW_c0 _ _ _) rfl (mW_fst _ _ _ _) rfl rfl hl.1 (Nat.le_of_ble_eq_true rfl) dX5_cancel_27 ⟨Nat.le_of_ble_eq_true rfl, Nat.le_of_ble_eq_true rfl⟩ rfl rfl ⟨Nat.le_of_ble_eq_true rfl, Nat.le_of_ble_eq_true rfl⟩ (fun H locs h => ?_)
      refine W.eq (g2 := F0 m 30 ls [.int (f_X5_goes z1.2 (f_X5_isEnvelope σ x1) (1 : Int32) (1 : Int32)).1]) rfl ?_
      refine lv_if_eq (pc := 30) (tgt := 44) hx hb dX5_cancel_30 (by decide) (fun c9 => ?_) (fun c9 => ?_)
      · have hf := ifT c9 hf
        refine lv_iconst (pc := 44) (v := 0) hx hb dX5_cancel_44 (by decide) ?_
        have hf : (some ((0 : Int32), (f_X5_goes z1.2 (f_X5_isEnvelope σ x1) (1 : Int32) (1 : Int32)).2)) = some z := hf
        cases hf
        exact ret_iU (pc := 45) C hr h dX5_cancel_45
      · have hf := ifF c9 hf
        refine lv_aload_n (pc := 33) hx hb dX5_cancel_33 rfl (lv_at hl 1 rfl) ?_
        refine lv_iload_n (pc := 34) hx hb dX5_cancel_34 rfl (lv_at hl 2 rfl) ?_
        refine lv_iconst (pc := 35) (v := 4) hx hb dX5_cancel_35 (by decide) ?_
        refine lv_iconst (pc := 36) (v := -1) hx hb dX5_cancel_36 (by decide) ?_
        refine lv_iconst (pc := 37) (v := -1) hx hb dX5_cancel_37 (by decide) ?_
        obtain ⟨z2, hc2, hf⟩ := bdS hf
        refine call_VUs (pc := 38) (As := [.int x1, .int (4 : Int32), .int (-1 : Int32), .int (-1 : Int32)]) (rest := []) C h (k_X5_closes (f_X5_goes z1.2 (f_X5_isEnvelope σ x1) (1 : Int32) (1 : Int32)).2 x1 (4 : Int32) (-1 : Int32) (-1 : Int32) hc2) cw_X5_153 0 (mW_c0 _ _ _) rfl (mW_fst _ _ _ _) rfl rfl hl.1 (Nat.le_of_ble_eq_true rfl) dX5_cancel_38 ⟨Nat.le_of_ble_eq_true rfl, Nat.le_of_ble_eq_true rfl⟩ rfl rfl ⟨Nat.le_of_ble_eq_true rfl, Nat.le_of_ble_eq_true rfl⟩ (fun H locs h => ?_)
        refine W.eq (g2 := F0 m 41 ls [.int z2.1]) rfl ?_
        refine lv_goto (pc := 41) (tgt := 45) hx hb dX5_cancel_41 (by decide) ?_
        have hf : (some (z2.1, z2.2)) = some z := hf
        cases hf
        exact ret_iU (pc := 45) C hr h dX5_cancel_45
abbrev rm_X5_delegate : Room := { frames := 2, cells := 0, slots := 0, locals := 42 }
def f_X5_delegate (σ : Nat → Nat → Int32) (x1 x2 x3 x4 x5 : Int32) : Option (Int32 × (Nat → Nat → Int32)) := (if (f_X5_isPerson x1) = 0 then (if x1 = x2 then (if (f_X5_goes σ (0 : Int32) (0 : Int32) (1 : Int32)).1 = 0 then (some ((0 : Int32), (f_X5_goes σ (0 : Int32) (0 : Int32) (1 : Int32)).2)) else (if inb x1 8 then (if inb x1 8 then (lt (va_up (f_X5_goes σ (0 : Int32) (0 : Int32) (1 : Int32)).2 12 (upd ((f_X5_goes σ (0 : Int32) (0 : Int32) (1 : Int32)).2 12) x1.toNatClampNeg x2)) fun t1 => (if inb x1 8 then (lt (va_up t1 13 (upd (t1 13) x1.toNatClampNeg x3)) fun t2 => (if inb x1 8 then (lt (va_up t2 14 (upd (t2 14) x1.toNatClampNeg x4)) fun t3 => (if inb x1 8 then (lt (va_up t3 15 (upd (t3 15) x1.toNatClampNeg x5)) fun t4 => (some ((((f_X5_goes σ (0 : Int32) (0 : Int32) (1 : Int32)).2 12) x1.toNatClampNeg), t4))) else none)) else none)) else none)) else none) else none)) else (if x3 < (σ 0 0) then (if (f_X5_goes σ (0 : Int32) (0 : Int32) (1 : Int32)).1 = 0 then (some ((0 : Int32), (f_X5_goes σ (0 : Int32) (0 : Int32) (1 : Int32)).2)) else (if inb x1 8 then (if inb x1 8 then (lt (va_up (f_X5_goes σ (0 : Int32) (0 : Int32) (1 : Int32)).2 12 (upd ((f_X5_goes σ (0 : Int32) (0 : Int32) (1 : Int32)).2 12) x1.toNatClampNeg x2)) fun t1 => (if inb x1 8 then (lt (va_up t1 13 (upd (t1 13) x1.toNatClampNeg x3)) fun t2 => (if inb x1 8 then (lt (va_up t2 14 (upd (t2 14) x1.toNatClampNeg x4)) fun t3 => (if inb x1 8 then (lt (va_up t3 15 (upd (t3 15) x1.toNatClampNeg x5)) fun t4 => (some ((((f_X5_goes σ (0 : Int32) (0 : Int32) (1 : Int32)).2 12) x1.toNatClampNeg), t4))) else none)) else none)) else none)) else none) else none)) else (if x4 < x3 then (if (f_X5_goes σ (0 : Int32) (0 : Int32) (1 : Int32)).1 = 0 then (some ((0 : Int32), (f_X5_goes σ (0 : Int32) (0 : Int32) (1 : Int32)).2)) else (if inb x1 8 then (if inb x1 8 then (lt (va_up (f_X5_goes σ (0 : Int32) (0 : Int32) (1 : Int32)).2 12 (upd ((f_X5_goes σ (0 : Int32) (0 : Int32) (1 : Int32)).2 12) x1.toNatClampNeg x2)) fun t1 => (if inb x1 8 then (lt (va_up t1 13 (upd (t1 13) x1.toNatClampNeg x3)) fun t2 => (if inb x1 8 then (lt (va_up t2 14 (upd (t2 14) x1.toNatClampNeg x4)) fun t3 => (if inb x1 8 then (lt (va_up t3 15 (upd (t3 15) x1.toNatClampNeg x5)) fun t4 => (some ((((f_X5_goes σ (0 : Int32) (0 : Int32) (1 : Int32)).2 12) x1.toNatClampNeg), t4))) else none)) else none)) else none)) else none) else none)) else (if (f_X5_in x5 (1 : Int32) (9 : Int32)) = 0 then (if (f_X5_goes σ (0 : Int32) (0 : Int32) (1 : Int32)).1 = 0 then (some ((0 : Int32), (f_X5_goes σ (0 : Int32) (0 : Int32) (1 : Int32)).2)) else (if inb x1 8 then (if inb x1 8 then (lt (va_up (f_X5_goes σ (0 : Int32) (0 : Int32) (1 : Int32)).2 12 (upd ((f_X5_goes σ (0 : Int32) (0 : Int32) (1 : Int32)).2 12) x1.toNatClampNeg x2)) fun t1 => (if inb x1 8 then (lt (va_up t1 13 (upd (t1 13) x1.toNatClampNeg x3)) fun t2 => (if inb x1 8 then (lt (va_up t2 14 (upd (t2 14) x1.toNatClampNeg x4)) fun t3 => (if inb x1 8 then (lt (va_up t3 15 (upd (t3 15) x1.toNatClampNeg x5)) fun t4 => (some ((((f_X5_goes σ (0 : Int32) (0 : Int32) (1 : Int32)).2 12) x1.toNatClampNeg), t4))) else none)) else none)) else none)) else none) else none)) else (if (f_X5_goes σ (0 : Int32) (1 : Int32) (1 : Int32)).1 = 0 then (some ((0 : Int32), (f_X5_goes σ (0 : Int32) (1 : Int32) (1 : Int32)).2)) else (if inb x1 8 then (if inb x1 8 then (lt (va_up (f_X5_goes σ (0 : Int32) (1 : Int32) (1 : Int32)).2 12 (upd ((f_X5_goes σ (0 : Int32) (1 : Int32) (1 : Int32)).2 12) x1.toNatClampNeg x2)) fun t1 => (if inb x1 8 then (lt (va_up t1 13 (upd (t1 13) x1.toNatClampNeg x3)) fun t2 => (if inb x1 8 then (lt (va_up t2 14 (upd (t2 14) x1.toNatClampNeg x4)) fun t3 => (if inb x1 8 then (lt (va_up t3 15 (upd (t3 15) x1.toNatClampNeg x5)) fun t4 => (some ((((f_X5_goes σ (0 : Int32) (1 : Int32) (1 : Int32)).2 12) x1.toNatClampNeg), t4))) else none)) else none)) else none)) else none) else none)))))) else (if (f_X5_isPerson x2) = 0 then (if x1 = x2 then (if (f_X5_goes σ (0 : Int32) (0 : Int32) (1 : Int32)).1 = 0 then (some ((0 : Int32), (f_X5_goes σ (0 : Int32) (0 : Int32) (1 : Int32)).2)) else (if inb x1 8 then (if inb x1 8 then (lt (va_up (f_X5_goes σ (0 : Int32) (0 : Int32) (1 : Int32)).2 12 (upd ((f_X5_goes σ (0 : Int32) (0 : Int32) (1 : Int32)).2 12) x1.toNatClampNeg x2)) fun t1 => (if inb x1 8 then (lt (va_up t1 13 (upd (t1 13) x1.toNatClampNeg x3)) fun t2 => (if inb x1 8 then (lt (va_up t2 14 (upd (t2 14) x1.toNatClampNeg x4)) fun t3 => (if inb x1 8 then (lt (va_up t3 15 (upd (t3 15) x1.toNatClampNeg x5)) fun t4 => (some ((((f_X5_goes σ (0 : Int32) (0 : Int32) (1 : Int32)).2 12) x1.toNatClampNeg), t4))) else none)) else none)) else none)) else none) else none)) else (if x3 < (σ 0 0) then (if (f_X5_goes σ (0 : Int32) (0 : Int32) (1 : Int32)).1 = 0 then (some ((0 : Int32), (f_X5_goes σ (0 : Int32) (0 : Int32) (1 : Int32)).2)) else (if inb x1 8 then (if inb x1 8 then (lt (va_up (f_X5_goes σ (0 : Int32) (0 : Int32) (1 : Int32)).2 12 (upd ((f_X5_goes σ (0 : Int32) (0 : Int32) (1 : Int32)).2 12) x1.toNatClampNeg x2)) fun t1 => (if inb x1 8 then (lt (va_up t1 13 (upd (t1 13) x1.toNatClampNeg x3)) fun t2 => (if inb x1 8 then (lt (va_up t2 14 (upd (t2 14) x1.toNatClampNeg x4)) fun t3 => (if inb x1 8 then (lt (va_up t3 15 (upd (t3 15) x1.toNatClampNeg x5)) fun t4 => (some ((((f_X5_goes σ (0 : Int32) (0 : Int32) (1 : Int32)).2 12) x1.toNatClampNeg), t4))) else none)) else none)) else none)) else none) else none)) else (if x4 < x3 then (if (f_X5_goes σ (0 : Int32) (0 : Int32) (1 : Int32)).1 = 0 then (some ((0 : Int32), (f_X5_goes σ (0 : Int32) (0 : Int32) (1 : Int32)).2)) else (if inb x1 8 then (if inb x1 8 then (lt (va_up (f_X5_goes σ (0 : Int32) (0 : Int32) (1 : Int32)).2 12 (upd ((f_X5_goes σ (0 : Int32) (0 : Int32) (1 : Int32)).2 12) x1.toNatClampNeg x2)) fun t1 => (if inb x1 8 then (lt (va_up t1 13 (upd (t1 13) x1.toNatClampNeg x3)) fun t2 => (if inb x1 8 then (lt (va_up t2 14 (upd (t2 14) x1.toNatClampNeg x4)) fun t3 => (if inb x1 8 then (lt (va_up t3 15 (upd (t3 15) x1.toNatClampNeg x5)) fun t4 => (some ((((f_X5_goes σ (0 : Int32) (0 : Int32) (1 : Int32)).2 12) x1.toNatClampNeg), t4))) else none)) else none)) else none)) else none) else none)) else (if (f_X5_in x5 (1 : Int32) (9 : Int32)) = 0 then (if (f_X5_goes σ (0 : Int32) (0 : Int32) (1 : Int32)).1 = 0 then (some ((0 : Int32), (f_X5_goes σ (0 : Int32) (0 : Int32) (1 : Int32)).2)) else (if inb x1 8 then (if inb x1 8 then (lt (va_up (f_X5_goes σ (0 : Int32) (0 : Int32) (1 : Int32)).2 12 (upd ((f_X5_goes σ (0 : Int32) (0 : Int32) (1 : Int32)).2 12) x1.toNatClampNeg x2)) fun t1 => (if inb x1 8 then (lt (va_up t1 13 (upd (t1 13) x1.toNatClampNeg x3)) fun t2 => (if inb x1 8 then (lt (va_up t2 14 (upd (t2 14) x1.toNatClampNeg x4)) fun t3 => (if inb x1 8 then (lt (va_up t3 15 (upd (t3 15) x1.toNatClampNeg x5)) fun t4 => (some ((((f_X5_goes σ (0 : Int32) (0 : Int32) (1 : Int32)).2 12) x1.toNatClampNeg), t4))) else none)) else none)) else none)) else none) else none)) else (if (f_X5_goes σ (0 : Int32) (1 : Int32) (1 : Int32)).1 = 0 then (some ((0 : Int32), (f_X5_goes σ (0 : Int32) (1 : Int32) (1 : Int32)).2)) else (if inb x1 8 then (if inb x1 8 then (lt (va_up (f_X5_goes σ (0 : Int32) (1 : Int32) (1 : Int32)).2 12 (upd ((f_X5_goes σ (0 : Int32) (1 : Int32) (1 : Int32)).2 12) x1.toNatClampNeg x2)) fun t1 => (if inb x1 8 then (lt (va_up t1 13 (upd (t1 13) x1.toNatClampNeg x3)) fun t2 => (if inb x1 8 then (lt (va_up t2 14 (upd (t2 14) x1.toNatClampNeg x4)) fun t3 => (if inb x1 8 then (lt (va_up t3 15 (upd (t3 15) x1.toNatClampNeg x5)) fun t4 => (some ((((f_X5_goes σ (0 : Int32) (1 : Int32) (1 : Int32)).2 12) x1.toNatClampNeg), t4))) else none)) else none)) else none)) else none) else none)))))) else (if x1 = x2 then (if (f_X5_goes σ (1 : Int32) (0 : Int32) (1 : Int32)).1 = 0 then (some ((0 : Int32), (f_X5_goes σ (1 : Int32) (0 : Int32) (1 : Int32)).2)) else (if inb x1 8 then (if inb x1 8 then (lt (va_up (f_X5_goes σ (1 : Int32) (0 : Int32) (1 : Int32)).2 12 (upd ((f_X5_goes σ (1 : Int32) (0 : Int32) (1 : Int32)).2 12) x1.toNatClampNeg x2)) fun t1 => (if inb x1 8 then (lt (va_up t1 13 (upd (t1 13) x1.toNatClampNeg x3)) fun t2 => (if inb x1 8 then (lt (va_up t2 14 (upd (t2 14) x1.toNatClampNeg x4)) fun t3 => (if inb x1 8 then (lt (va_up t3 15 (upd (t3 15) x1.toNatClampNeg x5)) fun t4 => (some ((((f_X5_goes σ (1 : Int32) (0 : Int32) (1 : Int32)).2 12) x1.toNatClampNeg), t4))) else none)) else none)) else none)) else none) else none)) else (if x3 < (σ 0 0) then (if (f_X5_goes σ (1 : Int32) (0 : Int32) (1 : Int32)).1 = 0 then (some ((0 : Int32), (f_X5_goes σ (1 : Int32) (0 : Int32) (1 : Int32)).2)) else (if inb x1 8 then (if inb x1 8 then (lt (va_up (f_X5_goes σ (1 : Int32) (0 : Int32) (1 : Int32)).2 12 (upd ((f_X5_goes σ (1 : Int32) (0 : Int32) (1 : Int32)).2 12) x1.toNatClampNeg x2)) fun t1 => (if inb x1 8 then (lt (va_up t1 13 (upd (t1 13) x1.toNatClampNeg x3)) fun t2 => (if inb x1 8 then (lt (va_up t2 14 (upd (t2 14) x1.toNatClampNeg x4)) fun t3 => (if inb x1 8 then (lt (va_up t3 15 (upd (t3 15) x1.toNatClampNeg x5)) fun t4 => (some ((((f_X5_goes σ (1 : Int32) (0 : Int32) (1 : Int32)).2 12) x1.toNatClampNeg), t4))) else none)) else none)) else none)) else none) else none)) else (if x4 < x3 then (if (f_X5_goes σ (1 : Int32) (0 : Int32) (1 : Int32)).1 = 0 then (some ((0 : Int32), (f_X5_goes σ (1 : Int32) (0 : Int32) (1 : Int32)).2)) else (if inb x1 8 then (if inb x1 8 then (lt (va_up (f_X5_goes σ (1 : Int32) (0 : Int32) (1 : Int32)).2 12 (upd ((f_X5_goes σ (1 : Int32) (0 : Int32) (1 : Int32)).2 12) x1.toNatClampNeg x2)) fun t1 => (if inb x1 8 then (lt (va_up t1 13 (upd (t1 13) x1.toNatClampNeg x3)) fun t2 => (if inb x1 8 then (lt (va_up t2 14 (upd (t2 14) x1.toNatClampNeg x4)) fun t3 => (if inb x1 8 then (lt (va_up t3 15 (upd (t3 15) x1.toNatClampNeg x5)) fun t4 => (some ((((f_X5_goes σ (1 : Int32) (0 : Int32) (1 : Int32)).2 12) x1.toNatClampNeg), t4))) else none)) else none)) else none)) else none) else none)) else (if (f_X5_in x5 (1 : Int32) (9 : Int32)) = 0 then (if (f_X5_goes σ (1 : Int32) (0 : Int32) (1 : Int32)).1 = 0 then (some ((0 : Int32), (f_X5_goes σ (1 : Int32) (0 : Int32) (1 : Int32)).2)) else (if inb x1 8 then (if inb x1 8 then (lt (va_up (f_X5_goes σ (1 : Int32) (0 : Int32) (1 : Int32)).2 12 (upd ((f_X5_goes σ (1 : Int32) (0 : Int32) (1 : Int32)).2 12) x1.toNatClampNeg x2)) fun t1 => (if inb x1 8 then (lt (va_up t1 13 (upd (t1 13) x1.toNatClampNeg x3)) fun t2 => (if inb x1 8 then (lt (va_up t2 14 (upd (t2 14) x1.toNatClampNeg x4)) fun t3 => (if inb x1 8 then (lt (va_up t3 15 (upd (t3 15) x1.toNatClampNeg x5)) fun t4 => (some ((((f_X5_goes σ (1 : Int32) (0 : Int32) (1 : Int32)).2 12) x1.toNatClampNeg), t4))) else none)) else none)) else none)) else none) else none)) else (if (f_X5_goes σ (1 : Int32) (1 : Int32) (1 : Int32)).1 = 0 then (some ((0 : Int32), (f_X5_goes σ (1 : Int32) (1 : Int32) (1 : Int32)).2)) else (if inb x1 8 then (if inb x1 8 then (lt (va_up (f_X5_goes σ (1 : Int32) (1 : Int32) (1 : Int32)).2 12 (upd ((f_X5_goes σ (1 : Int32) (1 : Int32) (1 : Int32)).2 12) x1.toNatClampNeg x2)) fun t1 => (if inb x1 8 then (lt (va_up t1 13 (upd (t1 13) x1.toNatClampNeg x3)) fun t2 => (if inb x1 8 then (lt (va_up t2 14 (upd (t2 14) x1.toNatClampNeg x4)) fun t3 => (if inb x1 8 then (lt (va_up t3 15 (upd (t3 15) x1.toNatClampNeg x5)) fun t4 => (some ((((f_X5_goes σ (1 : Int32) (1 : Int32) (1 : Int32)).2 12) x1.toNatClampNeg), t4))) else none)) else none)) else none)) else none) else none))))))))
set_option maxHeartbeats 400000 in
set_option maxRecDepth 100000 in
theorem k_X5_delegate {q : Nat → Nat} {cA : Nat → ClassId} {D : va_G} (σ : Nat → Nat → Int32) (x1 x2 x3 x4 x5 : Int32) {z : Int32 × (Nat → Nat → Int32)} (hf : f_X5_delegate σ x1 x2 x3 x4 x5 = some z) : CtU yX5_delegate cX5_delegate 7 (some .int) rm_X5_delegate [.ref (q 0), .int x1, .int x2, .int x3, .int x4, .int x5] D cA (mW q cA σ) (mW q cA z.2) (some (.int z.1)) 0 0 := by
  refine ctU_of (by decide) (Nat.le_of_ble_eq_true rfl) ?_
  intro p l e s m below meth c ls C hr hnm h hl
  have C : Cx p s m _ meth c cX5_delegate 7 RX5 D cA := C
  obtain ⟨hx, hb, hml, hown, hts, hK, hlk⟩ := id C
  replace hl : lv_has ls 7 [(0, .ref (q 0)), (1, .int x1), (2, .int x2), (3, .int x3), (4, .int x4), (5, .int x5)] := hl
  rw [f_X5_delegate] at hf
  refine lv_aload_n (pc := 0) hx hb dX5_delegate_0 rfl (lv_at hl 0 rfl) ?_
  refine lv_iload_n (pc := 1) hx hb dX5_delegate_1 rfl (lv_at hl 1 rfl) ?_
  refine call_SR (pc := 2) (As := [.int x1]) (rest := [.ref (q 0)]) (wc := []) C h (k_X5_isPerson x1 rfl) cw_X5_127 [] rfl rfl rfl rfl hl.1 (Nat.le_of_ble_eq_true rfl) dX5_delegate_2 ⟨Nat.le_of_ble_eq_true rfl, Nat.le_of_ble_eq_true rfl⟩ rfl rfl ⟨Nat.le_of_ble_eq_true rfl, Nat.le_of_ble_eq_true rfl⟩ (fun H locs h => ?_)
  refine W.eq (g2 := F0 m 5 ls [.int (f_X5_isPerson x1), .ref (q 0)]) rfl ?_
  refine lv_if_eq (pc := 5) (tgt := 19) hx hb dX5_delegate_5 (by decide) (fun c9 => ?_) (fun c9 => ?_)
  · have hf := ifT c9 hf
    refine lv_iconst (pc := 19) (v := 0) hx hb dX5_delegate_19 (by decide) ?_
    refine lv_iload_n (pc := 20) hx hb dX5_delegate_20 rfl (lv_at hl 1 rfl) ?_
    refine lv_iload_n (pc := 21) hx hb dX5_delegate_21 rfl (lv_at hl 2 rfl) ?_
    refine lv_icmp_eq (pc := 22) (tgt := 54) hx hb dX5_delegate_22 (by decide) (fun c9 => ?_) (fun c9 => ?_)
    · have hf := ifT c9 hf
      refine lv_iconst (pc := 54) (v := 0) hx hb dX5_delegate_54 (by decide) ?_
      refine lv_iconst (pc := 55) (v := 1) hx hb dX5_delegate_55 (by decide) ?_
      refine call_VUs (pc := 56) (As := [.int (0 : Int32), .int (0 : Int32), .int (1 : Int32)]) (rest := []) C h (k_X5_goes σ (0 : Int32) (0 : Int32) (1 : Int32) rfl) cw_X5_123 0 (mW_c0 _ _ _) rfl (mW_fst _ _ _ _) rfl rfl hl.1 (Nat.le_of_ble_eq_true rfl) dX5_delegate_56 ⟨Nat.le_of_ble_eq_true rfl, Nat.le_of_ble_eq_true rfl⟩ rfl rfl ⟨Nat.le_of_ble_eq_true rfl, Nat.le_of_ble_eq_true rfl⟩ (fun H locs h => ?_)
      refine W.eq (g2 := F0 m 59 ls [.int (f_X5_goes σ (0 : Int32) (0 : Int32) (1 : Int32)).1]) rfl ?_
      refine lv_if_ne (pc := 59) (tgt := 64) hx hb dX5_delegate_59 (by decide) (fun c9 => ?_) (fun c9 => ?_)
      · have hf := ifF c9 hf
        refine lv_aload_n (pc := 64) hx hb dX5_delegate_64 rfl (lv_at hl 0 rfl) ?_
        refine g_get (pc := 65) (v := .ref (q 11)) C h.1 0 (mW_c0 _ _ _) fl_X5_40 rfl dX5_delegate_65 ?_
        refine lv_iload_n (pc := 68) hx hb dX5_delegate_68 rfl (lv_at hl 1 rfl) ?_
        obtain ⟨hin, hf⟩ := ifS hf
        refine g_ild (pc := 69) (n := 8) (f := ((f_X5_goes σ (0 : Int32) (0 : Int32) (1 : Int32)).2 12)) C h.1 11 (mW_c11 _ _ _) hin dX5_delegate_69 ?_
        refine lv_istore (pc := 70) (lv' := [(6, .int (((f_X5_goes σ (0 : Int32) (0 : Int32) (1 : Int32)).2 12) x1.toNatClampNeg)), (0, .ref (q 0)), (1, .int x1), (2, .int x2), (3, .int x3), (4, .int x4), (5, .int x5)]) hx hb dX5_delegate_70 hl (by decide) rfl (fun ls hl => ?_)
        refine lv_aload_n (pc := 72) hx hb dX5_delegate_72 rfl (lv_at hl 1 rfl) ?_
        refine g_get (pc := 73) (v := .ref (q 11)) C h.1 0 (mW_c0 _ _ _) fl_X5_40 rfl dX5_delegate_73 ?_
        refine lv_iload_n (pc := 76) hx hb dX5_delegate_76 rfl (lv_at hl 2 rfl) ?_
        refine lv_iload_n (pc := 77) hx hb dX5_delegate_77 rfl (lv_at hl 3 rfl) ?_
        obtain ⟨hin, hf⟩ := ifS hf
        obtain ⟨t1, et1, hf⟩ := ltS hf
        refine g_ist (pc := 78) (n := 8) (f := ((f_X5_goes σ (0 : Int32) (0 : Int32) (1 : Int32)).2 12)) (ws' := (mW q cA t1)) C h 11 (mW_c11 _ _ _) hin ((mW_w11 _ _ _ _).trans (congrArg (mW q cA) et1.symm)) dX5_delegate_78 (fun H locs h => ?_)
        refine lv_aload_n (pc := 79) hx hb dX5_delegate_79 rfl (lv_at hl 1 rfl) ?_
        refine g_get (pc := 80) (v := .ref (q 12)) C h.1 0 (mW_c0 _ _ _) fl_X5_43 rfl dX5_delegate_80 ?_
        refine lv_iload_n (pc := 83) hx hb dX5_delegate_83 rfl (lv_at hl 2 rfl) ?_
        refine lv_iload_n (pc := 84) hx hb dX5_delegate_84 rfl (lv_at hl 4 rfl) ?_
        obtain ⟨hin, hf⟩ := ifS hf
        obtain ⟨t2, et2, hf⟩ := ltS hf
        refine g_ist (pc := 85) (n := 8) (f := (t1 13)) (ws' := (mW q cA t2)) C h 12 (mW_c12 _ _ _) hin ((mW_w12 _ _ _ _).trans (congrArg (mW q cA) et2.symm)) dX5_delegate_85 (fun H locs h => ?_)
        refine lv_aload_n (pc := 86) hx hb dX5_delegate_86 rfl (lv_at hl 1 rfl) ?_
        refine g_get (pc := 87) (v := .ref (q 13)) C h.1 0 (mW_c0 _ _ _) fl_X5_46 rfl dX5_delegate_87 ?_
        refine lv_iload_n (pc := 90) hx hb dX5_delegate_90 rfl (lv_at hl 2 rfl) ?_
        refine lv_iload (pc := 91) hx hb dX5_delegate_91 (lv_at hl 5 rfl) ?_
        obtain ⟨hin, hf⟩ := ifS hf
        obtain ⟨t3, et3, hf⟩ := ltS hf
        refine g_ist (pc := 93) (n := 8) (f := (t2 14)) (ws' := (mW q cA t3)) C h 13 (mW_c13 _ _ _) hin ((mW_w13 _ _ _ _).trans (congrArg (mW q cA) et3.symm)) dX5_delegate_93 (fun H locs h => ?_)
        refine lv_aload_n (pc := 94) hx hb dX5_delegate_94 rfl (lv_at hl 1 rfl) ?_
        refine g_get (pc := 95) (v := .ref (q 14)) C h.1 0 (mW_c0 _ _ _) fl_X5_49 rfl dX5_delegate_95 ?_
        refine lv_iload_n (pc := 98) hx hb dX5_delegate_98 rfl (lv_at hl 2 rfl) ?_
        refine lv_iload (pc := 99) hx hb dX5_delegate_99 (lv_at hl 6 rfl) ?_
        obtain ⟨hin, hf⟩ := ifS hf
        obtain ⟨t4, et4, hf⟩ := ltS hf
        refine g_ist (pc := 101) (n := 8) (f := (t3 15)) (ws' := (mW q cA t4)) C h 14 (mW_c14 _ _ _) hin ((mW_w14 _ _ _ _).trans (congrArg (mW q cA) et4.symm)) dX5_delegate_101 (fun H locs h => ?_)
        refine lv_iload (pc := 102) hx hb dX5_delegate_102 (lv_at hl 0 rfl) ?_
        have hf : (some ((((f_X5_goes σ (0 : Int32) (0 : Int32) (1 : Int32)).2 12) x1.toNatClampNeg), t4)) = some z := hf
        cases hf
        exact ret_iU (pc := 104) C hr h dX5_delegate_104
      · have hf := ifT c9 hf
        refine lv_iconst (pc := 62) (v := 0) hx hb dX5_delegate_62 (by decide) ?_
        have hf : (some ((0 : Int32), (f_X5_goes σ (0 : Int32) (0 : Int32) (1 : Int32)).2)) = some z := hf
        cases hf
        exact ret_iU (pc := 63) C hr h dX5_delegate_63
    · have hf := ifF c9 hf
      refine lv_iload_n (pc := 25) hx hb dX5_delegate_25 rfl (lv_at hl 3 rfl) ?_
      refine lv_aload_n (pc := 26) hx hb dX5_delegate_26 rfl (lv_at hl 0 rfl) ?_
      refine g_get (pc := 27) (v := .int (σ 0 0)) C h.1 0 (mW_c0 _ _ _) fl_X5_113 rfl dX5_delegate_27 ?_
      refine lv_icmp_lt (pc := 30) (tgt := 54) hx hb dX5_delegate_30 (by decide) (fun c9 => ?_) (fun c9 => ?_)
      · have hf := ifT c9 hf
        refine lv_iconst (pc := 54) (v := 0) hx hb dX5_delegate_54 (by decide) ?_
        refine lv_iconst (pc := 55) (v := 1) hx hb dX5_delegate_55 (by decide) ?_
        refine call_VUs (pc := 56) (As := [.int (0 : Int32), .int (0 : Int32), .int (1 : Int32)]) (rest := []) C h (k_X5_goes σ (0 : Int32) (0 : Int32) (1 : Int32) rfl) cw_X5_123 0 (mW_c0 _ _ _) rfl (mW_fst _ _ _ _) rfl rfl hl.1 (Nat.le_of_ble_eq_true rfl) dX5_delegate_56 ⟨Nat.le_of_ble_eq_true rfl, Nat.le_of_ble_eq_true rfl⟩ rfl rfl ⟨Nat.le_of_ble_eq_true rfl, Nat.le_of_ble_eq_true rfl⟩ (fun H locs h => ?_)
        refine W.eq (g2 := F0 m 59 ls [.int (f_X5_goes σ (0 : Int32) (0 : Int32) (1 : Int32)).1]) rfl ?_
        refine lv_if_ne (pc := 59) (tgt := 64) hx hb dX5_delegate_59 (by decide) (fun c9 => ?_) (fun c9 => ?_)
        · have hf := ifF c9 hf
          refine lv_aload_n (pc := 64) hx hb dX5_delegate_64 rfl (lv_at hl 0 rfl) ?_
          refine g_get (pc := 65) (v := .ref (q 11)) C h.1 0 (mW_c0 _ _ _) fl_X5_40 rfl dX5_delegate_65 ?_
          refine lv_iload_n (pc := 68) hx hb dX5_delegate_68 rfl (lv_at hl 1 rfl) ?_
          obtain ⟨hin, hf⟩ := ifS hf
          refine g_ild (pc := 69) (n := 8) (f := ((f_X5_goes σ (0 : Int32) (0 : Int32) (1 : Int32)).2 12)) C h.1 11 (mW_c11 _ _ _) hin dX5_delegate_69 ?_
          refine lv_istore (pc := 70) (lv' := [(6, .int (((f_X5_goes σ (0 : Int32) (0 : Int32) (1 : Int32)).2 12) x1.toNatClampNeg)), (0, .ref (q 0)), (1, .int x1), (2, .int x2), (3, .int x3), (4, .int x4), (5, .int x5)]) hx hb dX5_delegate_70 hl (by decide) rfl (fun ls hl => ?_)
          refine lv_aload_n (pc := 72) hx hb dX5_delegate_72 rfl (lv_at hl 1 rfl) ?_
          refine g_get (pc := 73) (v := .ref (q 11)) C h.1 0 (mW_c0 _ _ _) fl_X5_40 rfl dX5_delegate_73 ?_
          refine lv_iload_n (pc := 76) hx hb dX5_delegate_76 rfl (lv_at hl 2 rfl) ?_
          refine lv_iload_n (pc := 77) hx hb dX5_delegate_77 rfl (lv_at hl 3 rfl) ?_
          obtain ⟨hin, hf⟩ := ifS hf
          obtain ⟨t1, et1, hf⟩ := ltS hf
          refine g_ist (pc := 78) (n := 8) (f := ((f_X5_goes σ (0 : Int32) (0 : Int32) (1 : Int32)).2 12)) (ws' := (mW q cA t1)) C h 11 (mW_c11 _ _ _) hin ((mW_w11 _ _ _ _).trans (congrArg (mW q cA) et1.symm)) dX5_delegate_78 (fun H locs h => ?_)
          refine lv_aload_n (pc := 79) hx hb dX5_delegate_79 rfl (lv_at hl 1 rfl) ?_
          refine g_get (pc := 80) (v := .ref (q 12)) C h.1 0 (mW_c0 _ _ _) fl_X5_43 rfl dX5_delegate_80 ?_
          refine lv_iload_n (pc := 83) hx hb dX5_delegate_83 rfl (lv_at hl 2 rfl) ?_
          refine lv_iload_n (pc := 84) hx hb dX5_delegate_84 rfl (lv_at hl 4 rfl) ?_
          obtain ⟨hin, hf⟩ := ifS hf
          obtain ⟨t2, et2, hf⟩ := ltS hf
          refine g_ist (pc := 85) (n := 8) (f := (t1 13)) (ws' := (mW q cA t2)) C h 12 (mW_c12 _ _ _) hin ((mW_w12 _ _ _ _).trans (congrArg (mW q cA) et2.symm)) dX5_delegate_85 (fun H locs h => ?_)
          refine lv_aload_n (pc := 86) hx hb dX5_delegate_86 rfl (lv_at hl 1 rfl) ?_
          refine g_get (pc := 87) (v := .ref (q 13)) C h.1 0 (mW_c0 _ _ _) fl_X5_46 rfl dX5_delegate_87 ?_
          refine lv_iload_n (pc := 90) hx hb dX5_delegate_90 rfl (lv_at hl 2 rfl) ?_
          refine lv_iload (pc := 91) hx hb dX5_delegate_91 (lv_at hl 5 rfl) ?_
          obtain ⟨hin, hf⟩ := ifS hf
          obtain ⟨t3, et3, hf⟩ := ltS hf
          refine g_ist (pc := 93) (n := 8) (f := (t2 14)) (ws' := (mW q cA t3)) C h 13 (mW_c13 _ _ _) hin ((mW_w13 _ _ _ _).trans (congrArg (mW q cA) et3.symm)) dX5_delegate_93 (fun H locs h => ?_)
          refine lv_aload_n (pc := 94) hx hb dX5_delegate_94 rfl (lv_at hl 1 rfl) ?_
          refine g_get (pc := 95) (v := .ref (q 14)) C h.1 0 (mW_c0 _ _ _) fl_X5_49 rfl dX5_delegate_95 ?_
          refine lv_iload_n (pc := 98) hx hb dX5_delegate_98 rfl (lv_at hl 2 rfl) ?_
          refine lv_iload (pc := 99) hx hb dX5_delegate_99 (lv_at hl 6 rfl) ?_
          obtain ⟨hin, hf⟩ := ifS hf
          obtain ⟨t4, et4, hf⟩ := ltS hf
          refine g_ist (pc := 101) (n := 8) (f := (t3 15)) (ws' := (mW q cA t4)) C h 14 (mW_c14 _ _ _) hin ((mW_w14 _ _ _ _).trans (congrArg (mW q cA) et4.symm)) dX5_delegate_101 (fun H locs h => ?_)
          refine lv_iload (pc := 102) hx hb dX5_delegate_102 (lv_at hl 0 rfl) ?_
          have hf : (some ((((f_X5_goes σ (0 : Int32) (0 : Int32) (1 : Int32)).2 12) x1.toNatClampNeg), t4)) = some z := hf
          cases hf
          exact ret_iU (pc := 104) C hr h dX5_delegate_104
        · have hf := ifT c9 hf
          refine lv_iconst (pc := 62) (v := 0) hx hb dX5_delegate_62 (by decide) ?_
          have hf : (some ((0 : Int32), (f_X5_goes σ (0 : Int32) (0 : Int32) (1 : Int32)).2)) = some z := hf
          cases hf
          exact ret_iU (pc := 63) C hr h dX5_delegate_63
      · have hf := ifF c9 hf
        refine lv_iload (pc := 33) hx hb dX5_delegate_33 (lv_at hl 4 rfl) ?_
        refine lv_iload_n (pc := 35) hx hb dX5_delegate_35 rfl (lv_at hl 3 rfl) ?_
        refine lv_icmp_lt (pc := 36) (tgt := 54) hx hb dX5_delegate_36 (by decide) (fun c9 => ?_) (fun c9 => ?_)
        · have hf := ifT c9 hf
          refine lv_iconst (pc := 54) (v := 0) hx hb dX5_delegate_54 (by decide) ?_
          refine lv_iconst (pc := 55) (v := 1) hx hb dX5_delegate_55 (by decide) ?_
          refine call_VUs (pc := 56) (As := [.int (0 : Int32), .int (0 : Int32), .int (1 : Int32)]) (rest := []) C h (k_X5_goes σ (0 : Int32) (0 : Int32) (1 : Int32) rfl) cw_X5_123 0 (mW_c0 _ _ _) rfl (mW_fst _ _ _ _) rfl rfl hl.1 (Nat.le_of_ble_eq_true rfl) dX5_delegate_56 ⟨Nat.le_of_ble_eq_true rfl, Nat.le_of_ble_eq_true rfl⟩ rfl rfl ⟨Nat.le_of_ble_eq_true rfl, Nat.le_of_ble_eq_true rfl⟩ (fun H locs h => ?_)
          refine W.eq (g2 := F0 m 59 ls [.int (f_X5_goes σ (0 : Int32) (0 : Int32) (1 : Int32)).1]) rfl ?_
          refine lv_if_ne (pc := 59) (tgt := 64) hx hb dX5_delegate_59 (by decide) (fun c9 => ?_) (fun c9 => ?_)
          · have hf := ifF c9 hf
            refine lv_aload_n (pc := 64) hx hb dX5_delegate_64 rfl (lv_at hl 0 rfl) ?_
            refine g_get (pc := 65) (v := .ref (q 11)) C h.1 0 (mW_c0 _ _ _) fl_X5_40 rfl dX5_delegate_65 ?_
            refine lv_iload_n (pc := 68) hx hb dX5_delegate_68 rfl (lv_at hl 1 rfl) ?_
            obtain ⟨hin, hf⟩ := ifS hf
            refine g_ild (pc := 69) (n := 8) (f := ((f_X5_goes σ (0 : Int32) (0 : Int32) (1 : Int32)).2 12)) C h.1 11 (mW_c11 _ _ _) hin dX5_delegate_69 ?_
            refine lv_istore (pc := 70) (lv' := [(6, .int (((f_X5_goes σ (0 : Int32) (0 : Int32) (1 : Int32)).2 12) x1.toNatClampNeg)), (0, .ref (q 0)), (1, .int x1), (2, .int x2), (3, .int x3), (4, .int x4), (5, .int x5)]) hx hb dX5_delegate_70 hl (by decide) rfl (fun ls hl => ?_)
            refine lv_aload_n (pc := 72) hx hb dX5_delegate_72 rfl (lv_at hl 1 rfl) ?_
            refine g_get (pc := 73) (v := .ref (q 11)) C h.1 0 (mW_c0 _ _ _) fl_X5_40 rfl dX5_delegate_73 ?_
            refine lv_iload_n (pc := 76) hx hb dX5_delegate_76 rfl (lv_at hl 2 rfl) ?_
            refine lv_iload_n (pc := 77) hx hb dX5_delegate_77 rfl (lv_at hl 3 rfl) ?_
            obtain ⟨hin, hf⟩ := ifS hf
            obtain ⟨t1, et1, hf⟩ := ltS hf
            refine g_ist (pc := 78) (n := 8) (f := ((f_X5_goes σ (0 : Int32) (0 : Int32) (1 : Int32)).2 12)) (ws' := (mW q cA t1)) C h 11 (mW_c11 _ _ _) hin ((mW_w11 _ _ _ _).trans (congrArg (mW q cA) et1.symm)) dX5_delegate_78 (fun H locs h => ?_)
            refine lv_aload_n (pc := 79) hx hb dX5_delegate_79 rfl (lv_at hl 1 rfl) ?_
            refine g_get (pc := 80) (v := .ref (q 12)) C h.1 0 (mW_c0 _ _ _) fl_X5_43 rfl dX5_delegate_80 ?_
            refine lv_iload_n (pc := 83) hx hb dX5_delegate_83 rfl (lv_at hl 2 rfl) ?_
            refine lv_iload_n (pc := 84) hx hb dX5_delegate_84 rfl (lv_at hl 4 rfl) ?_
            obtain ⟨hin, hf⟩ := ifS hf
            obtain ⟨t2, et2, hf⟩ := ltS hf
            refine g_ist (pc := 85) (n := 8) (f := (t1 13)) (ws' := (mW q cA t2)) C h 12 (mW_c12 _ _ _) hin ((mW_w12 _ _ _ _).trans (congrArg (mW q cA) et2.symm)) dX5_delegate_85 (fun H locs h => ?_)
            refine lv_aload_n (pc := 86) hx hb dX5_delegate_86 rfl (lv_at hl 1 rfl) ?_
            refine g_get (pc := 87) (v := .ref (q 13)) C h.1 0 (mW_c0 _ _ _) fl_X5_46 rfl dX5_delegate_87 ?_
            refine lv_iload_n (pc := 90) hx hb dX5_delegate_90 rfl (lv_at hl 2 rfl) ?_
            refine lv_iload (pc := 91) hx hb dX5_delegate_91 (lv_at hl 5 rfl) ?_
            obtain ⟨hin, hf⟩ := ifS hf
            obtain ⟨t3, et3, hf⟩ := ltS hf
            refine g_ist (pc := 93) (n := 8) (f := (t2 14)) (ws' := (mW q cA t3)) C h 13 (mW_c13 _ _ _) hin ((mW_w13 _ _ _ _).trans (congrArg (mW q cA) et3.symm)) dX5_delegate_93 (fun H locs h => ?_)
            refine lv_aload_n (pc := 94) hx hb dX5_delegate_94 rfl (lv_at hl 1 rfl) ?_
            refine g_get (pc := 95) (v := .ref (q 14)) C h.1 0 (mW_c0 _ _ _) fl_X5_49 rfl dX5_delegate_95 ?_
            refine lv_iload_n (pc := 98) hx hb dX5_delegate_98 rfl (lv_at hl 2 rfl) ?_
            refine lv_iload (pc := 99) hx hb dX5_delegate_99 (lv_at hl 6 rfl) ?_
            obtain ⟨hin, hf⟩ := ifS hf
            obtain ⟨t4, et4, hf⟩ := ltS hf
            refine g_ist (pc := 101) (n := 8) (f := (t3 15)) (ws' := (mW q cA t4)) C h 14 (mW_c14 _ _ _) hin ((mW_w14 _ _ _ _).trans (congrArg (mW q cA) et4.symm)) dX5_delegate_101 (fun H locs h => ?_)
            refine lv_iload (pc := 102) hx hb dX5_delegate_102 (lv_at hl 0 rfl) ?_
            have hf : (some ((((f_X5_goes σ (0 : Int32) (0 : Int32) (1 : Int32)).2 12) x1.toNatClampNeg), t4)) = some z := hf
            cases hf
            exact ret_iU (pc := 104) C hr h dX5_delegate_104
          · have hf := ifT c9 hf
            refine lv_iconst (pc := 62) (v := 0) hx hb dX5_delegate_62 (by decide) ?_
            have hf : (some ((0 : Int32), (f_X5_goes σ (0 : Int32) (0 : Int32) (1 : Int32)).2)) = some z := hf
            cases hf
            exact ret_iU (pc := 63) C hr h dX5_delegate_63
        · have hf := ifF c9 hf
          refine lv_iload (pc := 39) hx hb dX5_delegate_39 (lv_at hl 5 rfl) ?_
          refine lv_iconst (pc := 41) (v := 1) hx hb dX5_delegate_41 (by decide) ?_
          refine lv_bipush (pc := 42) (v := 9) hx hb dX5_delegate_42 (by decide) ?_
          refine call_SR (pc := 44) (As := [.int x5, .int (1 : Int32), .int (9 : Int32)]) (rest := [.int (0 : Int32), .ref (q 0)]) (wc := []) C h (k_X5_in x5 (1 : Int32) (9 : Int32) rfl) cw_X5_71 [] rfl rfl rfl rfl hl.1 (Nat.le_of_ble_eq_true rfl) dX5_delegate_44 ⟨Nat.le_of_ble_eq_true rfl, Nat.le_of_ble_eq_true rfl⟩ rfl rfl ⟨Nat.le_of_ble_eq_true rfl, Nat.le_of_ble_eq_true rfl⟩ (fun H locs h => ?_)
          refine W.eq (g2 := F0 m 47 ls [.int (f_X5_in x5 (1 : Int32) (9 : Int32)), .int (0 : Int32), .ref (q 0)]) rfl ?_
          refine lv_if_eq (pc := 47) (tgt := 54) hx hb dX5_delegate_47 (by decide) (fun c9 => ?_) (fun c9 => ?_)
          · have hf := ifT c9 hf
            refine lv_iconst (pc := 54) (v := 0) hx hb dX5_delegate_54 (by decide) ?_
            refine lv_iconst (pc := 55) (v := 1) hx hb dX5_delegate_55 (by decide) ?_
            refine call_VUs (pc := 56) (As := [.int (0 : Int32), .int (0 : Int32), .int (1 : Int32)]) (rest := []) C h (k_X5_goes σ (0 : Int32) (0 : Int32) (1 : Int32) rfl) cw_X5_123 0 (mW_c0 _ _ _) rfl (mW_fst _ _ _ _) rfl rfl hl.1 (Nat.le_of_ble_eq_true rfl) dX5_delegate_56 ⟨Nat.le_of_ble_eq_true rfl, Nat.le_of_ble_eq_true rfl⟩ rfl rfl ⟨Nat.le_of_ble_eq_true rfl, Nat.le_of_ble_eq_true rfl⟩ (fun H locs h => ?_)
            refine W.eq (g2 := F0 m 59 ls [.int (f_X5_goes σ (0 : Int32) (0 : Int32) (1 : Int32)).1]) rfl ?_
            refine lv_if_ne (pc := 59) (tgt := 64) hx hb dX5_delegate_59 (by decide) (fun c9 => ?_) (fun c9 => ?_)
            · have hf := ifF c9 hf
              refine lv_aload_n (pc := 64) hx hb dX5_delegate_64 rfl (lv_at hl 0 rfl) ?_
              refine g_get (pc := 65) (v := .ref (q 11)) C h.1 0 (mW_c0 _ _ _) fl_X5_40 rfl dX5_delegate_65 ?_
              refine lv_iload_n (pc := 68) hx hb dX5_delegate_68 rfl (lv_at hl 1 rfl) ?_
              obtain ⟨hin, hf⟩ := ifS hf
              refine g_ild (pc := 69) (n := 8) (f := ((f_X5_goes σ (0 : Int32) (0 : Int32) (1 : Int32)).2 12)) C h.1 11 (mW_c11 _ _ _) hin dX5_delegate_69 ?_
              refine lv_istore (pc := 70) (lv' := [(6, .int (((f_X5_goes σ (0 : Int32) (0 : Int32) (1 : Int32)).2 12) x1.toNatClampNeg)), (0, .ref (q 0)), (1, .int x1), (2, .int x2), (3, .int x3), (4, .int x4), (5, .int x5)]) hx hb dX5_delegate_70 hl (by decide) rfl (fun ls hl => ?_)
              refine lv_aload_n (pc := 72) hx hb dX5_delegate_72 rfl (lv_at hl 1 rfl) ?_
              refine g_get (pc := 73) (v := .ref (q 11)) C h.1 0 (mW_c0 _ _ _) fl_X5_40 rfl dX5_delegate_73 ?_
              refine lv_iload_n (pc := 76) hx hb dX5_delegate_76 rfl (lv_at hl 2 rfl) ?_
              refine lv_iload_n (pc := 77) hx hb dX5_delegate_77 rfl (lv_at hl 3 rfl) ?_
              obtain ⟨hin, hf⟩ := ifS hf
              obtain ⟨t1, et1, hf⟩ := ltS hf
              refine g_ist (pc := 78) (n := 8) (f := ((f_X5_goes σ (0 : Int32) (0 : Int32) (1 : Int32)).2 12)) (ws' := (mW q cA t1)) C h 11 (mW_c11 _ _ _) hin ((mW_w11 _ _ _ _).trans (congrArg (mW q cA) et1.symm)) dX5_delegate_78 (fun H locs h => ?_)
              refine lv_aload_n (pc := 79) hx hb dX5_delegate_79 rfl (lv_at hl 1 rfl) ?_
              refine g_get (pc := 80) (v := .ref (q 12)) C h.1 0 (mW_c0 _ _ _) fl_X5_43 rfl dX5_delegate_80 ?_
              refine lv_iload_n (pc := 83) hx hb dX5_delegate_83 rfl (lv_at hl 2 rfl) ?_
              refine lv_iload_n (pc := 84) hx hb dX5_delegate_84 rfl (lv_at hl 4 rfl) ?_
              obtain ⟨hin, hf⟩ := ifS hf
              obtain ⟨t2, et2, hf⟩ := ltS hf
              refine g_ist (pc := 85) (n := 8) (f := (t1 13)) (ws' := (mW q cA t2)) C h 12 (mW_c12 _ _ _) hin ((mW_w12 _ _ _ _).trans (congrArg (mW q cA) et2.symm)) dX5_delegate_85 (fun H locs h => ?_)
              refine lv_aload_n (pc := 86) hx hb dX5_delegate_86 rfl (lv_at hl 1 rfl) ?_
              refine g_get (pc := 87) (v := .ref (q 13)) C h.1 0 (mW_c0 _ _ _) fl_X5_46 rfl dX5_delegate_87 ?_
              refine lv_iload_n (pc := 90) hx hb dX5_delegate_90 rfl (lv_at hl 2 rfl) ?_
              refine lv_iload (pc := 91) hx hb dX5_delegate_91 (lv_at hl 5 rfl) ?_
              obtain ⟨hin, hf⟩ := ifS hf
              obtain ⟨t3, et3, hf⟩ := ltS hf
              refine g_ist (pc := 93) (n := 8) (f := (t2 14)) (ws' := (mW q cA t3)) C h 13 (mW_c13 _ _ _) hin ((mW_w13 _ _ _ _).trans (congrArg (mW q cA) et3.symm)) dX5_delegate_93 (fun H locs h => ?_)
              refine lv_aload_n (pc := 94) hx hb dX5_delegate_94 rfl (lv_at hl 1 rfl) ?_
              refine g_get (pc := 95) (v := .ref (q 14)) C h.1 0 (mW_c0 _ _ _) fl_X5_49 rfl dX5_delegate_95 ?_
              refine lv_iload_n (pc := 98) hx hb dX5_delegate_98 rfl (lv_at hl 2 rfl) ?_
              refine lv_iload (pc := 99) hx hb dX5_delegate_99 (lv_at hl 6 rfl) ?_
              obtain ⟨hin, hf⟩ := ifS hf
              obtain ⟨t4, et4, hf⟩ := ltS hf
              refine g_ist (pc := 101) (n := 8) (f := (t3 15)) (ws' := (mW q cA t4)) C h 14 (mW_c14 _ _ _) hin ((mW_w14 _ _ _ _).trans (congrArg (mW q cA) et4.symm)) dX5_delegate_101 (fun H locs h => ?_)
              refine lv_iload (pc := 102) hx hb dX5_delegate_102 (lv_at hl 0 rfl) ?_
              have hf : (some ((((f_X5_goes σ (0 : Int32) (0 : Int32) (1 : Int32)).2 12) x1.toNatClampNeg), t4)) = some z := hf
              cases hf
              exact ret_iU (pc := 104) C hr h dX5_delegate_104
            · have hf := ifT c9 hf
              refine lv_iconst (pc := 62) (v := 0) hx hb dX5_delegate_62 (by decide) ?_
              have hf : (some ((0 : Int32), (f_X5_goes σ (0 : Int32) (0 : Int32) (1 : Int32)).2)) = some z := hf
              cases hf
              exact ret_iU (pc := 63) C hr h dX5_delegate_63
          · have hf := ifF c9 hf
            refine lv_iconst (pc := 50) (v := 1) hx hb dX5_delegate_50 (by decide) ?_
            refine lv_goto (pc := 51) (tgt := 55) hx hb dX5_delegate_51 (by decide) ?_
            refine lv_iconst (pc := 55) (v := 1) hx hb dX5_delegate_55 (by decide) ?_
            refine call_VUs (pc := 56) (As := [.int (0 : Int32), .int (1 : Int32), .int (1 : Int32)]) (rest := []) C h (k_X5_goes σ (0 : Int32) (1 : Int32) (1 : Int32) rfl) cw_X5_123 0 (mW_c0 _ _ _) rfl (mW_fst _ _ _ _) rfl rfl hl.1 (Nat.le_of_ble_eq_true rfl) dX5_delegate_56 ⟨Nat.le_of_ble_eq_true rfl, Nat.le_of_ble_eq_true rfl⟩ rfl rfl ⟨Nat.le_of_ble_eq_true rfl, Nat.le_of_ble_eq_true rfl⟩ (fun H locs h => ?_)
            refine W.eq (g2 := F0 m 59 ls [.int (f_X5_goes σ (0 : Int32) (1 : Int32) (1 : Int32)).1]) rfl ?_
            refine lv_if_ne (pc := 59) (tgt := 64) hx hb dX5_delegate_59 (by decide) (fun c9 => ?_) (fun c9 => ?_)
            · have hf := ifF c9 hf
              refine lv_aload_n (pc := 64) hx hb dX5_delegate_64 rfl (lv_at hl 0 rfl) ?_
              refine g_get (pc := 65) (v := .ref (q 11)) C h.1 0 (mW_c0 _ _ _) fl_X5_40 rfl dX5_delegate_65 ?_
              refine lv_iload_n (pc := 68) hx hb dX5_delegate_68 rfl (lv_at hl 1 rfl) ?_
              obtain ⟨hin, hf⟩ := ifS hf
              refine g_ild (pc := 69) (n := 8) (f := ((f_X5_goes σ (0 : Int32) (1 : Int32) (1 : Int32)).2 12)) C h.1 11 (mW_c11 _ _ _) hin dX5_delegate_69 ?_
              refine lv_istore (pc := 70) (lv' := [(6, .int (((f_X5_goes σ (0 : Int32) (1 : Int32) (1 : Int32)).2 12) x1.toNatClampNeg)), (0, .ref (q 0)), (1, .int x1), (2, .int x2), (3, .int x3), (4, .int x4), (5, .int x5)]) hx hb dX5_delegate_70 hl (by decide) rfl (fun ls hl => ?_)
              refine lv_aload_n (pc := 72) hx hb dX5_delegate_72 rfl (lv_at hl 1 rfl) ?_
              refine g_get (pc := 73) (v := .ref (q 11)) C h.1 0 (mW_c0 _ _ _) fl_X5_40 rfl dX5_delegate_73 ?_
              refine lv_iload_n (pc := 76) hx hb dX5_delegate_76 rfl (lv_at hl 2 rfl) ?_
              refine lv_iload_n (pc := 77) hx hb dX5_delegate_77 rfl (lv_at hl 3 rfl) ?_
              obtain ⟨hin, hf⟩ := ifS hf
              obtain ⟨t1, et1, hf⟩ := ltS hf
              refine g_ist (pc := 78) (n := 8) (f := ((f_X5_goes σ (0 : Int32) (1 : Int32) (1 : Int32)).2 12)) (ws' := (mW q cA t1)) C h 11 (mW_c11 _ _ _) hin ((mW_w11 _ _ _ _).trans (congrArg (mW q cA) et1.symm)) dX5_delegate_78 (fun H locs h => ?_)
              refine lv_aload_n (pc := 79) hx hb dX5_delegate_79 rfl (lv_at hl 1 rfl) ?_
              refine g_get (pc := 80) (v := .ref (q 12)) C h.1 0 (mW_c0 _ _ _) fl_X5_43 rfl dX5_delegate_80 ?_
              refine lv_iload_n (pc := 83) hx hb dX5_delegate_83 rfl (lv_at hl 2 rfl) ?_
              refine lv_iload_n (pc := 84) hx hb dX5_delegate_84 rfl (lv_at hl 4 rfl) ?_
              obtain ⟨hin, hf⟩ := ifS hf
              obtain ⟨t2, et2, hf⟩ := ltS hf
              refine g_ist (pc := 85) (n := 8) (f := (t1 13)) (ws' := (mW q cA t2)) C h 12 (mW_c12 _ _ _) hin ((mW_w12 _ _ _ _).trans (congrArg (mW q cA) et2.symm)) dX5_delegate_85 (fun H locs h => ?_)
              refine lv_aload_n (pc := 86) hx hb dX5_delegate_86 rfl (lv_at hl 1 rfl) ?_
              refine g_get (pc := 87) (v := .ref (q 13)) C h.1 0 (mW_c0 _ _ _) fl_X5_46 rfl dX5_delegate_87 ?_
              refine lv_iload_n (pc := 90) hx hb dX5_delegate_90 rfl (lv_at hl 2 rfl) ?_
              refine lv_iload (pc := 91) hx hb dX5_delegate_91 (lv_at hl 5 rfl) ?_
              obtain ⟨hin, hf⟩ := ifS hf
              obtain ⟨t3, et3, hf⟩ := ltS hf
              refine g_ist (pc := 93) (n := 8) (f := (t2 14)) (ws' := (mW q cA t3)) C h 13 (mW_c13 _ _ _) hin ((mW_w13 _ _ _ _).trans (congrArg (mW q cA) et3.symm)) dX5_delegate_93 (fun H locs h => ?_)
              refine lv_aload_n (pc := 94) hx hb dX5_delegate_94 rfl (lv_at hl 1 rfl) ?_
              refine g_get (pc := 95) (v := .ref (q 14)) C h.1 0 (mW_c0 _ _ _) fl_X5_49 rfl dX5_delegate_95 ?_
              refine lv_iload_n (pc := 98) hx hb dX5_delegate_98 rfl (lv_at hl 2 rfl) ?_
              refine lv_iload (pc := 99) hx hb dX5_delegate_99 (lv_at hl 6 rfl) ?_
              obtain ⟨hin, hf⟩ := ifS hf
              obtain ⟨t4, et4, hf⟩ := ltS hf
              refine g_ist (pc := 101) (n := 8) (f := (t3 15)) (ws' := (mW q cA t4)) C h 14 (mW_c14 _ _ _) hin ((mW_w14 _ _ _ _).trans (congrArg (mW q cA) et4.symm)) dX5_delegate_101 (fun H locs h => ?_)
              refine lv_iload (pc := 102) hx hb dX5_delegate_102 (lv_at hl 0 rfl) ?_
              have hf : (some ((((f_X5_goes σ (0 : Int32) (1 : Int32) (1 : Int32)).2 12) x1.toNatClampNeg), t4)) = some z := hf
              cases hf
              exact ret_iU (pc := 104) C hr h dX5_delegate_104
            · have hf := ifT c9 hf
              refine lv_iconst (pc := 62) (v := 0) hx hb dX5_delegate_62 (by decide) ?_
              have hf : (some ((0 : Int32), (f_X5_goes σ (0 : Int32) (1 : Int32) (1 : Int32)).2)) = some z := hf
              cases hf
              exact ret_iU (pc := 63) C hr h dX5_delegate_63
  · have hf := ifF c9 hf
    refine lv_iload_n (pc := 8) hx hb dX5_delegate_8 rfl (lv_at hl 2 rfl) ?_
    refine call_SR (pc := 9) (As := [.int x2]) (rest := [.ref (q 0)]) (wc := []) C h (k_X5_isPerson x2 rfl) cw_X5_127 [] rfl rfl rfl rfl hl.1 (Nat.le_of_ble_eq_true rfl) dX5_delegate_9 ⟨Nat.le_of_ble_eq_true rfl, Nat.le_of_ble_eq_true rfl⟩ rfl rfl ⟨Nat.le_of_ble_eq_true rfl, Nat.le_of_ble_eq_true rfl⟩ (fun H locs h => ?_)
    refine W.eq (g2 := F0 m 12 ls [.int (f_X5_isPerson x2), .ref (q 0)]) rfl ?_
    refine lv_if_eq (pc := 12) (tgt := 19) hx hb dX5_delegate_12 (by decide) (fun c9 => ?_) (fun c9 => ?_)
    · have hf := ifT c9 hf
      refine lv_iconst (pc := 19) (v := 0) hx hb dX5_delegate_19 (by decide) ?_
      refine lv_iload_n (pc := 20) hx hb dX5_delegate_20 rfl (lv_at hl 1 rfl) ?_
      refine lv_iload_n (pc := 21) hx hb dX5_delegate_21 rfl (lv_at hl 2 rfl) ?_
      refine lv_icmp_eq (pc := 22) (tgt := 54) hx hb dX5_delegate_22 (by decide) (fun c9 => ?_) (fun c9 => ?_)
      · have hf := ifT c9 hf
        refine lv_iconst (pc := 54) (v := 0) hx hb dX5_delegate_54 (by decide) ?_
        refine lv_iconst (pc := 55) (v := 1) hx hb dX5_delegate_55 (by decide) ?_
        refine call_VUs (pc := 56) (As := [.int (0 : Int32), .int (0 : Int32), .int (1 : Int32)]) (rest := []) C h (k_X5_goes σ (0 : Int32) (0 : Int32) (1 : Int32) rfl) cw_X5_123 0 (mW_c0 _ _ _) rfl (mW_fst _ _ _ _) rfl rfl hl.1 (Nat.le_of_ble_eq_true rfl) dX5_delegate_56 ⟨Nat.le_of_ble_eq_true rfl, Nat.le_of_ble_eq_true rfl⟩ rfl rfl ⟨Nat.le_of_ble_eq_true rfl, Nat.le_of_ble_eq_true rfl⟩ (fun H locs h => ?_)
        refine W.eq (g2 := F0 m 59 ls [.int (f_X5_goes σ (0 : Int32) (0 : Int32) (1 : Int32)).1]) rfl ?_
        refine lv_if_ne (pc := 59) (tgt := 64) hx hb dX5_delegate_59 (by decide) (fun c9 => ?_) (fun c9 => ?_)
        · have hf := ifF c9 hf
          refine lv_aload_n (pc := 64) hx hb dX5_delegate_64 rfl (lv_at hl 0 rfl) ?_
          refine g_get (pc := 65) (v := .ref (q 11)) C h.1 0 (mW_c0 _ _ _) fl_X5_40 rfl dX5_delegate_65 ?_
          refine lv_iload_n (pc := 68) hx hb dX5_delegate_68 rfl (lv_at hl 1 rfl) ?_
          obtain ⟨hin, hf⟩ := ifS hf
          refine g_ild (pc := 69) (n := 8) (f := ((f_X5_goes σ (0 : Int32) (0 : Int32) (1 : Int32)).2 12)) C h.1 11 (mW_c11 _ _ _) hin dX5_delegate_69 ?_
          refine lv_istore (pc := 70) (lv' := [(6, .int (((f_X5_goes σ (0 : Int32) (0 : Int32) (1 : Int32)).2 12) x1.toNatClampNeg)), (0, .ref (q 0)), (1, .int x1), (2, .int x2), (3, .int x3), (4, .int x4), (5, .int x5)]) hx hb dX5_delegate_70 hl (by decide) rfl (fun ls hl => ?_)
          refine lv_aload_n (pc := 72) hx hb dX5_delegate_72 rfl (lv_at hl 1 rfl) ?_
          refine g_get (pc := 73) (v := .ref (q 11)) C h.1 0 (mW_c0 _ _ _) fl_X5_40 rfl dX5_delegate_73 ?_
          refine lv_iload_n (pc := 76) hx hb dX5_delegate_76 rfl (lv_at hl 2 rfl) ?_
          refine lv_iload_n (pc := 77) hx hb dX5_delegate_77 rfl (lv_at hl 3 rfl) ?_
          obtain ⟨hin, hf⟩ := ifS hf
          obtain ⟨t1, et1, hf⟩ := ltS hf
          refine g_ist (pc := 78) (n := 8) (f := ((f_X5_goes σ (0 : Int32) (0 : Int32) (1 : Int32)).2 12)) (ws' := (mW q cA t1)) C h 11 (mW_c11 _ _ _) hin ((mW_w11 _ _ _ _).trans (congrArg (mW q cA) et1.symm)) dX5_delegate_78 (fun H locs h => ?_)
          refine lv_aload_n (pc := 79) hx hb dX5_delegate_79 rfl (lv_at hl 1 rfl) ?_
          refine g_get (pc := 80) (v := .ref (q 12)) C h.1 0 (mW_c0 _ _ _) fl_X5_43 rfl dX5_delegate_80 ?_
          refine lv_iload_n (pc := 83) hx hb dX5_delegate_83 rfl (lv_at hl 2 rfl) ?_
          refine lv_iload_n (pc := 84) hx hb dX5_delegate_84 rfl (lv_at hl 4 rfl) ?_
          obtain ⟨hin, hf⟩ := ifS hf
          obtain ⟨t2, et2, hf⟩ := ltS hf
          refine g_ist (pc := 85) (n := 8) (f := (t1 13)) (ws' := (mW q cA t2)) C h 12 (mW_c12 _ _ _) hin ((mW_w12 _ _ _ _).trans (congrArg (mW q cA) et2.symm)) dX5_delegate_85 (fun H locs h => ?_)
          refine lv_aload_n (pc := 86) hx hb dX5_delegate_86 rfl (lv_at hl 1 rfl) ?_
          refine g_get (pc := 87) (v := .ref (q 13)) C h.1 0 (mW_c0 _ _ _) fl_X5_46 rfl dX5_delegate_87 ?_
          refine lv_iload_n (pc := 90) hx hb dX5_delegate_90 rfl (lv_at hl 2 rfl) ?_
          refine lv_iload (pc := 91) hx hb dX5_delegate_91 (lv_at hl 5 rfl) ?_
          obtain ⟨hin, hf⟩ := ifS hf
          obtain ⟨t3, et3, hf⟩ := ltS hf
          refine g_ist (pc := 93) (n := 8) (f := (t2 14)) (ws' := (mW q cA t3)) C h 13 (mW_c13 _ _ _) hin ((mW_w13 _ _ _ _).trans (congrArg (mW q cA) et3.symm)) dX5_delegate_93 (fun H locs h => ?_)
          refine lv_aload_n (pc := 94) hx hb dX5_delegate_94 rfl (lv_at hl 1 rfl) ?_
          refine g_get (pc := 95) (v := .ref (q 14)) C h.1 0 (mW_c0 _ _ _) fl_X5_49 rfl dX5_delegate_95 ?_
          refine lv_iload_n (pc := 98) hx hb dX5_delegate_98 rfl (lv_at hl 2 rfl) ?_
          refine lv_iload (pc := 99) hx hb dX5_delegate_99 (lv_at hl 6 rfl) ?_
          obtain ⟨hin, hf⟩ := ifS hf
          obtain ⟨t4, et4, hf⟩ := ltS hf
          refine g_ist (pc := 101) (n := 8) (f := (t3 15)) (ws' := (mW q cA t4)) C h 14 (mW_c14 _ _ _) hin ((mW_w14 _ _ _ _).trans (congrArg (mW q cA) et4.symm)) dX5_delegate_101 (fun H locs h => ?_)
          refine lv_iload (pc := 102) hx hb dX5_delegate_102 (lv_at hl 0 rfl) ?_
          have hf : (some ((((f_X5_goes σ (0 : Int32) (0 : Int32) (1 : Int32)).2 12) x1.toNatClampNeg), t4)) = some z := hf
          cases hf
          exact ret_iU (pc := 104) C hr h dX5_delegate_104
        · have hf := ifT c9 hf
          refine lv_iconst (pc := 62) (v := 0) hx hb dX5_delegate_62 (by decide) ?_
          have hf : (some ((0 : Int32), (f_X5_goes σ (0 : Int32) (0 : Int32) (1 : Int32)).2)) = some z := hf
          cases hf
          exact ret_iU (pc := 63) C hr h dX5_delegate_63
      · have hf := ifF c9 hf
        refine lv_iload_n (pc := 25) hx hb dX5_delegate_25 rfl (lv_at hl 3 rfl) ?_
        refine lv_aload_n (pc := 26) hx hb dX5_delegate_26 rfl (lv_at hl 0 rfl) ?_
        refine g_get (pc := 27) (v := .int (σ 0 0)) C h.1 0 (mW_c0 _ _ _) fl_X5_113 rfl dX5_delegate_27 ?_
        refine lv_icmp_lt (pc := 30) (tgt := 54) hx hb dX5_delegate_30 (by decide) (fun c9 => ?_) (fun c9 => ?_)
        · have hf := ifT c9 hf
          refine lv_iconst (pc := 54) (v := 0) hx hb dX5_delegate_54 (by decide) ?_
          refine lv_iconst (pc := 55) (v := 1) hx hb dX5_delegate_55 (by decide) ?_
          refine call_VUs (pc := 56) (As := [.int (0 : Int32), .int (0 : Int32), .int (1 : Int32)]) (rest := []) C h (k_X5_goes σ (0 : Int32) (0 : Int32) (1 : Int32) rfl) cw_X5_123 0 (mW_c0 _ _ _) rfl (mW_fst _ _ _ _) rfl rfl hl.1 (Nat.le_of_ble_eq_true rfl) dX5_delegate_56 ⟨Nat.le_of_ble_eq_true rfl, Nat.le_of_ble_eq_true rfl⟩ rfl rfl ⟨Nat.le_of_ble_eq_true rfl, Nat.le_of_ble_eq_true rfl⟩ (fun H locs h => ?_)
          refine W.eq (g2 := F0 m 59 ls [.int (f_X5_goes σ (0 : Int32) (0 : Int32) (1 : Int32)).1]) rfl ?_
          refine lv_if_ne (pc := 59) (tgt := 64) hx hb dX5_delegate_59 (by decide) (fun c9 => ?_) (fun c9 => ?_)
          · have hf := ifF c9 hf
            refine lv_aload_n (pc := 64) hx hb dX5_delegate_64 rfl (lv_at hl 0 rfl) ?_
            refine g_get (pc := 65) (v := .ref (q 11)) C h.1 0 (mW_c0 _ _ _) fl_X5_40 rfl dX5_delegate_65 ?_
            refine lv_iload_n (pc := 68) hx hb dX5_delegate_68 rfl (lv_at hl 1 rfl) ?_
            obtain ⟨hin, hf⟩ := ifS hf
            refine g_ild (pc := 69) (n := 8) (f := ((f_X5_goes σ (0 : Int32) (0 : Int32) (1 : Int32)).2 12)) C h.1 11 (mW_c11 _ _ _) hin dX5_delegate_69 ?_
            refine lv_istore (pc := 70) (lv' := [(6, .int (((f_X5_goes σ (0 : Int32) (0 : Int32) (1 : Int32)).2 12) x1.toNatClampNeg)), (0, .ref (q 0)), (1, .int x1), (2, .int x2), (3, .int x3), (4, .int x4), (5, .int x5)]) hx hb dX5_delegate_70 hl (by decide) rfl (fun ls hl => ?_)
            refine lv_aload_n (pc := 72) hx hb dX5_delegate_72 rfl (lv_at hl 1 rfl) ?_
            refine g_get (pc := 73) (v := .ref (q 11)) C h.1 0 (mW_c0 _ _ _) fl_X5_40 rfl dX5_delegate_73 ?_
            refine lv_iload_n (pc := 76) hx hb dX5_delegate_76 rfl (lv_at hl 2 rfl) ?_
            refine lv_iload_n (pc := 77) hx hb dX5_delegate_77 rfl (lv_at hl 3 rfl) ?_
            obtain ⟨hin, hf⟩ := ifS hf
            obtain ⟨t1, et1, hf⟩ := ltS hf
            refine g_ist (pc := 78) (n := 8) (f := ((f_X5_goes σ (0 : Int32) (0 : Int32) (1 : Int32)).2 12)) (ws' := (mW q cA t1)) C h 11 (mW_c11 _ _ _) hin ((mW_w11 _ _ _ _).trans (congrArg (mW q cA) et1.symm)) dX5_delegate_78 (fun H locs h => ?_)
            refine lv_aload_n (pc := 79) hx hb dX5_delegate_79 rfl (lv_at hl 1 rfl) ?_
            refine g_get (pc := 80) (v := .ref (q 12)) C h.1 0 (mW_c0 _ _ _) fl_X5_43 rfl dX5_delegate_80 ?_
            refine lv_iload_n (pc := 83) hx hb dX5_delegate_83 rfl (lv_at hl 2 rfl) ?_
            refine lv_iload_n (pc := 84) hx hb dX5_delegate_84 rfl (lv_at hl 4 rfl) ?_
            obtain ⟨hin, hf⟩ := ifS hf
            obtain ⟨t2, et2, hf⟩ := ltS hf
            refine g_ist (pc := 85) (n := 8) (f := (t1 13)) (ws' := (mW q cA t2)) C h 12 (mW_c12 _ _ _) hin ((mW_w12 _ _ _ _).trans (congrArg (mW q cA) et2.symm)) dX5_delegate_85 (fun H locs h => ?_)
            refine lv_aload_n (pc := 86) hx hb dX5_delegate_86 rfl (lv_at hl 1 rfl) ?_
            refine g_get (pc := 87) (v := .ref (q 13)) C h.1 0 (mW_c0 _ _ _) fl_X5_46 rfl dX5_delegate_87 ?_
            refine lv_iload_n (pc := 90) hx hb dX5_delegate_90 rfl (lv_at hl 2 rfl) ?_
            refine lv_iload (pc := 91) hx hb dX5_delegate_91 (lv_at hl 5 rfl) ?_
            obtain ⟨hin, hf⟩ := ifS hf
            obtain ⟨t3, et3, hf⟩ := ltS hf
            refine g_ist (pc := 93) (n := 8) (f := (t2 14)) (ws' := (mW q cA t3)) C h 13 (mW_c13 _ _ _) hin ((mW_w13 _ _ _ _).trans (congrArg (mW q cA) et3.symm)) dX5_delegate_93 (fun H locs h => ?_)
            refine lv_aload_n (pc := 94) hx hb dX5_delegate_94 rfl (lv_at hl 1 rfl) ?_
            refine g_get (pc := 95) (v := .ref (q 14)) C h.1 0 (mW_c0 _ _ _) fl_X5_49 rfl dX5_delegate_95 ?_
            refine lv_iload_n (pc := 98) hx hb dX5_delegate_98 rfl (lv_at hl 2 rfl) ?_
            refine lv_iload (pc := 99) hx hb dX5_delegate_99 (lv_at hl 6 rfl) ?_
            obtain ⟨hin, hf⟩ := ifS hf
            obtain ⟨t4, et4, hf⟩ := ltS hf
            refine g_ist (pc := 101) (n := 8) (f := (t3 15)) (ws' := (mW q cA t4)) C h 14 (mW_c14 _ _ _) hin ((mW_w14 _ _ _ _).trans (congrArg (mW q cA) et4.symm)) dX5_delegate_101 (fun H locs h => ?_)
            refine lv_iload (pc := 102) hx hb dX5_delegate_102 (lv_at hl 0 rfl) ?_
            have hf : (some ((((f_X5_goes σ (0 : Int32) (0 : Int32) (1 : Int32)).2 12) x1.toNatClampNeg), t4)) = some z := hf
            cases hf
            exact ret_iU (pc := 104) C hr h dX5_delegate_104
          · have hf := ifT c9 hf
            refine lv_iconst (pc := 62) (v := 0) hx hb dX5_delegate_62 (by decide) ?_
            have hf : (some ((0 : Int32), (f_X5_goes σ (0 : Int32) (0 : Int32) (1 : Int32)).2)) = some z := hf
            cases hf
            exact ret_iU (pc := 63) C hr h dX5_delegate_63
        · have hf := ifF c9 hf
          refine lv_iload (pc := 33) hx hb dX5_delegate_33 (lv_at hl 4 rfl) ?_
          refine lv_iload_n (pc := 35) hx hb dX5_delegate_35 rfl (lv_at hl 3 rfl) ?_
          refine lv_icmp_lt (pc := 36) (tgt := 54) hx hb dX5_delegate_36 (by decide) (fun c9 => ?_) (fun c9 => ?_)
          · have hf := ifT c9 hf
            refine lv_iconst (pc := 54) (v := 0) hx hb dX5_delegate_54 (by decide) ?_
            refine lv_iconst (pc := 55) (v := 1) hx hb dX5_delegate_55 (by decide) ?_
            refine call_VUs (pc := 56) (As := [.int (0 : Int32), .int (0 : Int32), .int (1 : Int32)]) (rest := []) C h (k_X5_goes σ (0 : Int32) (0 : Int32) (1 : Int32) rfl) cw_X5_123 0 (mW_c0 _ _ _) rfl (mW_fst _ _ _ _) rfl rfl hl.1 (Nat.le_of_ble_eq_true rfl) dX5_delegate_56 ⟨Nat.le_of_ble_eq_true rfl, Nat.le_of_ble_eq_true rfl⟩ rfl rfl ⟨Nat.le_of_ble_eq_true rfl, Nat.le_of_ble_eq_true rfl⟩ (fun H locs h => ?_)
            refine W.eq (g2 := F0 m 59 ls [.int (f_X5_goes σ (0 : Int32) (0 : Int32) (1 : Int32)).1]) rfl ?_
            refine lv_if_ne (pc := 59) (tgt := 64) hx hb dX5_delegate_59 (by decide) (fun c9 => ?_) (fun c9 => ?_)
            · have hf := ifF c9 hf
              refine lv_aload_n (pc := 64) hx hb dX5_delegate_64 rfl (lv_at hl 0 rfl) ?_
              refine g_get (pc := 65) (v := .ref (q 11)) C h.1 0 (mW_c0 _ _ _) fl_X5_40 rfl dX5_delegate_65 ?_
              refine lv_iload_n (pc := 68) hx hb dX5_delegate_68 rfl (lv_at hl 1 rfl) ?_
              obtain ⟨hin, hf⟩ := ifS hf
              refine g_ild (pc := 69) (n := 8) (f := ((f_X5_goes σ (0 : Int32) (0 : Int32) (1 : Int32)).2 12)) C h.1 11 (mW_c11 _ _ _) hin dX5_delegate_69 ?_
              refine lv_istore (pc := 70) (lv' := [(6, .int (((f_X5_goes σ (0 : Int32) (0 : Int32) (1 : Int32)).2 12) x1.toNatClampNeg)), (0, .ref (q 0)), (1, .int x1), (2, .int x2), (3, .int x3), (4, .int x4), (5, .int x5)]) hx hb dX5_delegate_70 hl (by decide) rfl (fun ls hl => ?_)
              refine lv_aload_n (pc := 72) hx hb dX5_delegate_72 rfl (lv_at hl 1 rfl) ?_
              refine g_get (pc := 73) (v := .ref (q 11)) C h.1 0 (mW_c0 _ _ _) fl_X5_40 rfl dX5_delegate_73 ?_
              refine lv_iload_n (pc := 76) hx hb dX5_delegate_76 rfl (lv_at hl 2 rfl) ?_
              refine lv_iload_n (pc := 77) hx hb dX5_delegate_77 rfl (lv_at hl 3 rfl) ?_
              obtain ⟨hin, hf⟩ := ifS hf
              obtain ⟨t1, et1, hf⟩ := ltS hf
              refine g_ist (pc := 78) (n := 8) (f := ((f_X5_goes σ (0 : Int32) (0 : Int32) (1 : Int32)).2 12)) (ws' := (mW q cA t1)) C h 11 (mW_c11 _ _ _) hin ((mW_w11 _ _ _ _).trans (congrArg (mW q cA) et1.symm)) dX5_delegate_78 (fun H locs h => ?_)
              refine lv_aload_n (pc := 79) hx hb dX5_delegate_79 rfl (lv_at hl 1 rfl) ?_
              refine g_get (pc := 80) (v := .ref (q 12)) C h.1 0 (mW_c0 _ _ _) fl_X5_43 rfl dX5_delegate_80 ?_
              refine lv_iload_n (pc := 83) hx hb dX5_delegate_83 rfl (lv_at hl 2 rfl) ?_
              refine lv_iload_n (pc := 84) hx hb dX5_delegate_84 rfl (lv_at hl 4 rfl) ?_
              obtain ⟨hin, hf⟩ := ifS hf
              obtain ⟨t2, et2, hf⟩ := ltS hf
              refine g_ist (pc := 85) (n := 8) (f := (t1 13)) (ws' := (mW q cA t2)) C h 12 (mW_c12 _ _ _) hin ((mW_w12 _ _ _ _).trans (congrArg (mW q cA) et2.symm)) dX5_delegate_85 (fun H locs h => ?_)
              refine lv_aload_n (pc := 86) hx hb dX5_delegate_86 rfl (lv_at hl 1 rfl) ?_
              refine g_get (pc := 87) (v := .ref (q 13)) C h.1 0 (mW_c0 _ _ _) fl_X5_46 rfl dX5_delegate_87 ?_
              refine lv_iload_n (pc := 90) hx hb dX5_delegate_90 rfl (lv_at hl 2 rfl) ?_
              refine lv_iload (pc := 91) hx hb dX5_delegate_91 (lv_at hl 5 rfl) ?_
              obtain ⟨hin, hf⟩ := ifS hf
              obtain ⟨t3, et3, hf⟩ := ltS hf
              refine g_ist (pc := 93) (n := 8) (f := (t2 14)) (ws' := (mW q cA t3)) C h 13 (mW_c13 _ _ _) hin ((mW_w13 _ _ _ _).trans (congrArg (mW q cA) et3.symm)) dX5_delegate_93 (fun H locs h => ?_)
              refine lv_aload_n (pc := 94) hx hb dX5_delegate_94 rfl (lv_at hl 1 rfl) ?_
              refine g_get (pc := 95) (v := .ref (q 14)) C h.1 0 (mW_c0 _ _ _) fl_X5_49 rfl dX5_delegate_95 ?_
              refine lv_iload_n (pc := 98) hx hb dX5_delegate_98 rfl (lv_at hl 2 rfl) ?_
              refine lv_iload (pc := 99) hx hb dX5_delegate_99 (lv_at hl 6 rfl) ?_
              obtain ⟨hin, hf⟩ := ifS hf
              obtain ⟨t4, et4, hf⟩ := ltS hf
              refine g_ist (pc := 101) (n := 8) (f := (t3 15)) (ws' := (mW q cA t4)) C h 14 (mW_c14 _ _ _) hin ((mW_w14 _ _ _ _).trans (congrArg (mW q cA) et4.symm)) dX5_delegate_101 (fun H locs h => ?_)
              refine lv_iload (pc := 102) hx hb dX5_delegate_102 (lv_at hl 0 rfl) ?_
              have hf : (some ((((f_X5_goes σ (0 : Int32) (0 : Int32) (1 : Int32)).2 12) x1.toNatClampNeg), t4)) = some z := hf
              cases hf
              exact ret_iU (pc := 104) C hr h dX5_delegate_104
            · have hf := ifT c9 hf
              refine lv_iconst (pc := 62) (v := 0) hx hb dX5_delegate_62 (by decide) ?_
              have hf : (some ((0 : Int32), (f_X5_goes σ (0 : Int32) (0 : Int32) (1 : Int32)).2)) = some z := hf
              cases hf
              exact ret_iU (pc := 63) C hr h dX5_delegate_63
          · have hf := ifF c9 hf
            refine lv_iload (pc := 39) hx hb dX5_delegate_39 (lv_at hl 5 rfl) ?_
            refine lv_iconst (pc := 41) (v := 1) hx hb dX5_delegate_41 (by decide) ?_
            refine lv_bipush (pc := 42) (v := 9) hx hb dX5_delegate_42 (by decide) ?_
            refine call_SR (pc := 44) (As := [.int x5, .int (1 : Int32), .int (9 : Int32)]) (rest := [.int (0 : Int32), .ref (q 0)]) (wc := []) C h (k_X5_in x5 (1 : Int32) (9 : Int32) rfl) cw_X5_71 [] rfl rfl rfl rfl hl.1 (Nat.le_of_ble_eq_true rfl) dX5_delegate_44 ⟨Nat.le_of_ble_eq_true rfl, Nat.le_of_ble_eq_true rfl⟩ rfl rfl ⟨Nat.le_of_ble_eq_true rfl, Nat.le_of_ble_eq_true rfl⟩ (fun H locs h => ?_)
            refine W.eq (g2 := F0 m 47 ls [.int (f_X5_in x5 (1 : Int32) (9 : Int32)), .int (0 : Int32), .ref (q 0)]) rfl ?_
            refine lv_if_eq (pc := 47) (tgt := 54) hx hb dX5_delegate_47 (by decide) (fun c9 => ?_) (fun c9 => ?_)
            · have hf := ifT c9 hf
              refine lv_iconst (pc := 54) (v := 0) hx hb dX5_delegate_54 (by decide) ?_
              refine lv_iconst (pc := 55) (v := 1) hx hb dX5_delegate_55 (by decide) ?_
              refine call_VUs (pc := 56) (As := [.int (0 : Int32), .int (0 : Int32), .int (1 : Int32)]) (rest := []) C h (k_X5_goes σ (0 : Int32) (0 : Int32) (1 : Int32) rfl) cw_X5_123 0 (mW_c0 _ _ _) rfl (mW_fst _ _ _ _) rfl rfl hl.1 (Nat.le_of_ble_eq_true rfl) dX5_delegate_56 ⟨Nat.le_of_ble_eq_true rfl, Nat.le_of_ble_eq_true rfl⟩ rfl rfl ⟨Nat.le_of_ble_eq_true rfl, Nat.le_of_ble_eq_true rfl⟩ (fun H locs h => ?_)
              refine W.eq (g2 := F0 m 59 ls [.int (f_X5_goes σ (0 : Int32) (0 : Int32) (1 : Int32)).1]) rfl ?_
              refine lv_if_ne (pc := 59) (tgt := 64) hx hb dX5_delegate_59 (by decide) (fun c9 => ?_) (fun c9 => ?_)
              · have hf := ifF c9 hf
                refine lv_aload_n (pc := 64) hx hb dX5_delegate_64 rfl (lv_at hl 0 rfl) ?_
                refine g_get (pc := 65) (v := .ref (q 11)) C h.1 0 (mW_c0 _ _ _) fl_X5_40 rfl dX5_delegate_65 ?_
                refine lv_iload_n (pc := 68) hx hb dX5_delegate_68 rfl (lv_at hl 1 rfl) ?_
                obtain ⟨hin, hf⟩ := ifS hf
                refine g_ild (pc := 69) (n := 8) (f := ((f_X5_goes σ (0 : Int32) (0 : Int32) (1 : Int32)).2 12)) C h.1 11 (mW_c11 _ _ _) hin dX5_delegate_69 ?_
                refine lv_istore (pc := 70) (lv' := [(6, .int (((f_X5_goes σ (0 : Int32) (0 : Int32) (1 : Int32)).2 12) x1.toNatClampNeg)), (0, .ref (q 0)), (1, .int x1), (2, .int x2), (3, .int x3), (4, .int x4), (5, .int x5)]) hx hb dX5_delegate_70 hl (by decide) rfl (fun ls hl => ?_)
                refine lv_aload_n (pc := 72) hx hb dX5_delegate_72 rfl (lv_at hl 1 rfl) ?_
                refine g_get (pc := 73) (v := .ref (q 11)) C h.1 0 (mW_c0 _ _ _) fl_X5_40 rfl dX5_delegate_73 ?_
                refine lv_iload_n (pc := 76) hx hb dX5_delegate_76 rfl (lv_at hl 2 rfl) ?_
                refine lv_iload_n (pc := 77) hx hb dX5_delegate_77 rfl (lv_at hl 3 rfl) ?_
                obtain ⟨hin, hf⟩ := ifS hf
                obtain ⟨t1, et1, hf⟩ := ltS hf
                refine g_ist (pc := 78) (n := 8) (f := ((f_X5_goes σ (0 : Int32) (0 : Int32) (1 : Int32)).2 12)) (ws' := (mW q cA t1)) C h 11 (mW_c11 _ _ _) hin ((mW_w11 _ _ _ _).trans (congrArg (mW q cA) et1.symm)) dX5_delegate_78 (fun H locs h => ?_)
                refine lv_aload_n (pc := 79) hx hb dX5_delegate_79 rfl (lv_at hl 1 rfl) ?_
                refine g_get (pc := 80) (v := .ref (q 12)) C h.1 0 (mW_c0 _ _ _) fl_X5_43 rfl dX5_delegate_80 ?_
                refine lv_iload_n (pc := 83) hx hb dX5_delegate_83 rfl (lv_at hl 2 rfl) ?_
                refine lv_iload_n (pc := 84) hx hb dX5_delegate_84 rfl (lv_at hl 4 rfl) ?_
                obtain ⟨hin, hf⟩ := ifS hf
                obtain ⟨t2, et2, hf⟩ := ltS hf
                refine g_ist (pc := 85) (n := 8) (f := (t1 13)) (ws' := (mW q cA t2)) C h 12 (mW_c12 _ _ _) hin ((mW_w12 _ _ _ _).trans (congrArg (mW q cA) et2.symm)) dX5_delegate_85 (fun H locs h => ?_)
                refine lv_aload_n (pc := 86) hx hb dX5_delegate_86 rfl (lv_at hl 1 rfl) ?_
                refine g_get (pc := 87) (v := .ref (q 13)) C h.1 0 (mW_c0 _ _ _) fl_X5_46 rfl dX5_delegate_87 ?_
                refine lv_iload_n (pc := 90) hx hb dX5_delegate_90 rfl (lv_at hl 2 rfl) ?_
                refine lv_iload (pc := 91) hx hb dX5_delegate_91 (lv_at hl 5 rfl) ?_
                obtain ⟨hin, hf⟩ := ifS hf
                obtain ⟨t3, et3, hf⟩ := ltS hf
                refine g_ist (pc := 93) (n := 8) (f := (t2 14)) (ws' := (mW q cA t3)) C h 13 (mW_c13 _ _ _) hin ((mW_w13 _ _ _ _).trans (congrArg (mW q cA) et3.symm)) dX5_delegate_93 (fun H locs h => ?_)
                refine lv_aload_n (pc := 94) hx hb dX5_delegate_94 rfl (lv_at hl 1 rfl) ?_
                refine g_get (pc := 95) (v := .ref (q 14)) C h.1 0 (mW_c0 _ _ _) fl_X5_49 rfl dX5_delegate_95 ?_
                refine lv_iload_n (pc := 98) hx hb dX5_delegate_98 rfl (lv_at hl 2 rfl) ?_
                refine lv_iload (pc := 99) hx hb dX5_delegate_99 (lv_at hl 6 rfl) ?_
                obtain ⟨hin, hf⟩ := ifS hf
                obtain ⟨t4, et4, hf⟩ := ltS hf
                refine g_ist (pc := 101) (n := 8) (f := (t3 15)) (ws' := (mW q cA t4)) C h 14 (mW_c14 _ _ _) hin ((mW_w14 _ _ _ _).trans (congrArg (mW q cA) et4.symm)) dX5_delegate_101 (fun H locs h => ?_)
                refine lv_iload (pc := 102) hx hb dX5_delegate_102 (lv_at hl 0 rfl) ?_
                have hf : (some ((((f_X5_goes σ (0 : Int32) (0 : Int32) (1 : Int32)).2 12) x1.toNatClampNeg), t4)) = some z := hf
                cases hf
                exact ret_iU (pc := 104) C hr h dX5_delegate_104
              · have hf := ifT c9 hf
                refine lv_iconst (pc := 62) (v := 0) hx hb dX5_delegate_62 (by decide) ?_
                have hf : (some ((0 : Int32), (f_X5_goes σ (0 : Int32) (0 : Int32) (1 : Int32)).2)) = some z := hf
                cases hf
                exact ret_iU (pc := 63) C hr h dX5_delegate_63
            · have hf := ifF c9 hf
              refine lv_iconst (pc := 50) (v := 1) hx hb dX5_delegate_50 (by decide) ?_
              refine lv_goto (pc := 51) (tgt := 55) hx hb dX5_delegate_51 (by decide) ?_
              refine lv_iconst (pc := 55) (v := 1) hx hb dX5_delegate_55 (by decide) ?_
              refine call_VUs (pc := 56) (As := [.int (0 : Int32), .int (1 : Int32), .int (1 : Int32)]) (rest := []) C h (k_X5_goes σ (0 : Int32) (1 : Int32) (1 : Int32) rfl) cw_X5_123 0 (mW_c0 _ _ _) rfl (mW_fst _ _ _ _) rfl rfl hl.1 (Nat.le_of_ble_eq_true rfl) dX5_delegate_56 ⟨Nat.le_of_ble_eq_true rfl, Nat.le_of_ble_eq_true rfl⟩ rfl rfl ⟨Nat.le_of_ble_eq_true rfl, Nat.le_of_ble_eq_true rfl⟩ (fun H locs h => ?_)
              refine W.eq (g2 := F0 m 59 ls [.int (f_X5_goes σ (0 : Int32) (1 : Int32) (1 : Int32)).1]) rfl ?_
              refine lv_if_ne (pc := 59) (tgt := 64) hx hb dX5_delegate_59 (by decide) (fun c9 => ?_) (fun c9 => ?_)
              · have hf := ifF c9 hf
                refine lv_aload_n (pc := 64) hx hb dX5_delegate_64 rfl (lv_at hl 0 rfl) ?_
                refine g_get (pc := 65) (v := .ref (q 11)) C h.1 0 (mW_c0 _ _ _) fl_X5_40 rfl dX5_delegate_65 ?_
                refine lv_iload_n (pc := 68) hx hb dX5_delegate_68 rfl (lv_at hl 1 rfl) ?_
                obtain ⟨hin, hf⟩ := ifS hf
                refine g_ild (pc := 69) (n := 8) (f := ((f_X5_goes σ (0 : Int32) (1 : Int32) (1 : Int32)).2 12)) C h.1 11 (mW_c11 _ _ _) hin dX5_delegate_69 ?_
                refine lv_istore (pc := 70) (lv' := [(6, .int (((f_X5_goes σ (0 : Int32) (1 : Int32) (1 : Int32)).2 12) x1.toNatClampNeg)), (0, .ref (q 0)), (1, .int x1), (2, .int x2), (3, .int x3), (4, .int x4), (5, .int x5)]) hx hb dX5_delegate_70 hl (by decide) rfl (fun ls hl => ?_)
                refine lv_aload_n (pc := 72) hx hb dX5_delegate_72 rfl (lv_at hl 1 rfl) ?_
                refine g_get (pc := 73) (v := .ref (q 11)) C h.1 0 (mW_c0 _ _ _) fl_X5_40 rfl dX5_delegate_73 ?_
                refine lv_iload_n (pc := 76) hx hb dX5_delegate_76 rfl (lv_at hl 2 rfl) ?_
                refine lv_iload_n (pc := 77) hx hb dX5_delegate_77 rfl (lv_at hl 3 rfl) ?_
                obtain ⟨hin, hf⟩ := ifS hf
                obtain ⟨t1, et1, hf⟩ := ltS hf
                refine g_ist (pc := 78) (n := 8) (f := ((f_X5_goes σ (0 : Int32) (1 : Int32) (1 : Int32)).2 12)) (ws' := (mW q cA t1)) C h 11 (mW_c11 _ _ _) hin ((mW_w11 _ _ _ _).trans (congrArg (mW q cA) et1.symm)) dX5_delegate_78 (fun H locs h => ?_)
                refine lv_aload_n (pc := 79) hx hb dX5_delegate_79 rfl (lv_at hl 1 rfl) ?_
                refine g_get (pc := 80) (v := .ref (q 12)) C h.1 0 (mW_c0 _ _ _) fl_X5_43 rfl dX5_delegate_80 ?_
                refine lv_iload_n (pc := 83) hx hb dX5_delegate_83 rfl (lv_at hl 2 rfl) ?_
                refine lv_iload_n (pc := 84) hx hb dX5_delegate_84 rfl (lv_at hl 4 rfl) ?_
                obtain ⟨hin, hf⟩ := ifS hf
                obtain ⟨t2, et2, hf⟩ := ltS hf
                refine g_ist (pc := 85) (n := 8) (f := (t1 13)) (ws' := (mW q cA t2)) C h 12 (mW_c12 _ _ _) hin ((mW_w12 _ _ _ _).trans (congrArg (mW q cA) et2.symm)) dX5_delegate_85 (fun H locs h => ?_)
                refine lv_aload_n (pc := 86) hx hb dX5_delegate_86 rfl (lv_at hl 1 rfl) ?_
                refine g_get (pc := 87) (v := .ref (q 13)) C h.1 0 (mW_c0 _ _ _) fl_X5_46 rfl dX5_delegate_87 ?_
                refine lv_iload_n (pc := 90) hx hb dX5_delegate_90 rfl (lv_at hl 2 rfl) ?_
                refine lv_iload (pc := 91) hx hb dX5_delegate_91 (lv_at hl 5 rfl) ?_
                obtain ⟨hin, hf⟩ := ifS hf
                obtain ⟨t3, et3, hf⟩ := ltS hf
                refine g_ist (pc := 93) (n := 8) (f := (t2 14)) (ws' := (mW q cA t3)) C h 13 (mW_c13 _ _ _) hin ((mW_w13 _ _ _ _).trans (congrArg (mW q cA) et3.symm)) dX5_delegate_93 (fun H locs h => ?_)
                refine lv_aload_n (pc := 94) hx hb dX5_delegate_94 rfl (lv_at hl 1 rfl) ?_
                refine g_get (pc := 95) (v := .ref (q 14)) C h.1 0 (mW_c0 _ _ _) fl_X5_49 rfl dX5_delegate_95 ?_
                refine lv_iload_n (pc := 98) hx hb dX5_delegate_98 rfl (lv_at hl 2 rfl) ?_
                refine lv_iload (pc := 99) hx hb dX5_delegate_99 (lv_at hl 6 rfl) ?_
                obtain ⟨hin, hf⟩ := ifS hf
                obtain ⟨t4, et4, hf⟩ := ltS hf
                refine g_ist (pc := 101) (n := 8) (f := (t3 15)) (ws' := (mW q cA t4)) C h 14 (mW_c14 _ _ _) hin ((mW_w14 _ _ _ _).trans (congrArg (mW q cA) et4.symm)) dX5_delegate_101 (fun H locs h => ?_)
                refine lv_iload (pc := 102) hx hb dX5_delegate_102 (lv_at hl 0 rfl) ?_
                have hf : (some ((((f_X5_goes σ (0 : Int32) (1 : Int32) (1 : Int32)).2 12) x1.toNatClampNeg), t4)) = some z := hf
                cases hf
                exact ret_iU (pc := 104) C hr h dX5_delegate_104
              · have hf := ifT c9 hf
                refine lv_iconst (pc := 62) (v := 0) hx hb dX5_delegate_62 (by decide) ?_
                have hf : (some ((0 : Int32), (f_X5_goes σ (0 : Int32) (1 : Int32) (1 : Int32)).2)) = some z := hf
                cases hf
                exact ret_iU (pc := 63) C hr h dX5_delegate_63
    · have hf := ifF c9 hf
      refine lv_iconst (pc := 15) (v := 1) hx hb dX5_delegate_15 (by decide) ?_
      refine lv_goto (pc := 16) (tgt := 20) hx hb dX5_delegate_16 (by decide) ?_
      refine lv_iload_n (pc := 20) hx hb dX5_delegate_20 rfl (lv_at hl 1 rfl) ?_
      refine lv_iload_n (pc := 21) hx hb dX5_delegate_21 rfl (lv_at hl 2 rfl) ?_
      refine lv_icmp_eq (pc := 22) (tgt := 54) hx hb dX5_delegate_22 (by decide) (fun c9 => ?_) (fun c9 => ?_)
      · have hf := ifT c9 hf
        refine lv_iconst (pc := 54) (v := 0) hx hb dX5_delegate_54 (by decide) ?_
        refine lv_iconst (pc := 55) (v := 1) hx hb dX5_delegate_55 (by decide) ?_
        refine call_VUs (pc := 56) (As := [.int (1 : Int32), .int (0 : Int32), .int (1 : Int32)]) (rest := []) C h (k_X5_goes σ (1 : Int32) (0 : Int32) (1 : Int32) rfl) cw_X5_123 0 (mW_c0 _ _ _) rfl (mW_fst _ _ _ _) rfl rfl hl.1 (Nat.le_of_ble_eq_true rfl) dX5_delegate_56 ⟨Nat.le_of_ble_eq_true rfl, Nat.le_of_ble_eq_true rfl⟩ rfl rfl ⟨Nat.le_of_ble_eq_true rfl, Nat.le_of_ble_eq_true rfl⟩ (fun H locs h => ?_)
        refine W.eq (g2 := F0 m 59 ls [.int (f_X5_goes σ (1 : Int32) (0 : Int32) (1 : Int32)).1]) rfl ?_
        refine lv_if_ne (pc := 59) (tgt := 64) hx hb dX5_delegate_59 (by decide) (fun c9 => ?_) (fun c9 => ?_)
        · have hf := ifF c9 hf
          refine lv_aload_n (pc := 64) hx hb dX5_delegate_64 rfl (lv_at hl 0 rfl) ?_
          refine g_get (pc := 65) (v := .ref (q 11)) C h.1 0 (mW_c0 _ _ _) fl_X5_40 rfl dX5_delegate_65 ?_
          refine lv_iload_n (pc := 68) hx hb dX5_delegate_68 rfl (lv_at hl 1 rfl) ?_
          obtain ⟨hin, hf⟩ := ifS hf
          refine g_ild (pc := 69) (n := 8) (f := ((f_X5_goes σ (1 : Int32) (0 : Int32) (1 : Int32)).2 12)) C h.1 11 (mW_c11 _ _ _) hin dX5_delegate_69 ?_
          refine lv_istore (pc := 70) (lv' := [(6, .int (((f_X5_goes σ (1 : Int32) (0 : Int32) (1 : Int32)).2 12) x1.toNatClampNeg)), (0, .ref (q 0)), (1, .int x1), (2, .int x2), (3, .int x3), (4, .int x4), (5, .int x5)]) hx hb dX5_delegate_70 hl (by decide) rfl (fun ls hl => ?_)
          refine lv_aload_n (pc := 72) hx hb dX5_delegate_72 rfl (lv_at hl 1 rfl) ?_
          refine g_get (pc := 73) (v := .ref (q 11)) C h.1 0 (mW_c0 _ _ _) fl_X5_40 rfl dX5_delegate_73 ?_
          refine lv_iload_n (pc := 76) hx hb dX5_delegate_76 rfl (lv_at hl 2 rfl) ?_
          refine lv_iload_n (pc := 77) hx hb dX5_delegate_77 rfl (lv_at hl 3 rfl) ?_
          obtain ⟨hin, hf⟩ := ifS hf
          obtain ⟨t1, et1, hf⟩ := ltS hf
          refine g_ist (pc := 78) (n := 8) (f := ((f_X5_goes σ (1 : Int32) (0 : Int32) (1 : Int32)).2 12)) (ws' := (mW q cA t1)) C h 11 (mW_c11 _ _ _) hin ((mW_w11 _ _ _ _).trans (congrArg (mW q cA) et1.symm)) dX5_delegate_78 (fun H locs h => ?_)
          refine lv_aload_n (pc := 79) hx hb dX5_delegate_79 rfl (lv_at hl 1 rfl) ?_
          refine g_get (pc := 80) (v := .ref (q 12)) C h.1 0 (mW_c0 _ _ _) fl_X5_43 rfl dX5_delegate_80 ?_
          refine lv_iload_n (pc := 83) hx hb dX5_delegate_83 rfl (lv_at hl 2 rfl) ?_
          refine lv_iload_n (pc := 84) hx hb dX5_delegate_84 rfl (lv_at hl 4 rfl) ?_
          obtain ⟨hin, hf⟩ := ifS hf
          obtain ⟨t2, et2, hf⟩ := ltS hf
          refine g_ist (pc := 85) (n := 8) (f := (t1 13)) (ws' := (mW q cA t2)) C h 12 (mW_c12 _ _ _) hin ((mW_w12 _ _ _ _).trans (congrArg (mW q cA) et2.symm)) dX5_delegate_85 (fun H locs h => ?_)
          refine lv_aload_n (pc := 86) hx hb dX5_delegate_86 rfl (lv_at hl 1 rfl) ?_
          refine g_get (pc := 87) (v := .ref (q 13)) C h.1 0 (mW_c0 _ _ _) fl_X5_46 rfl dX5_delegate_87 ?_
          refine lv_iload_n (pc := 90) hx hb dX5_delegate_90 rfl (lv_at hl 2 rfl) ?_
          refine lv_iload (pc := 91) hx hb dX5_delegate_91 (lv_at hl 5 rfl) ?_
          obtain ⟨hin, hf⟩ := ifS hf
          obtain ⟨t3, et3, hf⟩ := ltS hf
          refine g_ist (pc := 93) (n := 8) (f := (t2 14)) (ws' := (mW q cA t3)) C h 13 (mW_c13 _ _ _) hin ((mW_w13 _ _ _ _).trans (congrArg (mW q cA) et3.symm)) dX5_delegate_93 (fun H locs h => ?_)
          refine lv_aload_n (pc := 94) hx hb dX5_delegate_94 rfl (lv_at hl 1 rfl) ?_
          refine g_get (pc := 95) (v := .ref (q 14)) C h.1 0 (mW_c0 _ _ _) fl_X5_49 rfl dX5_delegate_95 ?_
          refine lv_iload_n (pc := 98) hx hb dX5_delegate_98 rfl (lv_at hl 2 rfl) ?_
          refine lv_iload (pc := 99) hx hb dX5_delegate_99 (lv_at hl 6 rfl) ?_
          obtain ⟨hin, hf⟩ := ifS hf
          obtain ⟨t4, et4, hf⟩ := ltS hf
          refine g_ist (pc := 101) (n := 8) (f := (t3 15)) (ws' := (mW q cA t4)) C h 14 (mW_c14 _ _ _) hin ((mW_w14 _ _ _ _).trans (congrArg (mW q cA) et4.symm)) dX5_delegate_101 (fun H locs h => ?_)
          refine lv_iload (pc := 102) hx hb dX5_delegate_102 (lv_at hl 0 rfl) ?_
          have hf : (some ((((f_X5_goes σ (1 : Int32) (0 : Int32) (1 : Int32)).2 12) x1.toNatClampNeg), t4)) = some z := hf
          cases hf
          exact ret_iU (pc := 104) C hr h dX5_delegate_104
        · have hf := ifT c9 hf
          refine lv_iconst (pc := 62) (v := 0) hx hb dX5_delegate_62 (by decide) ?_
          have hf : (some ((0 : Int32), (f_X5_goes σ (1 : Int32) (0 : Int32) (1 : Int32)).2)) = some z := hf
          cases hf
          exact ret_iU (pc := 63) C hr h dX5_delegate_63
      · have hf := ifF c9 hf
        refine lv_iload_n (pc := 25) hx hb dX5_delegate_25 rfl (lv_at hl 3 rfl) ?_
        refine lv_aload_n (pc := 26) hx hb dX5_delegate_26 rfl (lv_at hl 0 rfl) ?_
        refine g_get (pc := 27) (v := .int (σ 0 0)) C h.1 0 (mW_c0 _ _ _) fl_X5_113 rfl dX5_delegate_27 ?_
        refine lv_icmp_lt (pc := 30) (tgt := 54) hx hb dX5_delegate_30 (by decide) (fun c9 => ?_) (fun c9 => ?_)
        · have hf := ifT c9 hf
          refine lv_iconst (pc := 54) (v := 0) hx hb dX5_delegate_54 (by decide) ?_
          refine lv_iconst (pc := 55) (v := 1) hx hb dX5_delegate_55 (by decide) ?_
          refine call_VUs (pc := 56) (As := [.int (1 : Int32), .int (0 : Int32), .int (1 : Int32)]) (rest := []) C h (k_X5_goes σ (1 : Int32) (0 : Int32) (1 : Int32) rfl) cw_X5_123 0 (mW_c0 _ _ _) rfl (mW_fst _ _ _ _) rfl rfl hl.1 (Nat.le_of_ble_eq_true rfl) dX5_delegate_56 ⟨Nat.le_of_ble_eq_true rfl, Nat.le_of_ble_eq_true rfl⟩ rfl rfl ⟨Nat.le_of_ble_eq_true rfl, Nat.le_of_ble_eq_true rfl⟩ (fun H locs h => ?_)
          refine W.eq (g2 := F0 m 59 ls [.int (f_X5_goes σ (1 : Int32) (0 : Int32) (1 : Int32)).1]) rfl ?_
          refine lv_if_ne (pc := 59) (tgt := 64) hx hb dX5_delegate_59 (by decide) (fun c9 => ?_) (fun c9 => ?_)
          · have hf := ifF c9 hf
            refine lv_aload_n (pc := 64) hx hb dX5_delegate_64 rfl (lv_at hl 0 rfl) ?_
            refine g_get (pc := 65) (v := .ref (q 11)) C h.1 0 (mW_c0 _ _ _) fl_X5_40 rfl dX5_delegate_65 ?_
            refine lv_iload_n (pc := 68) hx hb dX5_delegate_68 rfl (lv_at hl 1 rfl) ?_
            obtain ⟨hin, hf⟩ := ifS hf
            refine g_ild (pc := 69) (n := 8) (f := ((f_X5_goes σ (1 : Int32) (0 : Int32) (1 : Int32)).2 12)) C h.1 11 (mW_c11 _ _ _) hin dX5_delegate_69 ?_
            refine lv_istore (pc := 70) (lv' := [(6, .int (((f_X5_goes σ (1 : Int32) (0 : Int32) (1 : Int32)).2 12) x1.toNatClampNeg)), (0, .ref (q 0)), (1, .int x1), (2, .int x2), (3, .int x3), (4, .int x4), (5, .int x5)]) hx hb dX5_delegate_70 hl (by decide) rfl (fun ls hl => ?_)
            refine lv_aload_n (pc := 72) hx hb dX5_delegate_72 rfl (lv_at hl 1 rfl) ?_
            refine g_get (pc := 73) (v := .ref (q 11)) C h.1 0 (mW_c0 _ _ _) fl_X5_40 rfl dX5_delegate_73 ?_
            refine lv_iload_n (pc := 76) hx hb dX5_delegate_76 rfl (lv_at hl 2 rfl) ?_
            refine lv_iload_n (pc := 77) hx hb dX5_delegate_77 rfl (lv_at hl 3 rfl) ?_
            obtain ⟨hin, hf⟩ := ifS hf
            obtain ⟨t1, et1, hf⟩ := ltS hf
            refine g_ist (pc := 78) (n := 8) (f := ((f_X5_goes σ (1 : Int32) (0 : Int32) (1 : Int32)).2 12)) (ws' := (mW q cA t1)) C h 11 (mW_c11 _ _ _) hin ((mW_w11 _ _ _ _).trans (congrArg (mW q cA) et1.symm)) dX5_delegate_78 (fun H locs h => ?_)
            refine lv_aload_n (pc := 79) hx hb dX5_delegate_79 rfl (lv_at hl 1 rfl) ?_
            refine g_get (pc := 80) (v := .ref (q 12)) C h.1 0 (mW_c0 _ _ _) fl_X5_43 rfl dX5_delegate_80 ?_
            refine lv_iload_n (pc := 83) hx hb dX5_delegate_83 rfl (lv_at hl 2 rfl) ?_
            refine lv_iload_n (pc := 84) hx hb dX5_delegate_84 rfl (lv_at hl 4 rfl) ?_
            obtain ⟨hin, hf⟩ := ifS hf
            obtain ⟨t2, et2, hf⟩ := ltS hf
            refine g_ist (pc := 85) (n := 8) (f := (t1 13)) (ws' := (mW q cA t2)) C h 12 (mW_c12 _ _ _) hin ((mW_w12 _ _ _ _).trans (congrArg (mW q cA) et2.symm)) dX5_delegate_85 (fun H locs h => ?_)
            refine lv_aload_n (pc := 86) hx hb dX5_delegate_86 rfl (lv_at hl 1 rfl) ?_
            refine g_get (pc := 87) (v := .ref (q 13)) C h.1 0 (mW_c0 _ _ _) fl_X5_46 rfl dX5_delegate_87 ?_
            refine lv_iload_n (pc := 90) hx hb dX5_delegate_90 rfl (lv_at hl 2 rfl) ?_
            refine lv_iload (pc := 91) hx hb dX5_delegate_91 (lv_at hl 5 rfl) ?_
            obtain ⟨hin, hf⟩ := ifS hf
            obtain ⟨t3, et3, hf⟩ := ltS hf
            refine g_ist (pc := 93) (n := 8) (f := (t2 14)) (ws' := (mW q cA t3)) C h 13 (mW_c13 _ _ _) hin ((mW_w13 _ _ _ _).trans (congrArg (mW q cA) et3.symm)) dX5_delegate_93 (fun H locs h => ?_)
            refine lv_aload_n (pc := 94) hx hb dX5_delegate_94 rfl (lv_at hl 1 rfl) ?_
            refine g_get (pc := 95) (v := .ref (q 14)) C h.1 0 (mW_c0 _ _ _) fl_X5_49 rfl dX5_delegate_95 ?_
            refine lv_iload_n (pc := 98) hx hb dX5_delegate_98 rfl (lv_at hl 2 rfl) ?_
            refine lv_iload (pc := 99) hx hb dX5_delegate_99 (lv_at hl 6 rfl) ?_
            obtain ⟨hin, hf⟩ := ifS hf
            obtain ⟨t4, et4, hf⟩ := ltS hf
            refine g_ist (pc := 101) (n := 8) (f := (t3 15)) (ws' := (mW q cA t4)) C h 14 (mW_c14 _ _ _) hin ((mW_w14 _ _ _ _).trans (congrArg (mW q cA) et4.symm)) dX5_delegate_101 (fun H locs h => ?_)
            refine lv_iload (pc := 102) hx hb dX5_delegate_102 (lv_at hl 0 rfl) ?_
            have hf : (some ((((f_X5_goes σ (1 : Int32) (0 : Int32) (1 : Int32)).2 12) x1.toNatClampNeg), t4)) = some z := hf
            cases hf
            exact ret_iU (pc := 104) C hr h dX5_delegate_104
          · have hf := ifT c9 hf
            refine lv_iconst (pc := 62) (v := 0) hx hb dX5_delegate_62 (by decide) ?_
            have hf : (some ((0 : Int32), (f_X5_goes σ (1 : Int32) (0 : Int32) (1 : Int32)).2)) = some z := hf
            cases hf
            exact ret_iU (pc := 63) C hr h dX5_delegate_63
        · have hf := ifF c9 hf
          refine lv_iload (pc := 33) hx hb dX5_delegate_33 (lv_at hl 4 rfl) ?_
          refine lv_iload_n (pc := 35) hx hb dX5_delegate_35 rfl (lv_at hl 3 rfl) ?_
          refine lv_icmp_lt (pc := 36) (tgt := 54) hx hb dX5_delegate_36 (by decide) (fun c9 => ?_) (fun c9 => ?_)
          · have hf := ifT c9 hf
            refine lv_iconst (pc := 54) (v := 0) hx hb dX5_delegate_54 (by decide) ?_
            refine lv_iconst (pc := 55) (v := 1) hx hb dX5_delegate_55 (by decide) ?_
            refine call_VUs (pc := 56) (As := [.int (1 : Int32), .int (0 : Int32), .int (1 : Int32)]) (rest := []) C h (k_X5_goes σ (1 : Int32) (0 : Int32) (1 : Int32) rfl) cw_X5_123 0 (mW_c0 _ _ _) rfl (mW_fst _ _ _ _) rfl rfl hl.1 (Nat.le_of_ble_eq_true rfl) dX5_delegate_56 ⟨Nat.le_of_ble_eq_true rfl, Nat.le_of_ble_eq_true rfl⟩ rfl rfl ⟨Nat.le_of_ble_eq_true rfl, Nat.le_of_ble_eq_true rfl⟩ (fun H locs h => ?_)
            refine W.eq (g2 := F0 m 59 ls [.int (f_X5_goes σ (1 : Int32) (0 : Int32) (1 : Int32)).1]) rfl ?_
            refine lv_if_ne (pc := 59) (tgt := 64) hx hb dX5_delegate_59 (by decide) (fun c9 => ?_) (fun c9 => ?_)
            · have hf := ifF c9 hf
              refine lv_aload_n (pc := 64) hx hb dX5_delegate_64 rfl (lv_at hl 0 rfl) ?_
              refine g_get (pc := 65) (v := .ref (q 11)) C h.1 0 (mW_c0 _ _ _) fl_X5_40 rfl dX5_delegate_65 ?_
              refine lv_iload_n (pc := 68) hx hb dX5_delegate_68 rfl (lv_at hl 1 rfl) ?_
              obtain ⟨hin, hf⟩ := ifS hf
              refine g_ild (pc := 69) (n := 8) (f := ((f_X5_goes σ (1 : Int32) (0 : Int32) (1 : Int32)).2 12)) C h.1 11 (mW_c11 _ _ _) hin dX5_delegate_69 ?_
              refine lv_istore (pc := 70) (lv' := [(6, .int (((f_X5_goes σ (1 : Int32) (0 : Int32) (1 : Int32)).2 12) x1.toNatClampNeg)), (0, .ref (q 0)), (1, .int x1), (2, .int x2), (3, .int x3), (4, .int x4), (5, .int x5)]) hx hb dX5_delegate_70 hl (by decide) rfl (fun ls hl => ?_)
              refine lv_aload_n (pc := 72) hx hb dX5_delegate_72 rfl (lv_at hl 1 rfl) ?_
              refine g_get (pc := 73) (v := .ref (q 11)) C h.1 0 (mW_c0 _ _ _) fl_X5_40 rfl dX5_delegate_73 ?_
              refine lv_iload_n (pc := 76) hx hb dX5_delegate_76 rfl (lv_at hl 2 rfl) ?_
              refine lv_iload_n (pc := 77) hx hb dX5_delegate_77 rfl (lv_at hl 3 rfl) ?_
              obtain ⟨hin, hf⟩ := ifS hf
              obtain ⟨t1, et1, hf⟩ := ltS hf
              refine g_ist (pc := 78) (n := 8) (f := ((f_X5_goes σ (1 : Int32) (0 : Int32) (1 : Int32)).2 12)) (ws' := (mW q cA t1)) C h 11 (mW_c11 _ _ _) hin ((mW_w11 _ _ _ _).trans (congrArg (mW q cA) et1.symm)) dX5_delegate_78 (fun H locs h => ?_)
              refine lv_aload_n (pc := 79) hx hb dX5_delegate_79 rfl (lv_at hl 1 rfl) ?_
              refine g_get (pc := 80) (v := .ref (q 12)) C h.1 0 (mW_c0 _ _ _) fl_X5_43 rfl dX5_delegate_80 ?_
              refine lv_iload_n (pc := 83) hx hb dX5_delegate_83 rfl (lv_at hl 2 rfl) ?_
              refine lv_iload_n (pc := 84) hx hb dX5_delegate_84 rfl (lv_at hl 4 rfl) ?_
              obtain ⟨hin, hf⟩ := ifS hf
              obtain ⟨t2, et2, hf⟩ := ltS hf
              refine g_ist (pc := 85) (n := 8) (f := (t1 13)) (ws' := (mW q cA t2)) C h 12 (mW_c12 _ _ _) hin ((mW_w12 _ _ _ _).trans (congrArg (mW q cA) et2.symm)) dX5_delegate_85 (fun H locs h => ?_)
              refine lv_aload_n (pc := 86) hx hb dX5_delegate_86 rfl (lv_at hl 1 rfl) ?_
              refine g_get (pc := 87) (v := .ref (q 13)) C h.1 0 (mW_c0 _ _ _) fl_X5_46 rfl dX5_delegate_87 ?_
              refine lv_iload_n (pc := 90) hx hb dX5_delegate_90 rfl (lv_at hl 2 rfl) ?_
              refine lv_iload (pc := 91) hx hb dX5_delegate_91 (lv_at hl 5 rfl) ?_
              obtain ⟨hin, hf⟩ := ifS hf
              obtain ⟨t3, et3, hf⟩ := ltS hf
              refine g_ist (pc := 93) (n := 8) (f := (t2 14)) (ws' := (mW q cA t3)) C h 13 (mW_c13 _ _ _) hin ((mW_w13 _ _ _ _).trans (congrArg (mW q cA) et3.symm)) dX5_delegate_93 (fun H locs h => ?_)
              refine lv_aload_n (pc := 94) hx hb dX5_delegate_94 rfl (lv_at hl 1 rfl) ?_
              refine g_get (pc := 95) (v := .ref (q 14)) C h.1 0 (mW_c0 _ _ _) fl_X5_49 rfl dX5_delegate_95 ?_
              refine lv_iload_n (pc := 98) hx hb dX5_delegate_98 rfl (lv_at hl 2 rfl) ?_
              refine lv_iload (pc := 99) hx hb dX5_delegate_99 (lv_at hl 6 rfl) ?_
              obtain ⟨hin, hf⟩ := ifS hf
              obtain ⟨t4, et4, hf⟩ := ltS hf
              refine g_ist (pc := 101) (n := 8) (f := (t3 15)) (ws' := (mW q cA t4)) C h 14 (mW_c14 _ _ _) hin ((mW_w14 _ _ _ _).trans (congrArg (mW q cA) et4.symm)) dX5_delegate_101 (fun H locs h => ?_)
              refine lv_iload (pc := 102) hx hb dX5_delegate_102 (lv_at hl 0 rfl) ?_
              have hf : (some ((((f_X5_goes σ (1 : Int32) (0 : Int32) (1 : Int32)).2 12) x1.toNatClampNeg), t4)) = some z := hf
              cases hf
              exact ret_iU (pc := 104) C hr h dX5_delegate_104
            · have hf := ifT c9 hf
              refine lv_iconst (pc := 62) (v := 0) hx hb dX5_delegate_62 (by decide) ?_
              have hf : (some ((0 : Int32), (f_X5_goes σ (1 : Int32) (0 : Int32) (1 : Int32)).2)) = some z := hf
              cases hf
              exact ret_iU (pc := 63) C hr h dX5_delegate_63
          · have hf := ifF c9 hf
            refine lv_iload (pc := 39) hx hb dX5_delegate_39 (lv_at hl 5 rfl) ?_
            refine lv_iconst (pc := 41) (v := 1) hx hb dX5_delegate_41 (by decide) ?_
            refine lv_bipush (pc := 42) (v := 9) hx hb dX5_delegate_42 (by decide) ?_
            refine call_SR (pc := 44) (As := [.int x5, .int (1 : Int32), .int (9 : Int32)]) (rest := [.int (1 : Int32), .ref (q 0)]) (wc := []) C h (k_X5_in x5 (1 : Int32) (9 : Int32) rfl) cw_X5_71 [] rfl rfl rfl rfl hl.1 (Nat.le_of_ble_eq_true rfl) dX5_delegate_44 ⟨Nat.le_of_ble_eq_true rfl, Nat.le_of_ble_eq_true rfl⟩ rfl rfl ⟨Nat.le_of_ble_eq_true rfl, Nat.le_of_ble_eq_true rfl⟩ (fun H locs h => ?_)
            refine W.eq (g2 := F0 m 47 ls [.int (f_X5_in x5 (1 : Int32) (9 : Int32)), .int (1 : Int32), .ref (q 0)]) rfl ?_
            refine lv_if_eq (pc := 47) (tgt := 54) hx hb dX5_delegate_47 (by decide) (fun c9 => ?_) (fun c9 => ?_)
            · have hf := ifT c9 hf
              refine lv_iconst (pc := 54) (v := 0) hx hb dX5_delegate_54 (by decide) ?_
              refine lv_iconst (pc := 55) (v := 1) hx hb dX5_delegate_55 (by decide) ?_
              refine call_VUs (pc := 56) (As := [.int (1 : Int32), .int (0 : Int32), .int (1 : Int32)]) (rest := []) C h (k_X5_goes σ (1 : Int32) (0 : Int32) (1 : Int32) rfl) cw_X5_123 0 (mW_c0 _ _ _) rfl (mW_fst _ _ _ _) rfl rfl hl.1 (Nat.le_of_ble_eq_true rfl) dX5_delegate_56 ⟨Nat.le_of_ble_eq_true rfl, Nat.le_of_ble_eq_true rfl⟩ rfl rfl ⟨Nat.le_of_ble_eq_true rfl, Nat.le_of_ble_eq_true rfl⟩ (fun H locs h => ?_)
              refine W.eq (g2 := F0 m 59 ls [.int (f_X5_goes σ (1 : Int32) (0 : Int32) (1 : Int32)).1]) rfl ?_
              refine lv_if_ne (pc := 59) (tgt := 64) hx hb dX5_delegate_59 (by decide) (fun c9 => ?_) (fun c9 => ?_)
              · have hf := ifF c9 hf
                refine lv_aload_n (pc := 64) hx hb dX5_delegate_64 rfl (lv_at hl 0 rfl) ?_
                refine g_get (pc := 65) (v := .ref (q 11)) C h.1 0 (mW_c0 _ _ _) fl_X5_40 rfl dX5_delegate_65 ?_
                refine lv_iload_n (pc := 68) hx hb dX5_delegate_68 rfl (lv_at hl 1 rfl) ?_
                obtain ⟨hin, hf⟩ := ifS hf
                refine g_ild (pc := 69) (n := 8) (f := ((f_X5_goes σ (1 : Int32) (0 : Int32) (1 : Int32)).2 12)) C h.1 11 (mW_c11 _ _ _) hin dX5_delegate_69 ?_
                refine lv_istore (pc := 70) (lv' := [(6, .int (((f_X5_goes σ (1 : Int32) (0 : Int32) (1 : Int32)).2 12) x1.toNatClampNeg)), (0, .ref (q 0)), (1, .int x1), (2, .int x2), (3, .int x3), (4, .int x4), (5, .int x5)]) hx hb dX5_delegate_70 hl (by decide) rfl (fun ls hl => ?_)
                refine lv_aload_n (pc := 72) hx hb dX5_delegate_72 rfl (lv_at hl 1 rfl) ?_
                refine g_get (pc := 73) (v := .ref (q 11)) C h.1 0 (mW_c0 _ _ _) fl_X5_40 rfl dX5_delegate_73 ?_
                refine lv_iload_n (pc := 76) hx hb dX5_delegate_76 rfl (lv_at hl 2 rfl) ?_
                refine lv_iload_n (pc := 77) hx hb dX5_delegate_77 rfl (lv_at hl 3 rfl) ?_
                obtain ⟨hin, hf⟩ := ifS hf
                obtain ⟨t1, et1, hf⟩ := ltS hf
                refine g_ist (pc := 78) (n := 8) (f := ((f_X5_goes σ (1 : Int32) (0 : Int32) (1 : Int32)).2 12)) (ws' := (mW q cA t1)) C h 11 (mW_c11 _ _ _) hin ((mW_w11 _ _ _ _).trans (congrArg (mW q cA) et1.symm)) dX5_delegate_78 (fun H locs h => ?_)
                refine lv_aload_n (pc := 79) hx hb dX5_delegate_79 rfl (lv_at hl 1 rfl) ?_
                refine g_get (pc := 80) (v := .ref (q 12)) C h.1 0 (mW_c0 _ _ _) fl_X5_43 rfl dX5_delegate_80 ?_
                refine lv_iload_n (pc := 83) hx hb dX5_delegate_83 rfl (lv_at hl 2 rfl) ?_
                refine lv_iload_n (pc := 84) hx hb dX5_delegate_84 rfl (lv_at hl 4 rfl) ?_
                obtain ⟨hin, hf⟩ := ifS hf
                obtain ⟨t2, et2, hf⟩ := ltS hf
                refine g_ist (pc := 85) (n := 8) (f := (t1 13)) (ws' := (mW q cA t2)) C h 12 (mW_c12 _ _ _) hin ((mW_w12 _ _ _ _).trans (congrArg (mW q cA) et2.symm)) dX5_delegate_85 (fun H locs h => ?_)
                refine lv_aload_n (pc := 86) hx hb dX5_delegate_86 rfl (lv_at hl 1 rfl) ?_
                refine g_get (pc := 87) (v := .ref (q 13)) C h.1 0 (mW_c0 _ _ _) fl_X5_46 rfl dX5_delegate_87 ?_
                refine lv_iload_n (pc := 90) hx hb dX5_delegate_90 rfl (lv_at hl 2 rfl) ?_
                refine lv_iload (pc := 91) hx hb dX5_delegate_91 (lv_at hl 5 rfl) ?_
                obtain ⟨hin, hf⟩ := ifS hf
                obtain ⟨t3, et3, hf⟩ := ltS hf
                refine g_ist (pc := 93) (n := 8) (f := (t2 14)) (ws' := (mW q cA t3)) C h 13 (mW_c13 _ _ _) hin ((mW_w13 _ _ _ _).trans (congrArg (mW q cA) et3.symm)) dX5_delegate_93 (fun H locs h => ?_)
                refine lv_aload_n (pc := 94) hx hb dX5_delegate_94 rfl (lv_at hl 1 rfl) ?_
                refine g_get (pc := 95) (v := .ref (q 14)) C h.1 0 (mW_c0 _ _ _) fl_X5_49 rfl dX5_delegate_95 ?_
                refine lv_iload_n (pc := 98) hx hb dX5_delegate_98 rfl (lv_at hl 2 rfl) ?_
                refine lv_iload (pc := 99) hx hb dX5_delegate_99 (lv_at hl 6 rfl) ?_
                obtain ⟨hin, hf⟩ := ifS hf
                obtain ⟨t4, et4, hf⟩ := ltS hf
                refine g_ist (pc := 101) (n := 8) (f := (t3 15)) (ws' := (mW q cA t4)) C h 14 (mW_c14 _ _ _) hin ((mW_w14 _ _ _ _).trans (congrArg (mW q cA) et4.symm)) dX5_delegate_101 (fun H locs h => ?_)
                refine lv_iload (pc := 102) hx hb dX5_delegate_102 (lv_at hl 0 rfl) ?_
                have hf : (some ((((f_X5_goes σ (1 : Int32) (0 : Int32) (1 : Int32)).2 12) x1.toNatClampNeg), t4)) = some z := hf
                cases hf
                exact ret_iU (pc := 104) C hr h dX5_delegate_104
              · have hf := ifT c9 hf
                refine lv_iconst (pc := 62) (v := 0) hx hb dX5_delegate_62 (by decide) ?_
                have hf : (some ((0 : Int32), (f_X5_goes σ (1 : Int32) (0 : Int32) (1 : Int32)).2)) = some z := hf
                cases hf
                exact ret_iU (pc := 63) C hr h dX5_delegate_63
            · have hf := ifF c9 hf
              refine lv_iconst (pc := 50) (v := 1) hx hb dX5_delegate_50 (by decide) ?_
              refine lv_goto (pc := 51) (tgt := 55) hx hb dX5_delegate_51 (by decide) ?_
              refine lv_iconst (pc := 55) (v := 1) hx hb dX5_delegate_55 (by decide) ?_
              refine call_VUs (pc := 56) (As := [.int (1 : Int32), .int (1 : Int32), .int (1 : Int32)]) (rest := []) C h (k_X5_goes σ (1 : Int32) (1 : Int32) (1 : Int32) rfl) cw_X5_123 0 (mW_c0 _ _ _) rfl (mW_fst _ _ _ _) rfl rfl hl.1 (Nat.le_of_ble_eq_true rfl) dX5_delegate_56 ⟨Nat.le_of_ble_eq_true rfl, Nat.le_of_ble_eq_true rfl⟩ rfl rfl ⟨Nat.le_of_ble_eq_true rfl, Nat.le_of_ble_eq_true rfl⟩ (fun H locs h => ?_)
              refine W.eq (g2 := F0 m 59 ls [.int (f_X5_goes σ (1 : Int32) (1 : Int32) (1 : Int32)).1]) rfl ?_
              refine lv_if_ne (pc := 59) (tgt := 64) hx hb dX5_delegate_59 (by decide) (fun c9 => ?_) (fun c9 => ?_)
              · have hf := ifF c9 hf
                refine lv_aload_n (pc := 64) hx hb dX5_delegate_64 rfl (lv_at hl 0 rfl) ?_
                refine g_get (pc := 65) (v := .ref (q 11)) C h.1 0 (mW_c0 _ _ _) fl_X5_40 rfl dX5_delegate_65 ?_
                refine lv_iload_n (pc := 68) hx hb dX5_delegate_68 rfl (lv_at hl 1 rfl) ?_
                obtain ⟨hin, hf⟩ := ifS hf
                refine g_ild (pc := 69) (n := 8) (f := ((f_X5_goes σ (1 : Int32) (1 : Int32) (1 : Int32)).2 12)) C h.1 11 (mW_c11 _ _ _) hin dX5_delegate_69 ?_
                refine lv_istore (pc := 70) (lv' := [(6, .int (((f_X5_goes σ (1 : Int32) (1 : Int32) (1 : Int32)).2 12) x1.toNatClampNeg)), (0, .ref (q 0)), (1, .int x1), (2, .int x2), (3, .int x3), (4, .int x4), (5, .int x5)]) hx hb dX5_delegate_70 hl (by decide) rfl (fun ls hl => ?_)
                refine lv_aload_n (pc := 72) hx hb dX5_delegate_72 rfl (lv_at hl 1 rfl) ?_
                refine g_get (pc := 73) (v := .ref (q 11)) C h.1 0 (mW_c0 _ _ _) fl_X5_40 rfl dX5_delegate_73 ?_
                refine lv_iload_n (pc := 76) hx hb dX5_delegate_76 rfl (lv_at hl 2 rfl) ?_
                refine lv_iload_n (pc := 77) hx hb dX5_delegate_77 rfl (lv_at hl 3 rfl) ?_
                obtain ⟨hin, hf⟩ := ifS hf
                obtain ⟨t1, et1, hf⟩ := ltS hf
                refine g_ist (pc := 78) (n := 8) (f := ((f_X5_goes σ (1 : Int32) (1 : Int32) (1 : Int32)).2 12)) (ws' := (mW q cA t1)) C h 11 (mW_c11 _ _ _) hin ((mW_w11 _ _ _ _).trans (congrArg (mW q cA) et1.symm)) dX5_delegate_78 (fun H locs h => ?_)
                refine lv_aload_n (pc := 79) hx hb dX5_delegate_79 rfl (lv_at hl 1 rfl) ?_
                refine g_get (pc := 80) (v := .ref (q 12)) C h.1 0 (mW_c0 _ _ _) fl_X5_43 rfl dX5_delegate_80 ?_
                refine lv_iload_n (pc := 83) hx hb dX5_delegate_83 rfl (lv_at hl 2 rfl) ?_
                refine lv_iload_n (pc := 84) hx hb dX5_delegate_84 rfl (lv_at hl 4 rfl) ?_
                obtain ⟨hin, hf⟩ := ifS hf
                obtain ⟨t2, et2, hf⟩ := ltS hf
                refine g_ist (pc := 85) (n := 8) (f := (t1 13)) (ws' := (mW q cA t2)) C h 12 (mW_c12 _ _ _) hin ((mW_w12 _ _ _ _).trans (congrArg (mW q cA) et2.symm)) dX5_delegate_85 (fun H locs h => ?_)
                refine lv_aload_n (pc := 86) hx hb dX5_delegate_86 rfl (lv_at hl 1 rfl) ?_
                refine g_get (pc := 87) (v := .ref (q 13)) C h.1 0 (mW_c0 _ _ _) fl_X5_46 rfl dX5_delegate_87 ?_
                refine lv_iload_n (pc := 90) hx hb dX5_delegate_90 rfl (lv_at hl 2 rfl) ?_
                refine lv_iload (pc := 91) hx hb dX5_delegate_91 (lv_at hl 5 rfl) ?_
                obtain ⟨hin, hf⟩ := ifS hf
                obtain ⟨t3, et3, hf⟩ := ltS hf
                refine g_ist (pc := 93) (n := 8) (f := (t2 14)) (ws' := (mW q cA t3)) C h 13 (mW_c13 _ _ _) hin ((mW_w13 _ _ _ _).trans (congrArg (mW q cA) et3.symm)) dX5_delegate_93 (fun H locs h => ?_)
                refine lv_aload_n (pc := 94) hx hb dX5_delegate_94 rfl (lv_at hl 1 rfl) ?_
                refine g_get (pc := 95) (v := .ref (q 14)) C h.1 0 (mW_c0 _ _ _) fl_X5_49 rfl dX5_delegate_95 ?_
                refine lv_iload_n (pc := 98) hx hb dX5_delegate_98 rfl (lv_at hl 2 rfl) ?_
                refine lv_iload (pc := 99) hx hb dX5_delegate_99 (lv_at hl 6 rfl) ?_
                obtain ⟨hin, hf⟩ := ifS hf
                obtain ⟨t4, et4, hf⟩ := ltS hf
                refine g_ist (pc := 101) (n := 8) (f := (t3 15)) (ws' := (mW q cA t4)) C h 14 (mW_c14 _ _ _) hin ((mW_w14 _ _ _ _).trans (congrArg (mW q cA) et4.symm)) dX5_delegate_101 (fun H locs h => ?_)
                refine lv_iload (pc := 102) hx hb dX5_delegate_102 (lv_at hl 0 rfl) ?_
                have hf : (some ((((f_X5_goes σ (1 : Int32) (1 : Int32) (1 : Int32)).2 12) x1.toNatClampNeg), t4)) = some z := hf
                cases hf
                exact ret_iU (pc := 104) C hr h dX5_delegate_104
              · have hf := ifT c9 hf
                refine lv_iconst (pc := 62) (v := 0) hx hb dX5_delegate_62 (by decide) ?_
                have hf : (some ((0 : Int32), (f_X5_goes σ (1 : Int32) (1 : Int32) (1 : Int32)).2)) = some z := hf
                cases hf
                exact ret_iU (pc := 63) C hr h dX5_delegate_63
abbrev rm_X5_revoke : Room := { frames := 2, cells := 0, slots := 0, locals := 42 }
def f_X5_revoke (σ : Nat → Nat → Int32) (x1 : Int32) : Option (Int32 × (Nat → Nat → Int32)) := (if (f_X5_isPerson x1) = 0 then (if (f_X5_goes σ (f_X5_isPerson x1) (0 : Int32) (1 : Int32)).1 = 0 then (some ((0 : Int32), (f_X5_goes σ (f_X5_isPerson x1) (0 : Int32) (1 : Int32)).2)) else (if inb x1 8 then (if inb x1 8 then (lt (va_up (f_X5_goes σ (f_X5_isPerson x1) (0 : Int32) (1 : Int32)).2 12 (upd ((f_X5_goes σ (f_X5_isPerson x1) (0 : Int32) (1 : Int32)).2 12) x1.toNatClampNeg (-1 : Int32))) fun t1 => (some ((((f_X5_goes σ (f_X5_isPerson x1) (0 : Int32) (1 : Int32)).2 12) x1.toNatClampNeg), t1))) else none) else none)) else (if inb x1 8 then (if ((σ 12) x1.toNatClampNeg) = (-1 : Int32) then (if (f_X5_goes σ (f_X5_isPerson x1) (0 : Int32) (1 : Int32)).1 = 0 then (some ((0 : Int32), (f_X5_goes σ (f_X5_isPerson x1) (0 : Int32) (1 : Int32)).2)) else (if inb x1 8 then (if inb x1 8 then (lt (va_up (f_X5_goes σ (f_X5_isPerson x1) (0 : Int32) (1 : Int32)).2 12 (upd ((f_X5_goes σ (f_X5_isPerson x1) (0 : Int32) (1 : Int32)).2 12) x1.toNatClampNeg (-1 : Int32))) fun t1 => (some ((((f_X5_goes σ (f_X5_isPerson x1) (0 : Int32) (1 : Int32)).2 12) x1.toNatClampNeg), t1))) else none) else none)) else (if (f_X5_goes σ (f_X5_isPerson x1) (1 : Int32) (1 : Int32)).1 = 0 then (some ((0 : Int32), (f_X5_goes σ (f_X5_isPerson x1) (1 : Int32) (1 : Int32)).2)) else (if inb x1 8 then (if inb x1 8 then (lt (va_up (f_X5_goes σ (f_X5_isPerson x1) (1 : Int32) (1 : Int32)).2 12 (upd ((f_X5_goes σ (f_X5_isPerson x1) (1 : Int32) (1 : Int32)).2 12) x1.toNatClampNeg (-1 : Int32))) fun t1 => (some ((((f_X5_goes σ (f_X5_isPerson x1) (1 : Int32) (1 : Int32)).2 12) x1.toNatClampNeg), t1))) else none) else none))) else none))
set_option maxHeartbeats 400000 in
set_option maxRecDepth 100000 in
theorem k_X5_revoke {q : Nat → Nat} {cA : Nat → ClassId} {D : va_G} (σ : Nat → Nat → Int32) (x1 : Int32) {z : Int32 × (Nat → Nat → Int32)} (hf : f_X5_revoke σ x1 = some z) : CtU yX5_revoke cX5_revoke 4 (some .int) rm_X5_revoke [.ref (q 0), .int x1] D cA (mW q cA σ) (mW q cA z.2) (some (.int z.1)) 0 0 := by
  refine ctU_of (by decide) (Nat.le_of_ble_eq_true rfl) ?_
  intro p l e s m below meth c ls C hr hnm h hl
  have C : Cx p s m _ meth c cX5_revoke 4 RX5 D cA := C
  obtain ⟨hx, hb, hml, hown, hts, hK, hlk⟩ := id C
  replace hl : lv_has ls 4 [(0, .ref (q 0)), (1, .int x1)] := hl
  rw [f_X5_revoke] at hf
  refine lv_iload_n (pc := 0) hx hb dX5_revoke_0 rfl (lv_at hl 1 rfl) ?_
  refine call_SR (pc := 1) (As := [.int x1]) (rest := []) (wc := []) C h (k_X5_isPerson x1 rfl) cw_X5_127 [] rfl rfl rfl rfl hl.1 (Nat.le_of_ble_eq_true rfl) dX5_revoke_1 ⟨Nat.le_of_ble_eq_true rfl, Nat.le_of_ble_eq_true rfl⟩ rfl rfl ⟨Nat.le_of_ble_eq_true rfl, Nat.le_of_ble_eq_true rfl⟩ (fun H locs h => ?_)
  refine W.eq (g2 := F0 m 4 ls [.int (f_X5_isPerson x1)]) rfl ?_
  refine lv_istore_n (pc := 4) (lv' := [(2, .int (f_X5_isPerson x1)), (0, .ref (q 0)), (1, .int x1)]) hx hb dX5_revoke_4 rfl hl (by decide) rfl (fun ls hl => ?_)
  refine lv_aload_n (pc := 5) hx hb dX5_revoke_5 rfl (lv_at hl 1 rfl) ?_
  refine lv_iload_n (pc := 6) hx hb dX5_revoke_6 rfl (lv_at hl 0 rfl) ?_
  refine lv_iload_n (pc := 7) hx hb dX5_revoke_7 rfl (lv_at hl 0 rfl) ?_
  refine lv_if_eq (pc := 8) (tgt := 25) hx hb dX5_revoke_8 (by decide) (fun c9 => ?_) (fun c9 => ?_)
  · have hf := ifT c9 hf
    refine lv_iconst (pc := 25) (v := 0) hx hb dX5_revoke_25 (by decide) ?_
    refine lv_iconst (pc := 26) (v := 1) hx hb dX5_revoke_26 (by decide) ?_
    refine call_VUs (pc := 27) (As := [.int (f_X5_isPerson x1), .int (0 : Int32), .int (1 : Int32)]) (rest := []) C h (k_X5_goes σ (f_X5_isPerson x1) (0 : Int32) (1 : Int32) rfl) cw_X5_123 0 (mW_c0 _ _ _) rfl (mW_fst _ _ _ _) rfl rfl hl.1 (Nat.le_of_ble_eq_true rfl) dX5_revoke_27 ⟨Nat.le_of_ble_eq_true rfl, Nat.le_of_ble_eq_true rfl⟩ rfl rfl ⟨Nat.le_of_ble_eq_true rfl, Nat.le_of_ble_eq_true rfl⟩ (fun H locs h => ?_)
    refine W.eq (g2 := F0 m 30 ls [.int (f_X5_goes σ (f_X5_isPerson x1) (0 : Int32) (1 : Int32)).1]) rfl ?_
    refine lv_if_ne (pc := 30) (tgt := 35) hx hb dX5_revoke_30 (by decide) (fun c9 => ?_) (fun c9 => ?_)
    · have hf := ifF c9 hf
      refine lv_aload_n (pc := 35) hx hb dX5_revoke_35 rfl (lv_at hl 1 rfl) ?_
      refine g_get (pc := 36) (v := .ref (q 11)) C h.1 0 (mW_c0 _ _ _) fl_X5_40 rfl dX5_revoke_36 ?_
      refine lv_iload_n (pc := 39) hx hb dX5_revoke_39 rfl (lv_at hl 2 rfl) ?_
      obtain ⟨hin, hf⟩ := ifS hf
      refine g_ild (pc := 40) (n := 8) (f := ((f_X5_goes σ (f_X5_isPerson x1) (0 : Int32) (1 : Int32)).2 12)) C h.1 11 (mW_c11 _ _ _) hin dX5_revoke_40 ?_
      refine lv_istore_n (pc := 41) (lv' := [(3, .int (((f_X5_goes σ (f_X5_isPerson x1) (0 : Int32) (1 : Int32)).2 12) x1.toNatClampNeg)), (2, .int (f_X5_isPerson x1)), (0, .ref (q 0)), (1, .int x1)]) hx hb dX5_revoke_41 rfl hl (by decide) rfl (fun ls hl => ?_)
      refine lv_aload_n (pc := 42) hx hb dX5_revoke_42 rfl (lv_at hl 2 rfl) ?_
      refine g_get (pc := 43) (v := .ref (q 11)) C h.1 0 (mW_c0 _ _ _) fl_X5_40 rfl dX5_revoke_43 ?_
      refine lv_iload_n (pc := 46) hx hb dX5_revoke_46 rfl (lv_at hl 3 rfl) ?_
      refine lv_iconst (pc := 47) (v := -1) hx hb dX5_revoke_47 (by decide) ?_
      obtain ⟨hin, hf⟩ := ifS hf
      obtain ⟨t1, et1, hf⟩ := ltS hf
      refine g_ist (pc := 48) (n := 8) (f := ((f_X5_goes σ (f_X5_isPerson x1) (0 : Int32) (1 : Int32)).2 12)) (ws' := (mW q cA t1)) C h 11 (mW_c11 _ _ _) hin ((mW_w11 _ _ _ _).trans (congrArg (mW q cA) et1.symm)) dX5_revoke_48 (fun H locs h => ?_)
      refine lv_iload_n (pc := 49) hx hb dX5_revoke_49 rfl (lv_at hl 0 rfl) ?_
      have hf : (some ((((f_X5_goes σ (f_X5_isPerson x1) (0 : Int32) (1 : Int32)).2 12) x1.toNatClampNeg), t1)) = some z := hf
      cases hf
      exact ret_iU (pc := 50) C hr h dX5_revoke_50
    · have hf := ifT c9 hf
      refine lv_iconst (pc := 33) (v := 0) hx hb dX5_revoke_33 (by decide) ?_
      have hf : (some ((0 : Int32), (f_X5_goes σ (f_X5_isPerson x1) (0 : Int32) (1 : Int32)).2)) = some z := hf
      cases hf
      exact ret_iU (pc := 34) C hr h dX5_revoke_34
  · have hf := ifF c9 hf
    refine lv_aload_n (pc := 11) hx hb dX5_revoke_11 rfl (lv_at hl 1 rfl) ?_
    refine g_get (pc := 12) (v := .ref (q 11)) C h.1 0 (mW_c0 _ _ _) fl_X5_40 rfl dX5_revoke_12 ?_
    refine lv_iload_n (pc := 15) hx hb dX5_revoke_15 rfl (lv_at hl 2 rfl) ?_
    obtain ⟨hin, hf⟩ := ifS hf
    refine g_ild (pc := 16) (n := 8) (f := (σ 12)) C h.1 11 (mW_c11 _ _ _) hin dX5_revoke_16 ?_
    refine lv_iconst (pc := 17) (v := -1) hx hb dX5_revoke_17 (by decide) ?_
    refine lv_icmp_eq (pc := 18) (tgt := 25) hx hb dX5_revoke_18 (by decide) (fun c9 => ?_) (fun c9 => ?_)
    · have hf := ifT c9 hf
      refine lv_iconst (pc := 25) (v := 0) hx hb dX5_revoke_25 (by decide) ?_
      refine lv_iconst (pc := 26) (v := 1) hx hb dX5_revoke_26 (by decide) ?_
      refine call_VUs (pc := 27) (As := [.int (f_X5_isPerson x1), .int (0 : Int32), .int (1 : Int32)]) (rest := []) C h (k_X5_goes σ (f_X5_isPerson x1) (0 : Int32) (1 : Int32) rfl) cw_X5_123 0 (mW_c0 _ _ _) rfl (mW_fst _ _ _ _) rfl rfl hl.1 (Nat.le_of_ble_eq_true rfl) dX5_revoke_27 ⟨Nat.le_of_ble_eq_true rfl, Nat.le_of_ble_eq_true rfl⟩ rfl rfl ⟨Nat.le_of_ble_eq_true rfl, Nat.le_of_ble_eq_true rfl⟩ (fun H locs h => ?_)
      refine W.eq (g2 := F0 m 30 ls [.int (f_X5_goes σ (f_X5_isPerson x1) (0 : Int32) (1 : Int32)).1]) rfl ?_
      refine lv_if_ne (pc := 30) (tgt := 35) hx hb dX5_revoke_30 (by decide) (fun c9 => ?_) (fun c9 => ?_)
      · have hf := ifF c9 hf
        refine lv_aload_n (pc := 35) hx hb dX5_revoke_35 rfl (lv_at hl 1 rfl) ?_
        refine g_get (pc := 36) (v := .ref (q 11)) C h.1 0 (mW_c0 _ _ _) fl_X5_40 rfl dX5_revoke_36 ?_
        refine lv_iload_n (pc := 39) hx hb dX5_revoke_39 rfl (lv_at hl 2 rfl) ?_
        obtain ⟨hin, hf⟩ := ifS hf
        refine g_ild (pc := 40) (n := 8) (f := ((f_X5_goes σ (f_X5_isPerson x1) (0 : Int32) (1 : Int32)).2 12)) C h.1 11 (mW_c11 _ _ _) hin dX5_revoke_40 ?_
        refine lv_istore_n (pc := 41) (lv' := [(3, .int (((f_X5_goes σ (f_X5_isPerson x1) (0 : Int32) (1 : Int32)).2 12) x1.toNatClampNeg)), (2, .int (f_X5_isPerson x1)), (0, .ref (q 0)), (1, .int x1)]) hx hb dX5_revoke_41 rfl hl (by decide) rfl (fun ls hl => ?_)
        refine lv_aload_n (pc := 42) hx hb dX5_revoke_42 rfl (lv_at hl 2 rfl) ?_
        refine g_get (pc := 43) (v := .ref (q 11)) C h.1 0 (mW_c0 _ _ _) fl_X5_40 rfl dX5_revoke_43 ?_
        refine lv_iload_n (pc := 46) hx hb dX5_revoke_46 rfl (lv_at hl 3 rfl) ?_
        refine lv_iconst (pc := 47) (v := -1) hx hb dX5_revoke_47 (by decide) ?_
        obtain ⟨hin, hf⟩ := ifS hf
        obtain ⟨t1, et1, hf⟩ := ltS hf
        refine g_ist (pc := 48) (n := 8) (f := ((f_X5_goes σ (f_X5_isPerson x1) (0 : Int32) (1 : Int32)).2 12)) (ws' := (mW q cA t1)) C h 11 (mW_c11 _ _ _) hin ((mW_w11 _ _ _ _).trans (congrArg (mW q cA) et1.symm)) dX5_revoke_48 (fun H locs h => ?_)
        refine lv_iload_n (pc := 49) hx hb dX5_revoke_49 rfl (lv_at hl 0 rfl) ?_
        have hf : (some ((((f_X5_goes σ (f_X5_isPerson x1) (0 : Int32) (1 : Int32)).2 12) x1.toNatClampNeg), t1)) = some z := hf
        cases hf
        exact ret_iU (pc := 50) C hr h dX5_revoke_50
      · have hf := ifT c9 hf
        refine lv_iconst (pc := 33) (v := 0) hx hb dX5_revoke_33 (by decide) ?_
        have hf : (some ((0 : Int32), (f_X5_goes σ (f_X5_isPerson x1) (0 : Int32) (1 : Int32)).2)) = some z := hf
        cases hf
        exact ret_iU (pc := 34) C hr h dX5_revoke_34
    · have hf := ifF c9 hf
      refine lv_iconst (pc := 21) (v := 1) hx hb dX5_revoke_21 (by decide) ?_
      refine lv_goto (pc := 22) (tgt := 26) hx hb dX5_revoke_22 (by decide) ?_
      refine lv_iconst (pc := 26) (v := 1) hx hb dX5_revoke_26 (by decide) ?_
      refine call_VUs (pc := 27) (As := [.int (f_X5_isPerson x1), .int (1 : Int32), .int (1 : Int32)]) (rest := []) C h (k_X5_goes σ (f_X5_isPerson x1) (1 : Int32) (1 : Int32) rfl) cw_X5_123 0 (mW_c0 _ _ _) rfl (mW_fst _ _ _ _) rfl rfl hl.1 (Nat.le_of_ble_eq_true rfl) dX5_revoke_27 ⟨Nat.le_of_ble_eq_true rfl, Nat.le_of_ble_eq_true rfl⟩ rfl rfl ⟨Nat.le_of_ble_eq_true rfl, Nat.le_of_ble_eq_true rfl⟩ (fun H locs h => ?_)
      refine W.eq (g2 := F0 m 30 ls [.int (f_X5_goes σ (f_X5_isPerson x1) (1 : Int32) (1 : Int32)).1]) rfl ?_
      refine lv_if_ne (pc := 30) (tgt := 35) hx hb dX5_revoke_30 (by decide) (fun c9 => ?_) (fun c9 => ?_)
      · have hf := ifF c9 hf
        refine lv_aload_n (pc := 35) hx hb dX5_revoke_35 rfl (lv_at hl 1 rfl) ?_
        refine g_get (pc := 36) (v := .ref (q 11)) C h.1 0 (mW_c0 _ _ _) fl_X5_40 rfl dX5_revoke_36 ?_
        refine lv_iload_n (pc := 39) hx hb dX5_revoke_39 rfl (lv_at hl 2 rfl) ?_
        obtain ⟨hin, hf⟩ := ifS hf
        refine g_ild (pc := 40) (n := 8) (f := ((f_X5_goes σ (f_X5_isPerson x1) (1 : Int32) (1 : Int32)).2 12)) C h.1 11 (mW_c11 _ _ _) hin dX5_revoke_40 ?_
        refine lv_istore_n (pc := 41) (lv' := [(3, .int (((f_X5_goes σ (f_X5_isPerson x1) (1 : Int32) (1 : Int32)).2 12) x1.toNatClampNeg)), (2, .int (f_X5_isPerson x1)), (0, .ref (q 0)), (1, .int x1)]) hx hb dX5_revoke_41 rfl hl (by decide) rfl (fun ls hl => ?_)
        refine lv_aload_n (pc := 42) hx hb dX5_revoke_42 rfl (lv_at hl 2 rfl) ?_
        refine g_get (pc := 43) (v := .ref (q 11)) C h.1 0 (mW_c0 _ _ _) fl_X5_40 rfl dX5_revoke_43 ?_
        refine lv_iload_n (pc := 46) hx hb dX5_revoke_46 rfl (lv_at hl 3 rfl) ?_
        refine lv_iconst (pc := 47) (v := -1) hx hb dX5_revoke_47 (by decide) ?_
        obtain ⟨hin, hf⟩ := ifS hf
        obtain ⟨t1, et1, hf⟩ := ltS hf
        refine g_ist (pc := 48) (n := 8) (f := ((f_X5_goes σ (f_X5_isPerson x1) (1 : Int32) (1 : Int32)).2 12)) (ws' := (mW q cA t1)) C h 11 (mW_c11 _ _ _) hin ((mW_w11 _ _ _ _).trans (congrArg (mW q cA) et1.symm)) dX5_revoke_48 (fun H locs h => ?_)
        refine lv_iload_n (pc := 49) hx hb dX5_revoke_49 rfl (lv_at hl 0 rfl) ?_
        have hf : (some ((((f_X5_goes σ (f_X5_isPerson x1) (1 : Int32) (1 : Int32)).2 12) x1.toNatClampNeg), t1)) = some z := hf
        cases hf
        exact ret_iU (pc := 50) C hr h dX5_revoke_50
      · have hf := ifT c9 hf
        refine lv_iconst (pc := 33) (v := 0) hx hb dX5_revoke_33 (by decide) ?_
        have hf : (some ((0 : Int32), (f_X5_goes σ (f_X5_isPerson x1) (1 : Int32) (1 : Int32)).2)) = some z := hf
        cases hf
        exact ret_iU (pc := 34) C hr h dX5_revoke_34
abbrev rm_X5_delegateToday : Room := { frames := 2, cells := 0, slots := 0, locals := 43 }
def f_X5_delegateToday (σ : Nat → Nat → Int32) (x1 : Int32) : Option (Int32 × (Nat → Nat → Int32)) := (if (f_X5_goes σ (f_X5_isPerson x1) (1 : Int32) (1 : Int32)).1 = 0 then (some ((0 : Int32), (f_X5_goes σ (f_X5_isPerson x1) (1 : Int32) (1 : Int32)).2)) else ((f_X5_delegated (f_X5_goes σ (f_X5_isPerson x1) (1 : Int32) (1 : Int32)).2 x1).bind fun z1 => (some (z1, (f_X5_goes σ (f_X5_isPerson x1) (1 : Int32) (1 : Int32)).2))))
set_option maxHeartbeats 400000 in
set_option maxRecDepth 100000 in
theorem k_X5_delegateToday {q : Nat → Nat} {cA : Nat → ClassId} {D : va_G} (σ : Nat → Nat → Int32) (x1 : Int32) {z : Int32 × (Nat → Nat → Int32)} (hf : f_X5_delegateToday σ x1 = some z) : CtU yX5_delegateToday cX5_delegateToday 2 (some .int) rm_X5_delegateToday [.ref (q 0), .int x1] D cA (mW q cA σ) (mW q cA z.2) (some (.int z.1)) 0 0 := by
  refine ctU_of (by decide) (Nat.le_of_ble_eq_true rfl) ?_
  intro p l e s m below meth c ls C hr hnm h hl
  have C : Cx p s m _ meth c cX5_delegateToday 2 RX5 D cA := C
  obtain ⟨hx, hb, hml, hown, hts, hK, hlk⟩ := id C
  replace hl : lv_has ls 2 [(0, .ref (q 0)), (1, .int x1)] := hl
  rw [f_X5_delegateToday] at hf
  refine lv_aload_n (pc := 0) hx hb dX5_delegateToday_0 rfl (lv_at hl 0 rfl) ?_
  refine lv_iload_n (pc := 1) hx hb dX5_delegateToday_1 rfl (lv_at hl 1 rfl) ?_
  refine call_SR (pc := 2) (As := [.int x1]) (rest := [.ref (q 0)]) (wc := []) C h (k_X5_isPerson x1 rfl) cw_X5_127 [] rfl rfl rfl rfl hl.1 (Nat.le_of_ble_eq_true rfl) dX5_delegateToday_2 ⟨Nat.le_of_ble_eq_true rfl, Nat.le_of_ble_eq_true rfl⟩ rfl rfl ⟨Nat.le_of_ble_eq_true rfl, Nat.le_of_ble_eq_true rfl⟩ (fun H locs h => ?_)
  refine W.eq (g2 := F0 m 5 ls [.int (f_X5_isPerson x1), .ref (q 0)]) rfl ?_
  refine lv_iconst (pc := 5) (v := 1) hx hb dX5_delegateToday_5 (by decide) ?_
  refine lv_iconst (pc := 6) (v := 1) hx hb dX5_delegateToday_6 (by decide) ?_
  refine call_VUs (pc := 7) (As := [.int (f_X5_isPerson x1), .int (1 : Int32), .int (1 : Int32)]) (rest := []) C h (k_X5_goes σ (f_X5_isPerson x1) (1 : Int32) (1 : Int32) rfl) cw_X5_123 0 (mW_c0 _ _ _) rfl (mW_fst _ _ _ _) rfl rfl hl.1 (Nat.le_of_ble_eq_true rfl) dX5_delegateToday_7 ⟨Nat.le_of_ble_eq_true rfl, Nat.le_of_ble_eq_true rfl⟩ rfl rfl ⟨Nat.le_of_ble_eq_true rfl, Nat.le_of_ble_eq_true rfl⟩ (fun H locs h => ?_)
  refine W.eq (g2 := F0 m 10 ls [.int (f_X5_goes σ (f_X5_isPerson x1) (1 : Int32) (1 : Int32)).1]) rfl ?_
  refine lv_if_eq (pc := 10) (tgt := 21) hx hb dX5_delegateToday_10 (by decide) (fun c9 => ?_) (fun c9 => ?_)
  · have hf := ifT c9 hf
    refine lv_iconst (pc := 21) (v := 0) hx hb dX5_delegateToday_21 (by decide) ?_
    have hf : (some ((0 : Int32), (f_X5_goes σ (f_X5_isPerson x1) (1 : Int32) (1 : Int32)).2)) = some z := hf
    cases hf
    exact ret_iU (pc := 22) C hr h dX5_delegateToday_22
  · have hf := ifF c9 hf
    refine lv_aload_n (pc := 13) hx hb dX5_delegateToday_13 rfl (lv_at hl 0 rfl) ?_
    refine lv_iload_n (pc := 14) hx hb dX5_delegateToday_14 rfl (lv_at hl 1 rfl) ?_
    obtain ⟨z1, hc1, hf⟩ := bdS hf
    refine call_VRs (pc := 15) (As := [.int x1]) (rest := []) C h (k_X5_delegated (f_X5_goes σ (f_X5_isPerson x1) (1 : Int32) (1 : Int32)).2 x1 hc1) cw_X5_141 0 (mW_c0 _ _ _) rfl rfl rfl hl.1 (Nat.le_of_ble_eq_true rfl) dX5_delegateToday_15 ⟨Nat.le_of_ble_eq_true rfl, Nat.le_of_ble_eq_true rfl⟩ rfl rfl ⟨Nat.le_of_ble_eq_true rfl, Nat.le_of_ble_eq_true rfl⟩ (fun H locs h => ?_)
    refine W.eq (g2 := F0 m 18 ls [.int z1]) rfl ?_
    refine lv_goto (pc := 18) (tgt := 22) hx hb dX5_delegateToday_18 (by decide) ?_
    have hf : (some (z1, (f_X5_goes σ (f_X5_isPerson x1) (1 : Int32) (1 : Int32)).2)) = some z := hf
    cases hf
    exact ret_iU (pc := 22) C hr h dX5_delegateToday_22
abbrev rm_X5_signedFor : Room := { frames := 2, cells := 0, slots := 0, locals := 42 }
def f_X5_signedFor (σ : Nat → Nat → Int32) (x1 : Int32) : Option (Int32 × (Nat → Nat → Int32)) := (if (f_X5_goes σ (f_X5_isPerson x1) (1 : Int32) (1 : Int32)).1 = 0 then (some ((0 : Int32), (f_X5_goes σ (f_X5_isPerson x1) (1 : Int32) (1 : Int32)).2)) else ((f_X5_signedToday (f_X5_goes σ (f_X5_isPerson x1) (1 : Int32) (1 : Int32)).2 x1).bind fun z1 => (some (z1, (f_X5_goes σ (f_X5_isPerson x1) (1 : Int32) (1 : Int32)).2))))
set_option maxHeartbeats 400000 in
set_option maxRecDepth 100000 in
theorem k_X5_signedFor {q : Nat → Nat} {cA : Nat → ClassId} {D : va_G} (σ : Nat → Nat → Int32) (x1 : Int32) {z : Int32 × (Nat → Nat → Int32)} (hf : f_X5_signedFor σ x1 = some z) : CtU yX5_signedFor cX5_signedFor 2 (some .int) rm_X5_signedFor [.ref (q 0), .int x1] D cA (mW q cA σ) (mW q cA z.2) (some (.int z.1)) 0 0 := by
  refine ctU_of (by decide) (Nat.le_of_ble_eq_true rfl) ?_
  intro p l e s m below meth c ls C hr hnm h hl
  have C : Cx p s m _ meth c cX5_signedFor 2 RX5 D cA := C
  obtain ⟨hx, hb, hml, hown, hts, hK, hlk⟩ := id C
  replace hl : lv_has ls 2 [(0, .ref (q 0)), (1, .int x1)] := hl
  rw [f_X5_signedFor] at hf
  refine lv_aload_n (pc := 0) hx hb dX5_signedFor_0 rfl (lv_at hl 0 rfl) ?_
  refine lv_iload_n (pc := 1) hx hb dX5_signedFor_1 rfl (lv_at hl 1 rfl) ?_
  refine call_SR (pc := 2) (As := [.int x1]) (rest := [.ref (q 0)]) (wc := []) C h (k_X5_isPerson x1 rfl) cw_X5_127 [] rfl rfl rfl rfl hl.1 (Nat.le_of_ble_eq_true rfl) dX5_signedFor_2 ⟨Nat.le_of_ble_eq_true rfl, Nat.le_of_ble_eq_true rfl⟩ rfl rfl ⟨Nat.le_of_ble_eq_true rfl, Nat.le_of_ble_eq_true rfl⟩ (fun H locs h => ?_)
  refine W.eq (g2 := F0 m 5 ls [.int (f_X5_isPerson x1), .ref (q 0)]) rfl ?_
  refine lv_iconst (pc := 5) (v := 1) hx hb dX5_signedFor_5 (by decide) ?_
  refine lv_iconst (pc := 6) (v := 1) hx hb dX5_signedFor_6 (by decide) ?_
  refine call_VUs (pc := 7) (As := [.int (f_X5_isPerson x1), .int (1 : Int32), .int (1 : Int32)]) (rest := []) C h (k_X5_goes σ (f_X5_isPerson x1) (1 : Int32) (1 : Int32) rfl) cw_X5_123 0 (mW_c0 _ _ _) rfl (mW_fst _ _ _ _) rfl rfl hl.1 (Nat.le_of_ble_eq_true rfl) dX5_signedFor_7 ⟨Nat.le_of_ble_eq_true rfl, Nat.le_of_ble_eq_true rfl⟩ rfl rfl ⟨Nat.le_of_ble_eq_true rfl, Nat.le_of_ble_eq_true rfl⟩ (fun H locs h => ?_)
  refine W.eq (g2 := F0 m 10 ls [.int (f_X5_goes σ (f_X5_isPerson x1) (1 : Int32) (1 : Int32)).1]) rfl ?_
  refine lv_if_eq (pc := 10) (tgt := 21) hx hb dX5_signedFor_10 (by decide) (fun c9 => ?_) (fun c9 => ?_)
  · have hf := ifT c9 hf
    refine lv_iconst (pc := 21) (v := 0) hx hb dX5_signedFor_21 (by decide) ?_
    have hf : (some ((0 : Int32), (f_X5_goes σ (f_X5_isPerson x1) (1 : Int32) (1 : Int32)).2)) = some z := hf
    cases hf
    exact ret_iU (pc := 22) C hr h dX5_signedFor_22
  · have hf := ifF c9 hf
    refine lv_aload_n (pc := 13) hx hb dX5_signedFor_13 rfl (lv_at hl 0 rfl) ?_
    refine lv_iload_n (pc := 14) hx hb dX5_signedFor_14 rfl (lv_at hl 1 rfl) ?_
    obtain ⟨z1, hc1, hf⟩ := bdS hf
    refine call_VRs (pc := 15) (As := [.int x1]) (rest := []) C h (k_X5_signedToday (f_X5_goes σ (f_X5_isPerson x1) (1 : Int32) (1 : Int32)).2 x1 hc1) cw_X5_144 0 (mW_c0 _ _ _) rfl rfl rfl hl.1 (Nat.le_of_ble_eq_true rfl) dX5_signedFor_15 ⟨Nat.le_of_ble_eq_true rfl, Nat.le_of_ble_eq_true rfl⟩ rfl rfl ⟨Nat.le_of_ble_eq_true rfl, Nat.le_of_ble_eq_true rfl⟩ (fun H locs h => ?_)
    refine W.eq (g2 := F0 m 18 ls [.int z1]) rfl ?_
    refine lv_goto (pc := 18) (tgt := 22) hx hb dX5_signedFor_18 (by decide) ?_
    have hf : (some (z1, (f_X5_goes σ (f_X5_isPerson x1) (1 : Int32) (1 : Int32)).2)) = some z := hf
    cases hf
    exact ret_iU (pc := 22) C hr h dX5_signedFor_22
abbrev rm_X5_toSign : Room := { frames := 5, cells := 0, slots := 0, locals := 113 }
def f_X5_toSign_30 : Nat → (Nat → Nat → Int32) → Int32 → Int32 → Int32 → Int32 → Option ((Nat → Nat → Int32) × Int32 × Int32)
  | 0, _, _, _, _, _ => none
  | n + 1, σ, x1, x2, x3, x4 => (if inb x3 6 then (if ((σ 2) x3.toNatClampNeg) ≤ x4 then some (σ, x2, x4) else ((f_X5_why σ x1 x3 x4).bind fun z1 => (if (2 : Int32) ≤ z1.1 then (f_X5_toSign_30 n z1.2 x1 (x2 + (0 : Int32)) x3 (x4 + (1 : Int32))) else (f_X5_toSign_30 n z1.2 x1 (x2 + (1 : Int32)) x3 (x4 + (1 : Int32)))))) else none)
def f_X5_toSign_19 : Nat → (Nat → Nat → Int32) → Int32 → Int32 → Int32 → Option ((Nat → Nat → Int32) × Int32 × Int32)
  | 0, _, _, _, _ => none
  | n + 1, σ, x1, x2, x3 => (if (σ 1 0) ≤ x3 then some (σ, x2, x3) else ((f_X5_toSign_30 FU σ x1 x2 x3 (0 : Int32)).bind fun z1 => (f_X5_toSign_19 n z1.1 x1 z1.2.1 (x3 + (1 : Int32)))))
def f_X5_toSign (σ : Nat → Nat → Int32) (x1 : Int32) : Option (Int32 × (Nat → Nat → Int32)) := (if (f_X5_goes σ (f_X5_isPerson x1) (1 : Int32) (1 : Int32)).1 = 0 then (some ((0 : Int32), (f_X5_goes σ (f_X5_isPerson x1) (1 : Int32) (1 : Int32)).2)) else ((f_X5_toSign_19 FU (f_X5_goes σ (f_X5_isPerson x1) (1 : Int32) (1 : Int32)).2 x1 (0 : Int32) (0 : Int32)).bind fun z1 => (some (z1.2.1, z1.1))))
set_option maxHeartbeats 400000 in
set_option maxRecDepth 100000 in
theorem l_X5_toSign_30 (C : Cx p s m args meth c cX5_toSign 5 RX5 D cA) : ∀ (n : Nat) (σ : Nat → Nat → Int32) (x1 x2 x3 x4 : Int32) (z : (Nat → Nat → Int32) × Int32 × Int32), f_X5_toSign_30 n σ x1 x2 x3 x4 = some z → ∀ (H : Heap) (locs : List Loc) (ls : Array Slot), St D A s.heap (mW q cA σ) H locs → lv_has ls 5 [(0, .ref (q 0)), (1, .int x1), (2, .int x2), (3, .int x3), (4, .int x4)] → (∀ (H : Heap) (locs : List Loc) (ls : Array Slot), St D A s.heap (mW q cA z.1) H locs → lv_has ls 5 [(0, .ref (q 0)), (1, .int x1), (2, .int z.2.1), (3, .int x3), (4, .int z.2.2)] → W p l e rm_X5_toSign s m args below meth c H locs 0 0 Q (F0 m 67 ls [])) → W p l e rm_X5_toSign s m args below meth c H locs 0 0 Q (F0 m 30 ls []) := by
  obtain ⟨hx, hb, hml, hown, hts, hK, hlk⟩ := id C
  intro n
  induction n with
  | zero => intro σ x1 x2 x3 x4 z hf; rw [f_X5_toSign_30] at hf; cases hf
  | succ n ih =>
    intro σ x1 x2 x3 x4 z hf H locs ls h hl kk
    rw [f_X5_toSign_30] at hf
    refine lv_iload (pc := 30) hx hb dX5_toSign_30 (lv_at hl 4 rfl) ?_
    refine lv_aload_n (pc := 32) hx hb dX5_toSign_32 rfl (lv_at hl 0 rfl) ?_
    refine g_get (pc := 33) (v := .ref (q 1)) C h.1 0 (mW_c0 _ _ _) fl_X5_7 rfl dX5_toSign_33 ?_
    refine lv_iload_n (pc := 36) hx hb dX5_toSign_36 rfl (lv_at hl 3 rfl) ?_
    obtain ⟨hin, hf⟩ := ifS hf
    refine g_ild (pc := 37) (n := 6) (f := (σ 2)) C h.1 1 (mW_c1 _ _ _) hin dX5_toSign_37 ?_
    refine lv_icmp_ge (pc := 38) (tgt := 67) hx hb dX5_toSign_38 (by decide) (fun c9 => ?_) (fun c9 => ?_)
    · have hf := ifT c9 hf
      have hf : some (σ, x2, x4) = some z := hf
      cases hf
      exact kk _ _ _ h (lv_sub hl [0, 1, 2, 3, 4] rfl)
    · have hf := ifF c9 hf
      refine lv_iload_n (pc := 41) hx hb dX5_toSign_41 rfl (lv_at hl 2 rfl) ?_
      refine lv_aload_n (pc := 42) hx hb dX5_toSign_42 rfl (lv_at hl 0 rfl) ?_
      refine lv_iload_n (pc := 43) hx hb dX5_toSign_43 rfl (lv_at hl 1 rfl) ?_
      refine lv_iload_n (pc := 44) hx hb dX5_toSign_44 rfl (lv_at hl 3 rfl) ?_
      refine lv_iload (pc := 45) hx hb dX5_toSign_45 (lv_at hl 4 rfl) ?_
      obtain ⟨z1, hc1, hf⟩ := bdS hf
      refine call_VUs (pc := 47) (As := [.int x1, .int x3, .int x4]) (rest := [.int x2]) C h (k_X5_why σ x1 x3 x4 hc1) cw_X5_150 0 (mW_c0 _ _ _) rfl (mW_fst _ _ _ _) rfl rfl hl.1 (Nat.le_of_ble_eq_true rfl) dX5_toSign_47 ⟨Nat.le_of_ble_eq_true rfl, Nat.le_of_ble_eq_true rfl⟩ rfl rfl ⟨Nat.le_of_ble_eq_true rfl, Nat.le_of_ble_eq_true rfl⟩ (fun H locs h => ?_)
      refine W.eq (g2 := F0 m 50 ls [.int z1.1, .int x2]) rfl ?_
      refine lv_iconst (pc := 50) (v := 2) hx hb dX5_toSign_50 (by decide) ?_
      refine lv_icmp_ge (pc := 51) (tgt := 58) hx hb dX5_toSign_51 (by decide) (fun c9 => ?_) (fun c9 => ?_)
      · have hf := ifT c9 hf
        refine lv_iconst (pc := 58) (v := 0) hx hb dX5_toSign_58 (by decide) ?_
        refine lv_iadd (pc := 59) hx hb dX5_toSign_59 ?_
        refine lv_istore_n (pc := 60) (lv' := [(2, .int (x2 + (0 : Int32))), (0, .ref (q 0)), (1, .int x1), (3, .int x3), (4, .int x4)]) hx hb dX5_toSign_60 rfl hl (by decide) rfl (fun ls hl => ?_)
        refine lv_iinc (pc := 61) (v := (x4 + (1 : Int32))) (lv' := [(4, .int (x4 + (1 : Int32))), (2, .int (x2 + (0 : Int32))), (0, .ref (q 0)), (1, .int x1), (3, .int x3)]) hx hb dX5_toSign_61 hl (k := 4) rfl rfl (by decide) rfl (fun ls hl => ?_)
        refine lv_goto (pc := 64) (tgt := 30) hx hb dX5_toSign_64 (by decide) ?_
        exact ih _ _ _ _ _ _ hf _ _ _ h (lv_sub hl [2, 3, 1, 4, 0] rfl) kk
      · have hf := ifF c9 hf
        refine lv_iconst (pc := 54) (v := 1) hx hb dX5_toSign_54 (by decide) ?_
        refine lv_goto (pc := 55) (tgt := 59) hx hb dX5_toSign_55 (by decide) ?_
        refine lv_iadd (pc := 59) hx hb dX5_toSign_59 ?_
        refine lv_istore_n (pc := 60) (lv' := [(2, .int (x2 + (1 : Int32))), (0, .ref (q 0)), (1, .int x1), (3, .int x3), (4, .int x4)]) hx hb dX5_toSign_60 rfl hl (by decide) rfl (fun ls hl => ?_)
        refine lv_iinc (pc := 61) (v := (x4 + (1 : Int32))) (lv' := [(4, .int (x4 + (1 : Int32))), (2, .int (x2 + (1 : Int32))), (0, .ref (q 0)), (1, .int x1), (3, .int x3)]) hx hb dX5_toSign_61 hl (k := 4) rfl rfl (by decide) rfl (fun ls hl => ?_)
        refine lv_goto (pc := 64) (tgt := 30) hx hb dX5_toSign_64 (by decide) ?_
        exact ih _ _ _ _ _ _ hf _ _ _ h (lv_sub hl [2, 3, 1, 4, 0] rfl) kk
set_option maxHeartbeats 400000 in
set_option maxRecDepth 100000 in
theorem l_X5_toSign_19 (C : Cx p s m args meth c cX5_toSign 5 RX5 D cA) : ∀ (n : Nat) (σ : Nat → Nat → Int32) (x1 x2 x3 : Int32) (z : (Nat → Nat → Int32) × Int32 × Int32), f_X5_toSign_19 n σ x1 x2 x3 = some z → ∀ (H : Heap) (locs : List Loc) (ls : Array Slot), St D A s.heap (mW q cA σ) H locs → lv_has ls 5 [(0, .ref (q 0)), (1, .int x1), (2, .int x2), (3, .int x3)] → (∀ (H : Heap) (locs : List Loc) (ls : Array Slot), St D A s.heap (mW q cA z.1) H locs → lv_has ls 5 [(0, .ref (q 0)), (1, .int x1), (2, .int z.2.1), (3, .int z.2.2)] → W p l e rm_X5_toSign s m args below meth c H locs 0 0 Q (F0 m 73 ls [])) → W p l e rm_X5_toSign s m args below meth c H locs 0 0 Q (F0 m 19 ls []) := by
  obtain ⟨hx, hb, hml, hown, hts, hK, hlk⟩ := id C
  intro n
  induction n with
  | zero => intro σ x1 x2 x3 z hf; rw [f_X5_toSign_19] at hf; cases hf
  | succ n ih =>
    intro σ x1 x2 x3 z hf H locs ls h hl kk
    rw [f_X5_toSign_19] at hf
    refine lv_iload_n (pc := 19) hx hb dX5_toSign_19 rfl (lv_at hl 3 rfl) ?_
    refine lv_aload_n (pc := 20) hx hb dX5_toSign_20 rfl (lv_at hl 0 rfl) ?_
    refine g_get (pc := 21) (v := .int (σ 1 0)) C h.1 0 (mW_c0 _ _ _) fl_X5_75 rfl dX5_toSign_21 ?_
    refine lv_icmp_ge (pc := 24) (tgt := 73) hx hb dX5_toSign_24 (by decide) (fun c9 => ?_) (fun c9 => ?_)
    · have hf := ifT c9 hf
      have hf : some (σ, x2, x3) = some z := hf
      cases hf
      exact kk _ _ _ h (lv_sub hl [0, 1, 2, 3] rfl)
    · have hf := ifF c9 hf
      refine lv_iconst (pc := 27) (v := 0) hx hb dX5_toSign_27 (by decide) ?_
      refine lv_istore (pc := 28) (lv' := [(4, .int (0 : Int32)), (0, .ref (q 0)), (1, .int x1), (2, .int x2), (3, .int x3)]) hx hb dX5_toSign_28 hl (by decide) rfl (fun ls hl => ?_)
      obtain ⟨z1, hc1, hf⟩ := bdS hf
      refine l_X5_toSign_30 C _ _ _ _ _ _ _ hc1 _ _ _ h (lv_sub hl [1, 2, 3, 4, 0] rfl) (fun H locs ls h hl => ?_)
      refine lv_iinc (pc := 67) (v := (x3 + (1 : Int32))) (lv' := [(3, .int (x3 + (1 : Int32))), (0, .ref (q 0)), (1, .int x1), (2, .int z1.2.1), (4, .int z1.2.2)]) hx hb dX5_toSign_67 hl (k := 3) rfl rfl (by decide) rfl (fun ls hl => ?_)
      refine lv_goto (pc := 70) (tgt := 19) hx hb dX5_toSign_70 (by decide) ?_
      exact ih _ _ _ _ _ hf _ _ _ h (lv_sub hl [1, 2, 3, 0] rfl) kk
set_option maxHeartbeats 400000 in
set_option maxRecDepth 100000 in
theorem k_X5_toSign {q : Nat → Nat} {cA : Nat → ClassId} {D : va_G} (σ : Nat → Nat → Int32) (x1 : Int32) {z : Int32 × (Nat → Nat → Int32)} (hf : f_X5_toSign σ x1 = some z) : CtU yX5_toSign cX5_toSign 5 (some .int) rm_X5_toSign [.ref (q 0), .int x1] D cA (mW q cA σ) (mW q cA z.2) (some (.int z.1)) 0 0 := by
  refine ctU_of (by decide) (Nat.le_of_ble_eq_true rfl) ?_
  intro p l e s m below meth c ls C hr hnm h hl
  have C : Cx p s m _ meth c cX5_toSign 5 RX5 D cA := C
  obtain ⟨hx, hb, hml, hown, hts, hK, hlk⟩ := id C
  replace hl : lv_has ls 5 [(0, .ref (q 0)), (1, .int x1)] := hl
  rw [f_X5_toSign] at hf
  refine lv_aload_n (pc := 0) hx hb dX5_toSign_0 rfl (lv_at hl 0 rfl) ?_
  refine lv_iload_n (pc := 1) hx hb dX5_toSign_1 rfl (lv_at hl 1 rfl) ?_
  refine call_SR (pc := 2) (As := [.int x1]) (rest := [.ref (q 0)]) (wc := []) C h (k_X5_isPerson x1 rfl) cw_X5_127 [] rfl rfl rfl rfl hl.1 (Nat.le_of_ble_eq_true rfl) dX5_toSign_2 ⟨Nat.le_of_ble_eq_true rfl, Nat.le_of_ble_eq_true rfl⟩ rfl rfl ⟨Nat.le_of_ble_eq_true rfl, Nat.le_of_ble_eq_true rfl⟩ (fun H locs h => ?_)
  refine W.eq (g2 := F0 m 5 ls [.int (f_X5_isPerson x1), .ref (q 0)]) rfl ?_
  refine lv_iconst (pc := 5) (v := 1) hx hb dX5_toSign_5 (by decide) ?_
  refine lv_iconst (pc := 6) (v := 1) hx hb dX5_toSign_6 (by decide) ?_
  refine call_VUs (pc := 7) (As := [.int (f_X5_isPerson x1), .int (1 : Int32), .int (1 : Int32)]) (rest := []) C h (k_X5_goes σ (f_X5_isPerson x1) (1 : Int32) (1 : Int32) rfl) cw_X5_123 0 (mW_c0 _ _ _) rfl (mW_fst _ _ _ _) rfl rfl hl.1 (Nat.le_of_ble_eq_true rfl) dX5_toSign_7 ⟨Nat.le_of_ble_eq_true rfl, Nat.le_of_ble_eq_true rfl⟩ rfl rfl ⟨Nat.le_of_ble_eq_true rfl, Nat.le_of_ble_eq_true rfl⟩ (fun H locs h => ?_)
  refine W.eq (g2 := F0 m 10 ls [.int (f_X5_goes σ (f_X5_isPerson x1) (1 : Int32) (1 : Int32)).1]) rfl ?_
  refine lv_if_ne (pc := 10) (tgt := 15) hx hb dX5_toSign_10 (by decide) (fun c9 => ?_) (fun c9 => ?_)
  · have hf := ifF c9 hf
    refine lv_iconst (pc := 15) (v := 0) hx hb dX5_toSign_15 (by decide) ?_
    refine lv_istore_n (pc := 16) (lv' := [(2, .int (0 : Int32)), (0, .ref (q 0)), (1, .int x1)]) hx hb dX5_toSign_16 rfl hl (by decide) rfl (fun ls hl => ?_)
    refine lv_iconst (pc := 17) (v := 0) hx hb dX5_toSign_17 (by decide) ?_
    refine lv_istore_n (pc := 18) (lv' := [(3, .int (0 : Int32)), (2, .int (0 : Int32)), (0, .ref (q 0)), (1, .int x1)]) hx hb dX5_toSign_18 rfl hl (by decide) rfl (fun ls hl => ?_)
    obtain ⟨z1, hc1, hf⟩ := bdS hf
    refine l_X5_toSign_19 C _ _ _ _ _ _ hc1 _ _ _ h (lv_sub hl [2, 3, 1, 0] rfl) (fun H locs ls h hl => ?_)
    refine lv_iload_n (pc := 73) hx hb dX5_toSign_73 rfl (lv_at hl 2 rfl) ?_
    have hf : (some (z1.2.1, z1.1)) = some z := hf
    cases hf
    exact ret_iU (pc := 74) C hr h dX5_toSign_74
  · have hf := ifT c9 hf
    refine lv_iconst (pc := 13) (v := 0) hx hb dX5_toSign_13 (by decide) ?_
    have hf : (some ((0 : Int32), (f_X5_goes σ (f_X5_isPerson x1) (1 : Int32) (1 : Int32)).2)) = some z := hf
    cases hf
    exact ret_iU (pc := 14) C hr h dX5_toSign_14
abbrev rm_X5_reminds : Room := { frames := 4, cells := 0, slots := 0, locals := 89 }
def f_X5_reminds_15 : Nat → (Nat → Nat → Int32) → Int32 → Int32 → Int32 → Int32 → Option ((Nat → Nat → Int32) × Int32 × Int32)
  | 0, _, _, _, _, _ => none
  | n + 1, σ, x1, x2, x3, x4 => (if inb x1 6 then (if ((σ 2) x1.toNatClampNeg) ≤ x4 then some (σ, x2, x4) else (if inb x4 8 then (if (f_X5_has x3 x4) = 0 then (f_X5_reminds_15 n σ x1 x2 x3 (x4 + (1 : Int32))) else (if inb x4 8 then (if (5 : Int32) ≤ ((σ 22) x4.toNatClampNeg) then (f_X5_reminds_15 n σ x1 x2 x3 (x4 + (1 : Int32))) else (if ((σ 0 0) - ((σ 21) x4.toNatClampNeg)) ≤ 0 then (f_X5_reminds_15 n σ x1 x2 x3 (x4 + (1 : Int32))) else (if inb x1 6 then if ¬ ((σ 3) x1.toNatClampNeg) = 0 then (if (((σ 0 0) - ((σ 21) x4.toNatClampNeg)) - ((σ 0 0) - ((σ 21) x4.toNatClampNeg)) / ((σ 3) x1.toNatClampNeg) * ((σ 3) x1.toNatClampNeg)) = 0 then (if inb (((8 : Int32) * x1) + x4) 48 then ((f_X5_notes σ x1 (6 : Int32) ((σ 6) (((8 : Int32) * x1) + x4).toNatClampNeg) x4).bind fun z2 => (f_X5_reminds_15 n z2 x1 (x2 + (1 : Int32)) x3 (x4 + (1 : Int32)))) else none) else (f_X5_reminds_15 n σ x1 x2 x3 (x4 + (1 : Int32)))) else none else none))) else none)) else none)) else none)
def f_X5_reminds (σ : Nat → Nat → Int32) (x1 : Int32) : Option (Int32 × (Nat → Nat → Int32)) := ((f_X5_looks σ x1).bind fun z1 => ((f_X5_reminds_15 FU z1 x1 (0 : Int32) (f_X5_open z1) (0 : Int32)).bind fun z2 => (some (z2.2.1, z2.1))))
set_option maxHeartbeats 400000 in
set_option maxRecDepth 100000 in
theorem l_X5_reminds_15 (C : Cx p s m args meth c cX5_reminds 6 RX5 D cA) : ∀ (n : Nat) (σ : Nat → Nat → Int32) (x1 x2 x3 x4 : Int32) (z : (Nat → Nat → Int32) × Int32 × Int32), f_X5_reminds_15 n σ x1 x2 x3 x4 = some z → ∀ (H : Heap) (locs : List Loc) (ls : Array Slot), St D A s.heap (mW q cA σ) H locs → lv_has ls 6 [(0, .ref (q 0)), (1, .int x1), (2, .int x2), (3, .int x3), (4, .int x4)] → (∀ (H : Heap) (locs : List Loc) (ls : Array Slot), St D A s.heap (mW q cA z.1) H locs → lv_has ls 6 [(0, .ref (q 0)), (1, .int x1), (2, .int z.2.1), (3, .int x3), (4, .int z.2.2)] → W p l e rm_X5_reminds s m args below meth c H locs 0 0 Q (F0 m 107 ls [])) → W p l e rm_X5_reminds s m args below meth c H locs 0 0 Q (F0 m 15 ls []) := by
  obtain ⟨hx, hb, hml, hown, hts, hK, hlk⟩ := id C
  intro n
  induction n with
  | zero => intro σ x1 x2 x3 x4 z hf; rw [f_X5_reminds_15] at hf; cases hf
  | succ n ih =>
    intro σ x1 x2 x3 x4 z hf H locs ls h hl kk
    rw [f_X5_reminds_15] at hf
    refine lv_iload (pc := 15) hx hb dX5_reminds_15 (lv_at hl 4 rfl) ?_
    refine lv_aload_n (pc := 17) hx hb dX5_reminds_17 rfl (lv_at hl 0 rfl) ?_
    refine g_get (pc := 18) (v := .ref (q 1)) C h.1 0 (mW_c0 _ _ _) fl_X5_7 rfl dX5_reminds_18 ?_
    refine lv_iload_n (pc := 21) hx hb dX5_reminds_21 rfl (lv_at hl 1 rfl) ?_
    obtain ⟨hin, hf⟩ := ifS hf
    refine g_ild (pc := 22) (n := 6) (f := (σ 2)) C h.1 1 (mW_c1 _ _ _) hin dX5_reminds_22 ?_
    refine lv_icmp_ge (pc := 23) (tgt := 107) hx hb dX5_reminds_23 (by decide) (fun c9 => ?_) (fun c9 => ?_)
    · have hf := ifT c9 hf
      have hf : some (σ, x2, x4) = some z := hf
      cases hf
      exact kk _ _ _ h (lv_sub hl [0, 1, 2, 3, 4] rfl)
    · have hf := ifF c9 hf
      refine lv_aload_n (pc := 26) hx hb dX5_reminds_26 rfl (lv_at hl 0 rfl) ?_
      refine g_get (pc := 27) (v := .int (σ 0 0)) C h.1 0 (mW_c0 _ _ _) fl_X5_113 rfl dX5_reminds_27 ?_
      refine lv_aload_n (pc := 30) hx hb dX5_reminds_30 rfl (lv_at hl 0 rfl) ?_
      refine g_get (pc := 31) (v := .ref (q 17)) C h.1 0 (mW_c0 _ _ _) fl_X5_58 rfl dX5_reminds_31 ?_
      refine lv_iload (pc := 34) hx hb dX5_reminds_34 (lv_at hl 4 rfl) ?_
      obtain ⟨hin, hf⟩ := ifS hf
      refine g_ild (pc := 36) (n := 8) (f := (σ 21)) C h.1 17 (mW_c17 _ _ _) hin dX5_reminds_36 ?_
      refine lv_isub (pc := 37) hx hb dX5_reminds_37 ?_
      refine lv_istore (pc := 38) (lv' := [(5, .int ((σ 0 0) - ((σ 21) x4.toNatClampNeg))), (0, .ref (q 0)), (1, .int x1), (2, .int x2), (3, .int x3), (4, .int x4)]) hx hb dX5_reminds_38 hl (by decide) rfl (fun ls hl => ?_)
      refine lv_iload_n (pc := 40) hx hb dX5_reminds_40 rfl (lv_at hl 4 rfl) ?_
      refine lv_iload (pc := 41) hx hb dX5_reminds_41 (lv_at hl 5 rfl) ?_
      refine call_SR (pc := 43) (As := [.int x3, .int x4]) (rest := []) (wc := []) C h (k_X5_has x3 x4 rfl) cw_X5_85 [] rfl rfl rfl rfl hl.1 (Nat.le_of_ble_eq_true rfl) dX5_reminds_43 ⟨Nat.le_of_ble_eq_true rfl, Nat.le_of_ble_eq_true rfl⟩ rfl rfl ⟨Nat.le_of_ble_eq_true rfl, Nat.le_of_ble_eq_true rfl⟩ (fun H locs h => ?_)
      refine W.eq (g2 := F0 m 46 ls [.int (f_X5_has x3 x4)]) rfl ?_
      refine lv_if_eq (pc := 46) (tgt := 101) hx hb dX5_reminds_46 (by decide) (fun c9 => ?_) (fun c9 => ?_)
      · have hf := ifT c9 hf
        refine lv_iinc (pc := 101) (v := (x4 + (1 : Int32))) (lv' := [(4, .int (x4 + (1 : Int32))), (5, .int ((σ 0 0) - ((σ 21) x4.toNatClampNeg))), (0, .ref (q 0)), (1, .int x1), (2, .int x2), (3, .int x3)]) hx hb dX5_reminds_101 hl (k := 5) rfl rfl (by decide) rfl (fun ls hl => ?_)
        refine lv_goto (pc := 104) (tgt := 15) hx hb dX5_reminds_104 (by decide) ?_
        exact ih _ _ _ _ _ _ hf _ _ _ h (lv_sub hl [2, 3, 4, 5, 0] rfl) kk
      · have hf := ifF c9 hf
        refine lv_aload_n (pc := 49) hx hb dX5_reminds_49 rfl (lv_at hl 1 rfl) ?_
        refine g_get (pc := 50) (v := .ref (q 18)) C h.1 0 (mW_c0 _ _ _) fl_X5_61 rfl dX5_reminds_50 ?_
        refine lv_iload (pc := 53) hx hb dX5_reminds_53 (lv_at hl 5 rfl) ?_
        obtain ⟨hin, hf⟩ := ifS hf
        refine g_ild (pc := 55) (n := 8) (f := (σ 22)) C h.1 18 (mW_c18 _ _ _) hin dX5_reminds_55 ?_
        refine lv_iconst (pc := 56) (v := 5) hx hb dX5_reminds_56 (by decide) ?_
        refine lv_icmp_ge (pc := 57) (tgt := 101) hx hb dX5_reminds_57 (by decide) (fun c9 => ?_) (fun c9 => ?_)
        · have hf := ifT c9 hf
          refine lv_iinc (pc := 101) (v := (x4 + (1 : Int32))) (lv' := [(4, .int (x4 + (1 : Int32))), (5, .int ((σ 0 0) - ((σ 21) x4.toNatClampNeg))), (0, .ref (q 0)), (1, .int x1), (2, .int x2), (3, .int x3)]) hx hb dX5_reminds_101 hl (k := 5) rfl rfl (by decide) rfl (fun ls hl => ?_)
          refine lv_goto (pc := 104) (tgt := 15) hx hb dX5_reminds_104 (by decide) ?_
          exact ih _ _ _ _ _ _ hf _ _ _ h (lv_sub hl [2, 3, 4, 5, 0] rfl) kk
        · have hf := ifF c9 hf
          refine lv_iload (pc := 60) hx hb dX5_reminds_60 (lv_at hl 0 rfl) ?_
          refine lv_if_le (pc := 62) (tgt := 101) hx hb dX5_reminds_62 (by decide) (fun c9 => ?_) (fun c9 => ?_)
          · have hf := ifT c9 hf
            refine lv_iinc (pc := 101) (v := (x4 + (1 : Int32))) (lv' := [(4, .int (x4 + (1 : Int32))), (5, .int ((σ 0 0) - ((σ 21) x4.toNatClampNeg))), (0, .ref (q 0)), (1, .int x1), (2, .int x2), (3, .int x3)]) hx hb dX5_reminds_101 hl (k := 5) rfl rfl (by decide) rfl (fun ls hl => ?_)
            refine lv_goto (pc := 104) (tgt := 15) hx hb dX5_reminds_104 (by decide) ?_
            exact ih _ _ _ _ _ _ hf _ _ _ h (lv_sub hl [2, 3, 4, 5, 0] rfl) kk
          · have hf := ifF c9 hf
            refine lv_iload (pc := 65) hx hb dX5_reminds_65 (lv_at hl 0 rfl) ?_
            refine lv_aload_n (pc := 67) hx hb dX5_reminds_67 rfl (lv_at hl 1 rfl) ?_
            refine g_get (pc := 68) (v := .ref (q 2)) C h.1 0 (mW_c0 _ _ _) fl_X5_13 rfl dX5_reminds_68 ?_
            refine lv_iload_n (pc := 71) hx hb dX5_reminds_71 rfl (lv_at hl 2 rfl) ?_
            obtain ⟨hin, hf⟩ := ifS hf
            refine g_ild (pc := 72) (n := 6) (f := (σ 3)) C h.1 2 (mW_c2 _ _ _) hin dX5_reminds_72 ?_
            obtain ⟨hne, hf⟩ := ifS hf
            refine lv_irem (pc := 73) hx hb dX5_reminds_73 hne ?_
            refine lv_if_ne (pc := 74) (tgt := 101) hx hb dX5_reminds_74 (by decide) (fun c9 => ?_) (fun c9 => ?_)
            · have hf := ifF c9 hf
              refine lv_iinc (pc := 101) (v := (x4 + (1 : Int32))) (lv' := [(4, .int (x4 + (1 : Int32))), (5, .int ((σ 0 0) - ((σ 21) x4.toNatClampNeg))), (0, .ref (q 0)), (1, .int x1), (2, .int x2), (3, .int x3)]) hx hb dX5_reminds_101 hl (k := 5) rfl rfl (by decide) rfl (fun ls hl => ?_)
              refine lv_goto (pc := 104) (tgt := 15) hx hb dX5_reminds_104 (by decide) ?_
              exact ih _ _ _ _ _ _ hf _ _ _ h (lv_sub hl [2, 3, 4, 5, 0] rfl) kk
            · have hf := ifT c9 hf
              refine lv_aload_n (pc := 77) hx hb dX5_reminds_77 rfl (lv_at hl 1 rfl) ?_
              refine lv_iload_n (pc := 78) hx hb dX5_reminds_78 rfl (lv_at hl 2 rfl) ?_
              refine lv_bipush (pc := 79) (v := 6) hx hb dX5_reminds_79 (by decide) ?_
              refine lv_aload_n (pc := 81) hx hb dX5_reminds_81 rfl (lv_at hl 1 rfl) ?_
              refine g_get (pc := 82) (v := .ref (q 5)) C h.1 0 (mW_c0 _ _ _) fl_X5_22 rfl dX5_reminds_82 ?_
              refine lv_bipush (pc := 85) (v := 8) hx hb dX5_reminds_85 (by decide) ?_
              refine lv_iload_n (pc := 87) hx hb dX5_reminds_87 rfl (lv_at hl 2 rfl) ?_
              refine lv_imul (pc := 88) hx hb dX5_reminds_88 ?_
              refine lv_iload (pc := 89) hx hb dX5_reminds_89 (lv_at hl 5 rfl) ?_
              refine lv_iadd (pc := 91) hx hb dX5_reminds_91 ?_
              obtain ⟨hin, hf⟩ := ifS hf
              refine g_ild (pc := 92) (n := 48) (f := (σ 6)) C h.1 5 (mW_c5 _ _ _) hin dX5_reminds_92 ?_
              refine lv_iload (pc := 93) hx hb dX5_reminds_93 (lv_at hl 5 rfl) ?_
              obtain ⟨z2, hc2, hf⟩ := bdS hf
              refine call_VUs (pc := 95) (As := [.int x1, .int (6 : Int32), .int ((σ 6) (((8 : Int32) * x1) + x4).toNatClampNeg), .int x4]) (rest := []) C h (k_X5_notes σ x1 (6 : Int32) ((σ 6) (((8 : Int32) * x1) + x4).toNatClampNeg) x4 hc2) cw_X5_116 0 (mW_c0 _ _ _) rfl (mW_fst _ _ _ _) rfl rfl hl.1 (Nat.le_of_ble_eq_true rfl) dX5_reminds_95 ⟨Nat.le_of_ble_eq_true rfl, Nat.le_of_ble_eq_true rfl⟩ rfl rfl ⟨Nat.le_of_ble_eq_true rfl, Nat.le_of_ble_eq_true rfl⟩ (fun H locs h => ?_)
              refine W.eq (g2 := F0 m 98 ls []) rfl ?_
              refine lv_iinc (pc := 98) (v := (x2 + (1 : Int32))) (lv' := [(2, .int (x2 + (1 : Int32))), (5, .int ((σ 0 0) - ((σ 21) x4.toNatClampNeg))), (0, .ref (q 0)), (1, .int x1), (3, .int x3), (4, .int x4)]) hx hb dX5_reminds_98 hl (k := 3) rfl rfl (by decide) rfl (fun ls hl => ?_)
              refine lv_iinc (pc := 101) (v := (x4 + (1 : Int32))) (lv' := [(4, .int (x4 + (1 : Int32))), (2, .int (x2 + (1 : Int32))), (5, .int ((σ 0 0) - ((σ 21) x4.toNatClampNeg))), (0, .ref (q 0)), (1, .int x1), (3, .int x3)]) hx hb dX5_reminds_101 hl (k := 5) rfl rfl (by decide) rfl (fun ls hl => ?_)
              refine lv_goto (pc := 104) (tgt := 15) hx hb dX5_reminds_104 (by decide) ?_
              exact ih _ _ _ _ _ _ hf _ _ _ h (lv_sub hl [3, 4, 1, 5, 0] rfl) kk
set_option maxHeartbeats 400000 in
set_option maxRecDepth 100000 in
theorem k_X5_reminds {q : Nat → Nat} {cA : Nat → ClassId} {D : va_G} (σ : Nat → Nat → Int32) (x1 : Int32) {z : Int32 × (Nat → Nat → Int32)} (hf : f_X5_reminds σ x1 = some z) : CtU yX5_reminds cX5_reminds 6 (some .int) rm_X5_reminds [.ref (q 0), .int x1] D cA (mW q cA σ) (mW q cA z.2) (some (.int z.1)) 0 0 := by
  refine ctU_of (by decide) (Nat.le_of_ble_eq_true rfl) ?_
  intro p l e s m below meth c ls C hr hnm h hl
  have C : Cx p s m _ meth c cX5_reminds 6 RX5 D cA := C
  obtain ⟨hx, hb, hml, hown, hts, hK, hlk⟩ := id C
  replace hl : lv_has ls 6 [(0, .ref (q 0)), (1, .int x1)] := hl
  rw [f_X5_reminds] at hf
  refine lv_iconst (pc := 0) (v := 0) hx hb dX5_reminds_0 (by decide) ?_
  refine lv_istore_n (pc := 1) (lv' := [(2, .int (0 : Int32)), (0, .ref (q 0)), (1, .int x1)]) hx hb dX5_reminds_1 rfl hl (by decide) rfl (fun ls hl => ?_)
  refine lv_aload_n (pc := 2) hx hb dX5_reminds_2 rfl (lv_at hl 1 rfl) ?_
  refine lv_iload_n (pc := 3) hx hb dX5_reminds_3 rfl (lv_at hl 2 rfl) ?_
  obtain ⟨z1, hc1, hf⟩ := bdS hf
  refine call_VUs (pc := 4) (As := [.int x1]) (rest := []) C h (k_X5_looks σ x1 hc1) cw_X5_109 0 (mW_c0 _ _ _) rfl (mW_fst _ _ _ _) rfl rfl hl.1 (Nat.le_of_ble_eq_true rfl) dX5_reminds_4 ⟨Nat.le_of_ble_eq_true rfl, Nat.le_of_ble_eq_true rfl⟩ rfl rfl ⟨Nat.le_of_ble_eq_true rfl, Nat.le_of_ble_eq_true rfl⟩ (fun H locs h => ?_)
  refine W.eq (g2 := F0 m 7 ls []) rfl ?_
  refine lv_aload_n (pc := 7) hx hb dX5_reminds_7 rfl (lv_at hl 1 rfl) ?_
  refine call_VRs (pc := 8) (As := []) (rest := []) C h (k_X5_open z1 rfl) cw_X5_137 0 (mW_c0 _ _ _) rfl rfl rfl hl.1 (Nat.le_of_ble_eq_true rfl) dX5_reminds_8 ⟨Nat.le_of_ble_eq_true rfl, Nat.le_of_ble_eq_true rfl⟩ rfl rfl ⟨Nat.le_of_ble_eq_true rfl, Nat.le_of_ble_eq_true rfl⟩ (fun H locs h => ?_)
  refine W.eq (g2 := F0 m 11 ls [.int (f_X5_open z1)]) rfl ?_
  refine lv_istore_n (pc := 11) (lv' := [(3, .int (f_X5_open z1)), (2, .int (0 : Int32)), (0, .ref (q 0)), (1, .int x1)]) hx hb dX5_reminds_11 rfl hl (by decide) rfl (fun ls hl => ?_)
  refine lv_iconst (pc := 12) (v := 0) hx hb dX5_reminds_12 (by decide) ?_
  refine lv_istore (pc := 13) (lv' := [(4, .int (0 : Int32)), (3, .int (f_X5_open z1)), (2, .int (0 : Int32)), (0, .ref (q 0)), (1, .int x1)]) hx hb dX5_reminds_13 hl (by decide) rfl (fun ls hl => ?_)
  obtain ⟨z2, hc2, hf⟩ := bdS hf
  refine l_X5_reminds_15 C _ _ _ _ _ _ _ hc2 _ _ _ h (lv_sub hl [3, 4, 2, 1, 0] rfl) (fun H locs ls h hl => ?_)
  refine lv_iload_n (pc := 107) hx hb dX5_reminds_107 rfl (lv_at hl 2 rfl) ?_
  have hf : (some (z2.2.1, z2.1)) = some z := hf
  cases hf
  exact ret_iU (pc := 108) C hr h dX5_reminds_108
abbrev rm_X5_passes : Room := { frames := 5, cells := 0, slots := 0, locals := 114 }
def f_X5_passes_14 : Nat → (Nat → Nat → Int32) → Int32 → Int32 → Option ((Nat → Nat → Int32) × Int32 × Int32)
  | 0, _, _, _ => none
  | n + 1, σ, x1, x2 => (if (σ 1 0) ≤ x2 then some (σ, x1, x2) else ((f_X5_isIn σ x2 (1 : Int32)).bind fun z2 => (if z2.1 = 0 then (f_X5_passes_14 n z2.2 x1 (x2 + (1 : Int32))) else (if inb x2 6 then (if ((z2.2 4) x2.toNatClampNeg) ≤ 0 then (if inb x2 6 then (if ((z2.2 3) x2.toNatClampNeg) ≤ 0 then (f_X5_passes_14 n z2.2 (x1 + (0 : Int32)) (x2 + (1 : Int32))) else ((f_X5_reminds z2.2 x2).bind fun z3 => (f_X5_passes_14 n z3.2 (x1 + z3.1) (x2 + (1 : Int32))))) else none) else (if inb ((50 : Int32) * x2) 300 then (if inb x2 6 then (if (z2.2 0 0) = (((z2.2 11) ((50 : Int32) * x2).toNatClampNeg) + ((z2.2 4) x2.toNatClampNeg)) then ((f_X5_closes z2.2 x2 (5 : Int32) (-1 : Int32) (-1 : Int32)).bind fun z3 => (f_X5_passes_14 n z3.2 (x1 + (0 : Int32)) (x2 + (1 : Int32)))) else (if inb x2 6 then (if ((z2.2 3) x2.toNatClampNeg) ≤ 0 then (f_X5_passes_14 n z2.2 (x1 + (0 : Int32)) (x2 + (1 : Int32))) else ((f_X5_reminds z2.2 x2).bind fun z3 => (f_X5_passes_14 n z3.2 (x1 + z3.1) (x2 + (1 : Int32))))) else none)) else none) else none)) else none))))
def f_X5_passes (σ : Nat → Nat → Int32) : Option (Int32 × (Nat → Nat → Int32)) := (lt (va_up σ 0 (fun _ => ((σ 0 0) + (1 : Int32)))) fun t1 => ((f_X5_passes_14 FU t1 (0 : Int32) (0 : Int32)).bind fun z2 => (some (z2.2.1, z2.1))))
set_option maxHeartbeats 400000 in
set_option maxRecDepth 100000 in
theorem l_X5_passes_14 (C : Cx p s m args meth c cX5_passes 5 RX5 D cA) : ∀ (n : Nat) (σ : Nat → Nat → Int32) (x1 x2 : Int32) (z : (Nat → Nat → Int32) × Int32 × Int32), f_X5_passes_14 n σ x1 x2 = some z → ∀ (H : Heap) (locs : List Loc) (ls : Array Slot), St D A s.heap (mW q cA σ) H locs → lv_has ls 5 [(0, .ref (q 0)), (1, .int x1), (2, .int x2)] → (∀ (H : Heap) (locs : List Loc) (ls : Array Slot), St D A s.heap (mW q cA z.1) H locs → lv_has ls 5 [(0, .ref (q 0)), (1, .int z.2.1), (2, .int z.2.2)] → W p l e rm_X5_passes s m args below meth c H locs 0 0 Q (F0 m 118 ls [])) → W p l e rm_X5_passes s m args below meth c H locs 0 0 Q (F0 m 14 ls []) := by
  obtain ⟨hx, hb, hml, hown, hts, hK, hlk⟩ := id C
  intro n
  induction n with
  | zero => intro σ x1 x2 z hf; rw [f_X5_passes_14] at hf; cases hf
  | succ n ih =>
    intro σ x1 x2 z hf H locs ls h hl kk
    rw [f_X5_passes_14] at hf
    refine lv_iload_n (pc := 14) hx hb dX5_passes_14 rfl (lv_at hl 2 rfl) ?_
    refine lv_aload_n (pc := 15) hx hb dX5_passes_15 rfl (lv_at hl 0 rfl) ?_
    refine g_get (pc := 16) (v := .int (σ 1 0)) C h.1 0 (mW_c0 _ _ _) fl_X5_75 rfl dX5_passes_16 ?_
    refine lv_icmp_ge (pc := 19) (tgt := 118) hx hb dX5_passes_19 (by decide) (fun c9 => ?_) (fun c9 => ?_)
    · have hf := ifT c9 hf
      have hf : some (σ, x1, x2) = some z := hf
      cases hf
      exact kk _ _ _ h (lv_sub hl [0, 1, 2] rfl)
    · have hf := ifF c9 hf
      refine lv_aload_n (pc := 22) hx hb dX5_passes_22 rfl (lv_at hl 0 rfl) ?_
      refine lv_iload_n (pc := 23) hx hb dX5_passes_23 rfl (lv_at hl 2 rfl) ?_
      refine lv_iconst (pc := 24) (v := 1) hx hb dX5_passes_24 (by decide) ?_
      obtain ⟨z2, hc2, hf⟩ := bdS hf
      refine call_VUs (pc := 25) (As := [.int x2, .int (1 : Int32)]) (rest := []) C h (k_X5_isIn σ x2 (1 : Int32) hc2) cw_X5_130 0 (mW_c0 _ _ _) rfl (mW_fst _ _ _ _) rfl rfl hl.1 (Nat.le_of_ble_eq_true rfl) dX5_passes_25 ⟨Nat.le_of_ble_eq_true rfl, Nat.le_of_ble_eq_true rfl⟩ rfl rfl ⟨Nat.le_of_ble_eq_true rfl, Nat.le_of_ble_eq_true rfl⟩ (fun H locs h => ?_)
      refine W.eq (g2 := F0 m 28 ls [.int z2.1]) rfl ?_
      refine lv_if_eq (pc := 28) (tgt := 112) hx hb dX5_passes_28 (by decide) (fun c9 => ?_) (fun c9 => ?_)
      · have hf := ifT c9 hf
        refine lv_iinc (pc := 112) (v := (x2 + (1 : Int32))) (lv' := [(2, .int (x2 + (1 : Int32))), (0, .ref (q 0)), (1, .int x1)]) hx hb dX5_passes_112 hl (k := 2) rfl rfl (by decide) rfl (fun ls hl => ?_)
        refine lv_goto (pc := 115) (tgt := 14) hx hb dX5_passes_115 (by decide) ?_
        exact ih _ _ _ _ hf _ _ _ h (lv_sub hl [1, 2, 0] rfl) kk
      · have hf := ifF c9 hf
        refine lv_aload_n (pc := 31) hx hb dX5_passes_31 rfl (lv_at hl 0 rfl) ?_
        refine g_get (pc := 32) (v := .ref (q 3)) C h.1 0 (mW_c0 _ _ _) fl_X5_16 rfl dX5_passes_32 ?_
        refine lv_iload_n (pc := 35) hx hb dX5_passes_35 rfl (lv_at hl 2 rfl) ?_
        obtain ⟨hin, hf⟩ := ifS hf
        refine g_ild (pc := 36) (n := 6) (f := (z2.2 4)) C h.1 3 (mW_c3 _ _ _) hin dX5_passes_36 ?_
        refine lv_if_le (pc := 37) (tgt := 67) hx hb dX5_passes_37 (by decide) (fun c9 => ?_) (fun c9 => ?_)
        · have hf := ifT c9 hf
          refine lv_iconst (pc := 67) (v := 0) hx hb dX5_passes_67 (by decide) ?_
          refine lv_istore_n (pc := 68) (lv' := [(3, .int (0 : Int32)), (0, .ref (q 0)), (1, .int x1), (2, .int x2)]) hx hb dX5_passes_68 rfl hl (by decide) rfl (fun ls hl => ?_)
          refine lv_iload_n (pc := 69) hx hb dX5_passes_69 rfl (lv_at hl 0 rfl) ?_
          refine lv_if_eq (pc := 70) (tgt := 84) hx hb dX5_passes_70 (by decide) (fun _ => ?_) (fun c9 => absurd c9 (by decide))
          refine lv_iconst (pc := 84) (v := 0) hx hb dX5_passes_84 (by decide) ?_
          refine lv_istore (pc := 85) (lv' := [(4, .int (0 : Int32)), (3, .int (0 : Int32)), (0, .ref (q 0)), (1, .int x1), (2, .int x2)]) hx hb dX5_passes_85 hl (by decide) rfl (fun ls hl => ?_)
          refine lv_iload_n (pc := 87) hx hb dX5_passes_87 rfl (lv_at hl 3 rfl) ?_
          refine lv_iload_n (pc := 88) hx hb dX5_passes_88 rfl (lv_at hl 1 rfl) ?_
          refine lv_if_ne (pc := 89) (tgt := 109) hx hb dX5_passes_89 (by decide) (fun c9 => absurd c9 (by decide)) (fun _ => ?_)
          refine lv_aload_n (pc := 92) hx hb dX5_passes_92 rfl (lv_at hl 2 rfl) ?_
          refine g_get (pc := 93) (v := .ref (q 2)) C h.1 0 (mW_c0 _ _ _) fl_X5_13 rfl dX5_passes_93 ?_
          refine lv_iload_n (pc := 96) hx hb dX5_passes_96 rfl (lv_at hl 4 rfl) ?_
          obtain ⟨hin, hf⟩ := ifS hf
          refine g_ild (pc := 97) (n := 6) (f := (z2.2 3)) C h.1 2 (mW_c2 _ _ _) hin dX5_passes_97 ?_
          refine lv_if_le (pc := 98) (tgt := 109) hx hb dX5_passes_98 (by decide) (fun c9 => ?_) (fun c9 => ?_)
          · have hf := ifT c9 hf
            refine lv_iconst (pc := 109) (v := 0) hx hb dX5_passes_109 (by decide) ?_
            refine lv_iadd (pc := 110) hx hb dX5_passes_110 ?_
            refine lv_istore_n (pc := 111) (lv' := [(1, .int (x1 + (0 : Int32))), (4, .int (0 : Int32)), (3, .int (0 : Int32)), (0, .ref (q 0)), (2, .int x2)]) hx hb dX5_passes_111 rfl hl (by decide) rfl (fun ls hl => ?_)
            refine lv_iinc (pc := 112) (v := (x2 + (1 : Int32))) (lv' := [(2, .int (x2 + (1 : Int32))), (1, .int (x1 + (0 : Int32))), (4, .int (0 : Int32)), (3, .int (0 : Int32)), (0, .ref (q 0))]) hx hb dX5_passes_112 hl (k := 4) rfl rfl (by decide) rfl (fun ls hl => ?_)
            refine lv_goto (pc := 115) (tgt := 14) hx hb dX5_passes_115 (by decide) ?_
            exact ih _ _ _ _ hf _ _ _ h (lv_sub hl [4, 1, 0] rfl) kk
          · have hf := ifF c9 hf
            refine lv_aload_n (pc := 101) hx hb dX5_passes_101 rfl (lv_at hl 2 rfl) ?_
            refine lv_iload_n (pc := 102) hx hb dX5_passes_102 rfl (lv_at hl 4 rfl) ?_
            obtain ⟨z3, hc3, hf⟩ := bdS hf
            refine call_VUs (pc := 103) (As := [.int x2]) (rest := [.int x1]) C h (k_X5_reminds z2.2 x2 hc3) cw_X5_157 0 (mW_c0 _ _ _) rfl (mW_fst _ _ _ _) rfl rfl hl.1 (Nat.le_of_ble_eq_true rfl) dX5_passes_103 ⟨Nat.le_of_ble_eq_true rfl, Nat.le_of_ble_eq_true rfl⟩ rfl rfl ⟨Nat.le_of_ble_eq_true rfl, Nat.le_of_ble_eq_true rfl⟩ (fun H locs h => ?_)
            refine W.eq (g2 := F0 m 106 ls [.int z3.1, .int x1]) rfl ?_
            refine lv_goto (pc := 106) (tgt := 110) hx hb dX5_passes_106 (by decide) ?_
            refine lv_iadd (pc := 110) hx hb dX5_passes_110 ?_
            refine lv_istore_n (pc := 111) (lv' := [(1, .int (x1 + z3.1)), (4, .int (0 : Int32)), (3, .int (0 : Int32)), (0, .ref (q 0)), (2, .int x2)]) hx hb dX5_passes_111 rfl hl (by decide) rfl (fun ls hl => ?_)
            refine lv_iinc (pc := 112) (v := (x2 + (1 : Int32))) (lv' := [(2, .int (x2 + (1 : Int32))), (1, .int (x1 + z3.1)), (4, .int (0 : Int32)), (3, .int (0 : Int32)), (0, .ref (q 0))]) hx hb dX5_passes_112 hl (k := 4) rfl rfl (by decide) rfl (fun ls hl => ?_)
            refine lv_goto (pc := 115) (tgt := 14) hx hb dX5_passes_115 (by decide) ?_
            exact ih _ _ _ _ hf _ _ _ h (lv_sub hl [4, 1, 0] rfl) kk
        · have hf := ifF c9 hf
          refine lv_aload_n (pc := 40) hx hb dX5_passes_40 rfl (lv_at hl 0 rfl) ?_
          refine g_get (pc := 41) (v := .int (z2.2 0 0)) C h.1 0 (mW_c0 _ _ _) fl_X5_113 rfl dX5_passes_41 ?_
          refine lv_aload_n (pc := 44) hx hb dX5_passes_44 rfl (lv_at hl 0 rfl) ?_
          refine g_get (pc := 45) (v := .ref (q 10)) C h.1 0 (mW_c0 _ _ _) fl_X5_37 rfl dX5_passes_45 ?_
          refine lv_bipush (pc := 48) (v := 50) hx hb dX5_passes_48 (by decide) ?_
          refine lv_iload_n (pc := 50) hx hb dX5_passes_50 rfl (lv_at hl 2 rfl) ?_
          refine lv_imul (pc := 51) hx hb dX5_passes_51 ?_
          obtain ⟨hin, hf⟩ := ifS hf
          refine g_ild (pc := 52) (n := 300) (f := (z2.2 11)) C h.1 10 (mW_c10 _ _ _) hin dX5_passes_52 ?_
          refine lv_aload_n (pc := 53) hx hb dX5_passes_53 rfl (lv_at hl 0 rfl) ?_
          refine g_get (pc := 54) (v := .ref (q 3)) C h.1 0 (mW_c0 _ _ _) fl_X5_16 rfl dX5_passes_54 ?_
          refine lv_iload_n (pc := 57) hx hb dX5_passes_57 rfl (lv_at hl 2 rfl) ?_
          obtain ⟨hin, hf⟩ := ifS hf
          refine g_ild (pc := 58) (n := 6) (f := (z2.2 4)) C h.1 3 (mW_c3 _ _ _) hin dX5_passes_58 ?_
          refine lv_iadd (pc := 59) hx hb dX5_passes_59 ?_
          refine lv_icmp_ne (pc := 60) (tgt := 67) hx hb dX5_passes_60 (by decide) (fun c9 => ?_) (fun c9 => ?_)
          · have hf := ifF c9 hf
            refine lv_iconst (pc := 67) (v := 0) hx hb dX5_passes_67 (by decide) ?_
            refine lv_istore_n (pc := 68) (lv' := [(3, .int (0 : Int32)), (0, .ref (q 0)), (1, .int x1), (2, .int x2)]) hx hb dX5_passes_68 rfl hl (by decide) rfl (fun ls hl => ?_)
            refine lv_iload_n (pc := 69) hx hb dX5_passes_69 rfl (lv_at hl 0 rfl) ?_
            refine lv_if_eq (pc := 70) (tgt := 84) hx hb dX5_passes_70 (by decide) (fun _ => ?_) (fun c9 => absurd c9 (by decide))
            refine lv_iconst (pc := 84) (v := 0) hx hb dX5_passes_84 (by decide) ?_
            refine lv_istore (pc := 85) (lv' := [(4, .int (0 : Int32)), (3, .int (0 : Int32)), (0, .ref (q 0)), (1, .int x1), (2, .int x2)]) hx hb dX5_passes_85 hl (by decide) rfl (fun ls hl => ?_)
            refine lv_iload_n (pc := 87) hx hb dX5_passes_87 rfl (lv_at hl 3 rfl) ?_
            refine lv_iload_n (pc := 88) hx hb dX5_passes_88 rfl (lv_at hl 1 rfl) ?_
            refine lv_if_ne (pc := 89) (tgt := 109) hx hb dX5_passes_89 (by decide) (fun c9 => absurd c9 (by decide)) (fun _ => ?_)
            refine lv_aload_n (pc := 92) hx hb dX5_passes_92 rfl (lv_at hl 2 rfl) ?_
            refine g_get (pc := 93) (v := .ref (q 2)) C h.1 0 (mW_c0 _ _ _) fl_X5_13 rfl dX5_passes_93 ?_
            refine lv_iload_n (pc := 96) hx hb dX5_passes_96 rfl (lv_at hl 4 rfl) ?_
            obtain ⟨hin, hf⟩ := ifS hf
            refine g_ild (pc := 97) (n := 6) (f := (z2.2 3)) C h.1 2 (mW_c2 _ _ _) hin dX5_passes_97 ?_
            refine lv_if_le (pc := 98) (tgt := 109) hx hb dX5_passes_98 (by decide) (fun c9 => ?_) (fun c9 => ?_)
            · have hf := ifT c9 hf
              refine lv_iconst (pc := 109) (v := 0) hx hb dX5_passes_109 (by decide) ?_
              refine lv_iadd (pc := 110) hx hb dX5_passes_110 ?_
              refine lv_istore_n (pc := 111) (lv' := [(1, .int (x1 + (0 : Int32))), (4, .int (0 : Int32)), (3, .int (0 : Int32)), (0, .ref (q 0)), (2, .int x2)]) hx hb dX5_passes_111 rfl hl (by decide) rfl (fun ls hl => ?_)
              refine lv_iinc (pc := 112) (v := (x2 + (1 : Int32))) (lv' := [(2, .int (x2 + (1 : Int32))), (1, .int (x1 + (0 : Int32))), (4, .int (0 : Int32)), (3, .int (0 : Int32)), (0, .ref (q 0))]) hx hb dX5_passes_112 hl (k := 4) rfl rfl (by decide) rfl (fun ls hl => ?_)
              refine lv_goto (pc := 115) (tgt := 14) hx hb dX5_passes_115 (by decide) ?_
              exact ih _ _ _ _ hf _ _ _ h (lv_sub hl [4, 1, 0] rfl) kk
            · have hf := ifF c9 hf
              refine lv_aload_n (pc := 101) hx hb dX5_passes_101 rfl (lv_at hl 2 rfl) ?_
              refine lv_iload_n (pc := 102) hx hb dX5_passes_102 rfl (lv_at hl 4 rfl) ?_
              obtain ⟨z3, hc3, hf⟩ := bdS hf
              refine call_VUs (pc := 103) (As := [.int x2]) (rest := [.int x1]) C h (k_X5_reminds z2.2 x2 hc3) cw_X5_157 0 (mW_c0 _ _ _) rfl (mW_fst _ _ _ _) rfl rfl hl.1 (Nat.le_of_ble_eq_true rfl) dX5_passes_103 ⟨Nat.le_of_ble_eq_true rfl, Nat.le_of_ble_eq_true rfl⟩ rfl rfl ⟨Nat.le_of_ble_eq_true rfl, Nat.le_of_ble_eq_true rfl⟩ (fun H locs h => ?_)
              refine W.eq (g2 := F0 m 106 ls [.int z3.1, .int x1]) rfl ?_
              refine lv_goto (pc := 106) (tgt := 110) hx hb dX5_passes_106 (by decide) ?_
              refine lv_iadd (pc := 110) hx hb dX5_passes_110 ?_
              refine lv_istore_n (pc := 111) (lv' := [(1, .int (x1 + z3.1)), (4, .int (0 : Int32)), (3, .int (0 : Int32)), (0, .ref (q 0)), (2, .int x2)]) hx hb dX5_passes_111 rfl hl (by decide) rfl (fun ls hl => ?_)
              refine lv_iinc (pc := 112) (v := (x2 + (1 : Int32))) (lv' := [(2, .int (x2 + (1 : Int32))), (1, .int (x1 + z3.1)), (4, .int (0 : Int32)), (3, .int (0 : Int32)), (0, .ref (q 0))]) hx hb dX5_passes_112 hl (k := 4) rfl rfl (by decide) rfl (fun ls hl => ?_)
              refine lv_goto (pc := 115) (tgt := 14) hx hb dX5_passes_115 (by decide) ?_
              exact ih _ _ _ _ hf _ _ _ h (lv_sub hl [4, 1, 0] rfl) kk
          · have hf := ifT c9 hf
            refine lv_iconst (pc := 63) (v := 1) hx hb dX5_passes_63 (by decide) ?_
            refine lv_goto (pc := 64) (tgt := 68) hx hb dX5_passes_64 (by decide) ?_
            refine lv_istore_n (pc := 68) (lv' := [(3, .int (1 : Int32)), (0, .ref (q 0)), (1, .int x1), (2, .int x2)]) hx hb dX5_passes_68 rfl hl (by decide) rfl (fun ls hl => ?_)
            refine lv_iload_n (pc := 69) hx hb dX5_passes_69 rfl (lv_at hl 0 rfl) ?_
            refine lv_if_eq (pc := 70) (tgt := 84) hx hb dX5_passes_70 (by decide) (fun c9 => absurd c9 (by decide)) (fun _ => ?_)
            refine lv_aload_n (pc := 73) hx hb dX5_passes_73 rfl (lv_at hl 1 rfl) ?_
            refine lv_iload_n (pc := 74) hx hb dX5_passes_74 rfl (lv_at hl 3 rfl) ?_
            refine lv_iconst (pc := 75) (v := 5) hx hb dX5_passes_75 (by decide) ?_
            refine lv_iconst (pc := 76) (v := -1) hx hb dX5_passes_76 (by decide) ?_
            refine lv_iconst (pc := 77) (v := -1) hx hb dX5_passes_77 (by decide) ?_
            obtain ⟨z3, hc3, hf⟩ := bdS hf
            refine call_VUs (pc := 78) (As := [.int x2, .int (5 : Int32), .int (-1 : Int32), .int (-1 : Int32)]) (rest := []) C h (k_X5_closes z2.2 x2 (5 : Int32) (-1 : Int32) (-1 : Int32) hc3) cw_X5_153 0 (mW_c0 _ _ _) rfl (mW_fst _ _ _ _) rfl rfl hl.1 (Nat.le_of_ble_eq_true rfl) dX5_passes_78 ⟨Nat.le_of_ble_eq_true rfl, Nat.le_of_ble_eq_true rfl⟩ rfl rfl ⟨Nat.le_of_ble_eq_true rfl, Nat.le_of_ble_eq_true rfl⟩ (fun H locs h => ?_)
            refine W.eq (g2 := F0 m 81 ls [.int z3.1]) rfl ?_
            refine lv_goto (pc := 81) (tgt := 85) hx hb dX5_passes_81 (by decide) ?_
            refine lv_istore (pc := 85) (lv' := [(4, .int z3.1), (3, .int (1 : Int32)), (0, .ref (q 0)), (1, .int x1), (2, .int x2)]) hx hb dX5_passes_85 hl (by decide) rfl (fun ls hl => ?_)
            refine lv_iload_n (pc := 87) hx hb dX5_passes_87 rfl (lv_at hl 3 rfl) ?_
            refine lv_iload_n (pc := 88) hx hb dX5_passes_88 rfl (lv_at hl 1 rfl) ?_
            refine lv_if_ne (pc := 89) (tgt := 109) hx hb dX5_passes_89 (by decide) (fun _ => ?_) (fun c9 => absurd c9 (by decide))
            refine lv_iconst (pc := 109) (v := 0) hx hb dX5_passes_109 (by decide) ?_
            refine lv_iadd (pc := 110) hx hb dX5_passes_110 ?_
            refine lv_istore_n (pc := 111) (lv' := [(1, .int (x1 + (0 : Int32))), (4, .int z3.1), (3, .int (1 : Int32)), (0, .ref (q 0)), (2, .int x2)]) hx hb dX5_passes_111 rfl hl (by decide) rfl (fun ls hl => ?_)
            refine lv_iinc (pc := 112) (v := (x2 + (1 : Int32))) (lv' := [(2, .int (x2 + (1 : Int32))), (1, .int (x1 + (0 : Int32))), (4, .int z3.1), (3, .int (1 : Int32)), (0, .ref (q 0))]) hx hb dX5_passes_112 hl (k := 4) rfl rfl (by decide) rfl (fun ls hl => ?_)
            refine lv_goto (pc := 115) (tgt := 14) hx hb dX5_passes_115 (by decide) ?_
            exact ih _ _ _ _ hf _ _ _ h (lv_sub hl [4, 1, 0] rfl) kk
set_option maxHeartbeats 400000 in
set_option maxRecDepth 100000 in
theorem k_X5_passes {q : Nat → Nat} {cA : Nat → ClassId} {D : va_G} (σ : Nat → Nat → Int32) {z : Int32 × (Nat → Nat → Int32)} (hf : f_X5_passes σ = some z) : CtU yX5_passes cX5_passes 5 (some .int) rm_X5_passes [.ref (q 0)] D cA (mW q cA σ) (mW q cA z.2) (some (.int z.1)) 0 0 := by
  refine ctU_of (by decide) (Nat.le_of_ble_eq_true rfl) ?_
  intro p l e s m below meth c ls C hr hnm h hl
  have C : Cx p s m _ meth c cX5_passes 5 RX5 D cA := C
  obtain ⟨hx, hb, hml, hown, hts, hK, hlk⟩ := id C
  replace hl : lv_has ls 5 [(0, .ref (q 0))] := hl
  rw [f_X5_passes] at hf
  refine lv_iconst (pc := 0) (v := 0) hx hb dX5_passes_0 (by decide) ?_
  refine lv_istore_n (pc := 1) (lv' := [(1, .int (0 : Int32)), (0, .ref (q 0))]) hx hb dX5_passes_1 rfl hl (by decide) rfl (fun ls hl => ?_)
  refine lv_aload_n (pc := 2) hx hb dX5_passes_2 rfl (lv_at hl 1 rfl) ?_
  refine lv_dup (pc := 3) hx hb dX5_passes_3 rfl ?_
  refine g_get (pc := 4) (v := .int (σ 0 0)) C h.1 0 (mW_c0 _ _ _) fl_X5_113 rfl dX5_passes_4 ?_
  refine lv_iconst (pc := 7) (v := 1) hx hb dX5_passes_7 (by decide) ?_
  refine lv_iadd (pc := 8) hx hb dX5_passes_8 ?_
  obtain ⟨t1, et1, hf⟩ := ltS hf
  refine g_puti (pc := 9) (v := ((σ 0 0) + (1 : Int32))) (ws' := (mW q cA t1)) C h 0 (mW_c0 _ _ _) fp_X5_113 (Nat.le_of_ble_eq_true rfl) ((mW_w0_0 _ _ _ _).trans (congrArg (mW q cA) et1.symm)) dX5_passes_9 (fun H locs h => ?_)
  refine lv_iconst (pc := 12) (v := 0) hx hb dX5_passes_12 (by decide) ?_
  refine lv_istore_n (pc := 13) (lv' := [(2, .int (0 : Int32)), (1, .int (0 : Int32)), (0, .ref (q 0))]) hx hb dX5_passes_13 rfl hl (by decide) rfl (fun ls hl => ?_)
  obtain ⟨z2, hc2, hf⟩ := bdS hf
  refine l_X5_passes_14 C _ _ _ _ _ hc2 _ _ _ h (lv_sub hl [2, 1, 0] rfl) (fun H locs ls h hl => ?_)
  refine lv_iload_n (pc := 118) hx hb dX5_passes_118 rfl (lv_at hl 1 rfl) ?_
  have hf : (some (z2.2.1, z2.1)) = some z := hf
  cases hf
  exact ret_iU (pc := 119) C hr h dX5_passes_119
abbrev rm_X5_pass : Room := { frames := 6, cells := 0, slots := 0, locals := 138 }
def f_X5_pass_22 : Nat → (Nat → Nat → Int32) → Int32 → Int32 → Int32 → Option ((Nat → Nat → Int32) × Int32 × Int32)
  | 0, _, _, _, _ => none
  | n + 1, σ, x1, x2, x3 => (if x1 ≤ x3 then some (σ, x2, x3) else ((f_X5_passes σ).bind fun z1 => (f_X5_pass_22 n z1.2 x1 (x2 + z1.1) (x3 + (1 : Int32)))))
def f_X5_pass (σ : Nat → Nat → Int32) (x1 : Int32) : Option (Int32 × (Nat → Nat → Int32)) := (if (f_X5_goes σ (f_X5_in x1 (1 : Int32) (60 : Int32)) (1 : Int32) (1 : Int32)).1 = 0 then (some ((0 : Int32), (f_X5_goes σ (f_X5_in x1 (1 : Int32) (60 : Int32)) (1 : Int32) (1 : Int32)).2)) else ((f_X5_pass_22 FU (f_X5_goes σ (f_X5_in x1 (1 : Int32) (60 : Int32)) (1 : Int32) (1 : Int32)).2 x1 (0 : Int32) (0 : Int32)).bind fun z1 => (some (z1.2.1, z1.1))))
set_option maxHeartbeats 400000 in
set_option maxRecDepth 100000 in
theorem l_X5_pass_22 (C : Cx p s m args meth c cX5_pass 4 RX5 D cA) : ∀ (n : Nat) (σ : Nat → Nat → Int32) (x1 x2 x3 : Int32) (z : (Nat → Nat → Int32) × Int32 × Int32), f_X5_pass_22 n σ x1 x2 x3 = some z → ∀ (H : Heap) (locs : List Loc) (ls : Array Slot), St D A s.heap (mW q cA σ) H locs → lv_has ls 4 [(0, .ref (q 0)), (1, .int x1), (2, .int x2), (3, .int x3)] → (∀ (H : Heap) (locs : List Loc) (ls : Array Slot), St D A s.heap (mW q cA z.1) H locs → lv_has ls 4 [(0, .ref (q 0)), (1, .int x1), (2, .int z.2.1), (3, .int z.2.2)] → W p l e rm_X5_pass s m args below meth c H locs 0 0 Q (F0 m 40 ls [])) → W p l e rm_X5_pass s m args below meth c H locs 0 0 Q (F0 m 22 ls []) := by
  obtain ⟨hx, hb, hml, hown, hts, hK, hlk⟩ := id C
  intro n
  induction n with
  | zero => intro σ x1 x2 x3 z hf; rw [f_X5_pass_22] at hf; cases hf
  | succ n ih =>
    intro σ x1 x2 x3 z hf H locs ls h hl kk
    rw [f_X5_pass_22] at hf
    refine lv_iload_n (pc := 22) hx hb dX5_pass_22 rfl (lv_at hl 3 rfl) ?_
    refine lv_iload_n (pc := 23) hx hb dX5_pass_23 rfl (lv_at hl 1 rfl) ?_
    refine lv_icmp_ge (pc := 24) (tgt := 40) hx hb dX5_pass_24 (by decide) (fun c9 => ?_) (fun c9 => ?_)
    · have hf := ifT c9 hf
      have hf : some (σ, x2, x3) = some z := hf
      cases hf
      exact kk _ _ _ h (lv_sub hl [0, 1, 2, 3] rfl)
    · have hf := ifF c9 hf
      refine lv_iload_n (pc := 27) hx hb dX5_pass_27 rfl (lv_at hl 2 rfl) ?_
      refine lv_aload_n (pc := 28) hx hb dX5_pass_28 rfl (lv_at hl 0 rfl) ?_
      obtain ⟨z1, hc1, hf⟩ := bdS hf
      refine call_VUs (pc := 29) (As := []) (rest := [.int x2]) C h (k_X5_passes σ hc1) cw_X5_160 0 (mW_c0 _ _ _) rfl (mW_fst _ _ _ _) rfl rfl hl.1 (Nat.le_of_ble_eq_true rfl) dX5_pass_29 ⟨Nat.le_of_ble_eq_true rfl, Nat.le_of_ble_eq_true rfl⟩ rfl rfl ⟨Nat.le_of_ble_eq_true rfl, Nat.le_of_ble_eq_true rfl⟩ (fun H locs h => ?_)
      refine W.eq (g2 := F0 m 32 ls [.int z1.1, .int x2]) rfl ?_
      refine lv_iadd (pc := 32) hx hb dX5_pass_32 ?_
      refine lv_istore_n (pc := 33) (lv' := [(2, .int (x2 + z1.1)), (0, .ref (q 0)), (1, .int x1), (3, .int x3)]) hx hb dX5_pass_33 rfl hl (by decide) rfl (fun ls hl => ?_)
      refine lv_iinc (pc := 34) (v := (x3 + (1 : Int32))) (lv' := [(3, .int (x3 + (1 : Int32))), (2, .int (x2 + z1.1)), (0, .ref (q 0)), (1, .int x1)]) hx hb dX5_pass_34 hl (k := 3) rfl rfl (by decide) rfl (fun ls hl => ?_)
      refine lv_goto (pc := 37) (tgt := 22) hx hb dX5_pass_37 (by decide) ?_
      exact ih _ _ _ _ _ hf _ _ _ h (lv_sub hl [2, 3, 1, 0] rfl) kk
set_option maxHeartbeats 400000 in
set_option maxRecDepth 100000 in
theorem k_X5_pass {q : Nat → Nat} {cA : Nat → ClassId} {D : va_G} (σ : Nat → Nat → Int32) (x1 : Int32) {z : Int32 × (Nat → Nat → Int32)} (hf : f_X5_pass σ x1 = some z) : CtU yX5_pass cX5_pass 4 (some .int) rm_X5_pass [.ref (q 0), .int x1] D cA (mW q cA σ) (mW q cA z.2) (some (.int z.1)) 0 0 := by
  refine ctU_of (by decide) (Nat.le_of_ble_eq_true rfl) ?_
  intro p l e s m below meth c ls C hr hnm h hl
  have C : Cx p s m _ meth c cX5_pass 4 RX5 D cA := C
  obtain ⟨hx, hb, hml, hown, hts, hK, hlk⟩ := id C
  replace hl : lv_has ls 4 [(0, .ref (q 0)), (1, .int x1)] := hl
  rw [f_X5_pass] at hf
  refine lv_aload_n (pc := 0) hx hb dX5_pass_0 rfl (lv_at hl 0 rfl) ?_
  refine lv_iload_n (pc := 1) hx hb dX5_pass_1 rfl (lv_at hl 1 rfl) ?_
  refine lv_iconst (pc := 2) (v := 1) hx hb dX5_pass_2 (by decide) ?_
  refine lv_bipush (pc := 3) (v := 60) hx hb dX5_pass_3 (by decide) ?_
  refine call_SR (pc := 5) (As := [.int x1, .int (1 : Int32), .int (60 : Int32)]) (rest := [.ref (q 0)]) (wc := []) C h (k_X5_in x1 (1 : Int32) (60 : Int32) rfl) cw_X5_71 [] rfl rfl rfl rfl hl.1 (Nat.le_of_ble_eq_true rfl) dX5_pass_5 ⟨Nat.le_of_ble_eq_true rfl, Nat.le_of_ble_eq_true rfl⟩ rfl rfl ⟨Nat.le_of_ble_eq_true rfl, Nat.le_of_ble_eq_true rfl⟩ (fun H locs h => ?_)
  refine W.eq (g2 := F0 m 8 ls [.int (f_X5_in x1 (1 : Int32) (60 : Int32)), .ref (q 0)]) rfl ?_
  refine lv_iconst (pc := 8) (v := 1) hx hb dX5_pass_8 (by decide) ?_
  refine lv_iconst (pc := 9) (v := 1) hx hb dX5_pass_9 (by decide) ?_
  refine call_VUs (pc := 10) (As := [.int (f_X5_in x1 (1 : Int32) (60 : Int32)), .int (1 : Int32), .int (1 : Int32)]) (rest := []) C h (k_X5_goes σ (f_X5_in x1 (1 : Int32) (60 : Int32)) (1 : Int32) (1 : Int32) rfl) cw_X5_123 0 (mW_c0 _ _ _) rfl (mW_fst _ _ _ _) rfl rfl hl.1 (Nat.le_of_ble_eq_true rfl) dX5_pass_10 ⟨Nat.le_of_ble_eq_true rfl, Nat.le_of_ble_eq_true rfl⟩ rfl rfl ⟨Nat.le_of_ble_eq_true rfl, Nat.le_of_ble_eq_true rfl⟩ (fun H locs h => ?_)
  refine W.eq (g2 := F0 m 13 ls [.int (f_X5_goes σ (f_X5_in x1 (1 : Int32) (60 : Int32)) (1 : Int32) (1 : Int32)).1]) rfl ?_
  refine lv_if_ne (pc := 13) (tgt := 18) hx hb dX5_pass_13 (by decide) (fun c9 => ?_) (fun c9 => ?_)
  · have hf := ifF c9 hf
    refine lv_iconst (pc := 18) (v := 0) hx hb dX5_pass_18 (by decide) ?_
    refine lv_istore_n (pc := 19) (lv' := [(2, .int (0 : Int32)), (0, .ref (q 0)), (1, .int x1)]) hx hb dX5_pass_19 rfl hl (by decide) rfl (fun ls hl => ?_)
    refine lv_iconst (pc := 20) (v := 0) hx hb dX5_pass_20 (by decide) ?_
    refine lv_istore_n (pc := 21) (lv' := [(3, .int (0 : Int32)), (2, .int (0 : Int32)), (0, .ref (q 0)), (1, .int x1)]) hx hb dX5_pass_21 rfl hl (by decide) rfl (fun ls hl => ?_)
    obtain ⟨z1, hc1, hf⟩ := bdS hf
    refine l_X5_pass_22 C _ _ _ _ _ _ hc1 _ _ _ h (lv_sub hl [2, 3, 1, 0] rfl) (fun H locs ls h hl => ?_)
    refine lv_iload_n (pc := 40) hx hb dX5_pass_40 rfl (lv_at hl 2 rfl) ?_
    have hf : (some (z1.2.1, z1.1)) = some z := hf
    cases hf
    exact ret_iU (pc := 41) C hr h dX5_pass_41
  · have hf := ifT c9 hf
    refine lv_iconst (pc := 16) (v := 0) hx hb dX5_pass_16 (by decide) ?_
    have hf : (some ((0 : Int32), (f_X5_goes σ (f_X5_in x1 (1 : Int32) (60 : Int32)) (1 : Int32) (1 : Int32)).2)) = some z := hf
    cases hf
    exact ret_iU (pc := 17) C hr h dX5_pass_17
abbrev rm_X5_today : Room := { frames := 1, cells := 0, slots := 0, locals := 21 }
def f_X5_today (σ : Nat → Nat → Int32) : Int32 × (Nat → Nat → Int32) := ((f_X5_told σ (σ 0 0)).1, (f_X5_told σ (σ 0 0)).2)
set_option maxHeartbeats 400000 in
set_option maxRecDepth 100000 in
theorem k_X5_today {q : Nat → Nat} {cA : Nat → ClassId} {D : va_G} (σ : Nat → Nat → Int32) {z : Int32 × (Nat → Nat → Int32)} (hf : f_X5_today σ = z) : CtU yX5_today cX5_today 1 (some .int) rm_X5_today [.ref (q 0)] D cA (mW q cA σ) (mW q cA z.2) (some (.int z.1)) 0 0 := by
  refine ctU_of (by decide) (Nat.le_of_ble_eq_true rfl) ?_
  intro p l e s m below meth c ls C hr hnm h hl
  have C : Cx p s m _ meth c cX5_today 1 RX5 D cA := C
  obtain ⟨hx, hb, hml, hown, hts, hK, hlk⟩ := id C
  replace hl : lv_has ls 1 [(0, .ref (q 0))] := hl
  rw [f_X5_today] at hf
  refine lv_aload_n (pc := 0) hx hb dX5_today_0 rfl (lv_at hl 0 rfl) ?_
  refine lv_aload_n (pc := 1) hx hb dX5_today_1 rfl (lv_at hl 0 rfl) ?_
  refine g_get (pc := 2) (v := .int (σ 0 0)) C h.1 0 (mW_c0 _ _ _) fl_X5_113 rfl dX5_today_2 ?_
  refine call_VUs (pc := 5) (As := [.int (σ 0 0)]) (rest := []) C h (k_X5_told σ (σ 0 0) rfl) cw_X5_163 0 (mW_c0 _ _ _) rfl (mW_fst _ _ _ _) rfl rfl hl.1 (Nat.le_of_ble_eq_true rfl) dX5_today_5 ⟨Nat.le_of_ble_eq_true rfl, Nat.le_of_ble_eq_true rfl⟩ rfl rfl ⟨Nat.le_of_ble_eq_true rfl, Nat.le_of_ble_eq_true rfl⟩ (fun H locs h => ?_)
  refine W.eq (g2 := F0 m 8 ls [.int (f_X5_told σ (σ 0 0)).1]) rfl ?_
  have hf : ((f_X5_told σ (σ 0 0)).1, (f_X5_told σ (σ 0 0)).2) = z := hf
  subst hf
  exact ret_iU (pc := 8) C hr h dX5_today_8
end
