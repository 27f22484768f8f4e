section
variable {p : Program} {l : Launch} {e : Env} {R : Room} {s : State} {m : MethodId} {args : Array Value} {below : List Frame} {meth : Method} {c : Code} {Q : State → Prop}
variable {D : va_G} {cA : Nat → ClassId} {A : Nat → Prop} {q : Nat → Nat}
abbrev rm_X5_addSlot : Room := { frames := 5, cells := 0, slots := 0, locals := 111 }
def f_X5_addSlot (σ : Nat → Nat → Int32) (x1 x2 x3 : Int32) : Option (Int32 × (Nat → Nat → Int32)) := (if (f_X5_isEnvelope σ x1) = 0 then (if (f_X5_goes σ (0 : Int32) (0 : Int32) (0 : Int32)).1 = 0 then (some ((0 : Int32), (f_X5_goes σ (0 : Int32) (0 : Int32) (0 : Int32)).2)) else ((f_X5_adds (f_X5_goes σ (0 : Int32) (0 : Int32) (0 : Int32)).2 x1 x2 x3).bind fun z1 => (some (z1.1, z1.2)))) else (if (f_X5_isPerson x2) = 0 then (if (f_X5_goes σ (0 : Int32) (0 : Int32) (0 : Int32)).1 = 0 then (some ((0 : Int32), (f_X5_goes σ (0 : Int32) (0 : Int32) (0 : Int32)).2)) else ((f_X5_adds (f_X5_goes σ (0 : Int32) (0 : Int32) (0 : Int32)).2 x1 x2 x3).bind fun z1 => (some (z1.1, z1.2)))) else (if x3 < 0 then ((f_X5_isIn σ x1 (0 : Int32)).bind fun z1 => (if z1.1 = 0 then (if (f_X5_goes z1.2 (1 : Int32) (0 : Int32) (0 : Int32)).1 = 0 then (some ((0 : Int32), (f_X5_goes z1.2 (1 : Int32) (0 : Int32) (0 : Int32)).2)) else ((f_X5_adds (f_X5_goes z1.2 (1 : Int32) (0 : Int32) (0 : Int32)).2 x1 x2 x3).bind fun z2 => (some (z2.1, z2.2)))) else (if inb x1 6 then (if (8 : Int32) ≤ ((z1.2 2) x1.toNatClampNeg) then (if (f_X5_goes z1.2 (1 : Int32) (0 : Int32) (0 : Int32)).1 = 0 then (some ((0 : Int32), (f_X5_goes z1.2 (1 : Int32) (0 : Int32) (0 : Int32)).2)) else ((f_X5_adds (f_X5_goes z1.2 (1 : Int32) (0 : Int32) (0 : Int32)).2 x1 x2 x3).bind fun z2 => (some (z2.1, z2.2)))) else (if (f_X5_goes z1.2 (1 : Int32) (0 : Int32) (1 : Int32)).1 = 0 then (some ((0 : Int32), (f_X5_goes z1.2 (1 : Int32) (0 : Int32) (1 : Int32)).2)) else ((f_X5_adds (f_X5_goes z1.2 (1 : Int32) (0 : Int32) (1 : Int32)).2 x1 x2 x3).bind fun z2 => (some (z2.1, z2.2))))) else none))) else ((f_X5_all σ x1).bind fun z1 => (if (x3 &&& (z1 ^^^ (-1 : Int32))) = 0 then ((f_X5_isIn σ x1 (0 : Int32)).bind fun z2 => (if z2.1 = 0 then (if (f_X5_goes z2.2 (1 : Int32) (1 : Int32) (0 : Int32)).1 = 0 then (some ((0 : Int32), (f_X5_goes z2.2 (1 : Int32) (1 : Int32) (0 : Int32)).2)) else ((f_X5_adds (f_X5_goes z2.2 (1 : Int32) (1 : Int32) (0 : Int32)).2 x1 x2 x3).bind fun z3 => (some (z3.1, z3.2)))) else (if inb x1 6 then (if (8 : Int32) ≤ ((z2.2 2) x1.toNatClampNeg) then (if (f_X5_goes z2.2 (1 : Int32) (1 : Int32) (0 : Int32)).1 = 0 then (some ((0 : Int32), (f_X5_goes z2.2 (1 : Int32) (1 : Int32) (0 : Int32)).2)) else ((f_X5_adds (f_X5_goes z2.2 (1 : Int32) (1 : Int32) (0 : Int32)).2 x1 x2 x3).bind fun z3 => (some (z3.1, z3.2)))) else (if (f_X5_goes z2.2 (1 : Int32) (1 : Int32) (1 : Int32)).1 = 0 then (some ((0 : Int32), (f_X5_goes z2.2 (1 : Int32) (1 : Int32) (1 : Int32)).2)) else ((f_X5_adds (f_X5_goes z2.2 (1 : Int32) (1 : Int32) (1 : Int32)).2 x1 x2 x3).bind fun z3 => (some (z3.1, z3.2))))) else none))) else ((f_X5_isIn σ x1 (0 : Int32)).bind fun z2 => (if z2.1 = 0 then (if (f_X5_goes z2.2 (1 : Int32) (0 : Int32) (0 : Int32)).1 = 0 then (some ((0 : Int32), (f_X5_goes z2.2 (1 : Int32) (0 : Int32) (0 : Int32)).2)) else ((f_X5_adds (f_X5_goes z2.2 (1 : Int32) (0 : Int32) (0 : Int32)).2 x1 x2 x3).bind fun z3 => (some (z3.1, z3.2)))) else (if inb x1 6 then (if (8 : Int32) ≤ ((z2.2 2) x1.toNatClampNeg) then (if (f_X5_goes z2.2 (1 : Int32) (0 : Int32) (0 : Int32)).1 = 0 then (some ((0 : Int32), (f_X5_goes z2.2 (1 : Int32) (0 : Int32) (0 : Int32)).2)) else ((f_X5_adds (f_X5_goes z2.2 (1 : Int32) (0 : Int32) (0 : Int32)).2 x1 x2 x3).bind fun z3 => (some (z3.1, z3.2)))) else (if (f_X5_goes z2.2 (1 : Int32) (0 : Int32) (1 : Int32)).1 = 0 then (some ((0 : Int32), (f_X5_goes z2.2 (1 : Int32) (0 : Int32) (1 : Int32)).2)) else ((f_X5_adds (f_X5_goes z2.2 (1 : Int32) (0 : Int32) (1 : Int32)).2 x1 x2 x3).bind fun z3 => (some (z3.1, z3.2))))) else none))))))))
set_option maxHeartbeats 400000 in
set_option maxRecDepth 100000 in
theorem k_X5_addSlot {q : Nat → Nat} {cA : Nat → ClassId} {D : va_G} (σ : Nat → Nat → Int32) (x1 x2 x3 : Int32) {z : Int32 × (Nat → Nat → Int32)} (hf : f_X5_addSlot σ x1 x2 x3 = some z) : CtU yX5_addSlot cX5_addSlot 5 (some .int) rm_X5_addSlot [.ref (q 0), .int x1, .int x2, .int x3] D cA (mW q cA σ) (mW q cA z.2) (some (.int z.1)) 0 0 := by
  refine ctU_of (by decide) (Nat.le_of_ble_eq_true rfl) ?_
  intro p l e s m below meth c ls C hr hnm h hl
  have C : Cx p s m _ meth c cX5_addSlot 5 RX5 D cA := C
  obtain ⟨hx, hb, hml, hown, hts, hK, hlk⟩ := id C
  replace hl : lv_has ls 5 [(0, .ref (q 0)), (1, .int x1), (2, .int x2), (3, .int x3)] := hl
  rw [f_X5_addSlot] at hf
  refine lv_aload_n (pc := 0) hx hb dX5_addSlot_0 rfl (lv_at hl 0 rfl) ?_
  refine lv_iload_n (pc := 1) hx hb dX5_addSlot_1 rfl (lv_at hl 1 rfl) ?_
  refine call_VRs (pc := 2) (As := [.int x1]) (rest := []) C h (k_X5_isEnvelope σ x1 rfl) cw_X5_78 0 (mW_c0 _ _ _) rfl rfl rfl hl.1 (Nat.le_of_ble_eq_true rfl) dX5_addSlot_2 ⟨Nat.le_of_ble_eq_true rfl, Nat.le_of_ble_eq_true rfl⟩ rfl rfl ⟨Nat.le_of_ble_eq_true rfl, Nat.le_of_ble_eq_true rfl⟩ (fun H locs h => ?_)
  refine W.eq (g2 := F0 m 5 ls [.int (f_X5_isEnvelope σ x1)]) rfl ?_
  refine lv_if_eq (pc := 5) (tgt := 19) hx hb dX5_addSlot_5 (by decide) (fun c9 => ?_) (fun c9 => ?_)
  · have hf := ifT c9 hf
    refine lv_iconst (pc := 19) (v := 0) hx hb dX5_addSlot_19 (by decide) ?_
    refine lv_istore (pc := 20) (lv' := [(4, .int (0 : Int32)), (0, .ref (q 0)), (1, .int x1), (2, .int x2), (3, .int x3)]) hx hb dX5_addSlot_20 hl (by decide) rfl (fun ls hl => ?_)
    refine lv_aload_n (pc := 22) hx hb dX5_addSlot_22 rfl (lv_at hl 1 rfl) ?_
    refine lv_iload (pc := 23) hx hb dX5_addSlot_23 (lv_at hl 0 rfl) ?_
    refine lv_iload (pc := 25) hx hb dX5_addSlot_25 (lv_at hl 0 rfl) ?_
    refine lv_if_eq (pc := 27) (tgt := 50) hx hb dX5_addSlot_27 (by decide) (fun _ => ?_) (fun c9 => absurd c9 (by decide))
    refine lv_iconst (pc := 50) (v := 0) hx hb dX5_addSlot_50 (by decide) ?_
    refine lv_iload (pc := 51) hx hb dX5_addSlot_51 (lv_at hl 0 rfl) ?_
    refine lv_if_eq (pc := 53) (tgt := 80) hx hb dX5_addSlot_53 (by decide) (fun _ => ?_) (fun c9 => absurd c9 (by decide))
    refine lv_iconst (pc := 80) (v := 0) hx hb dX5_addSlot_80 (by decide) ?_
    refine call_VUs (pc := 81) (As := [.int (0 : Int32), .int (0 : Int32), .int (0 : Int32)]) (rest := []) C h (k_X5_goes σ (0 : Int32) (0 : Int32) (0 : Int32) rfl) cw_X5_123 0 (mW_c0 _ _ _) rfl (mW_fst _ _ _ _) rfl rfl hl.1 (Nat.le_of_ble_eq_true rfl) dX5_addSlot_81 ⟨Nat.le_of_ble_eq_true rfl, Nat.le_of_ble_eq_true rfl⟩ rfl rfl ⟨Nat.le_of_ble_eq_true rfl, Nat.le_of_ble_eq_true rfl⟩ (fun H locs h => ?_)
    refine W.eq (g2 := F0 m 84 ls [.int (f_X5_goes σ (0 : Int32) (0 : Int32) (0 : Int32)).1]) rfl ?_
    refine lv_if_ne (pc := 84) (tgt := 89) hx hb dX5_addSlot_84 (by decide) (fun c9 => ?_) (fun c9 => ?_)
    · have hf := ifF c9 hf
      refine lv_aload_n (pc := 89) hx hb dX5_addSlot_89 rfl (lv_at hl 1 rfl) ?_
      refine lv_iload_n (pc := 90) hx hb dX5_addSlot_90 rfl (lv_at hl 2 rfl) ?_
      refine lv_iload_n (pc := 91) hx hb dX5_addSlot_91 rfl (lv_at hl 3 rfl) ?_
      refine lv_iload_n (pc := 92) hx hb dX5_addSlot_92 rfl (lv_at hl 4 rfl) ?_
      obtain ⟨z1, hc1, hf⟩ := bdS hf
      refine call_VUs (pc := 93) (As := [.int x1, .int x2, .int x3]) (rest := []) C h (k_X5_adds (f_X5_goes σ (0 : Int32) (0 : Int32) (0 : Int32)).2 x1 x2 x3 hc1) cw_X5_133 0 (mW_c0 _ _ _) rfl (mW_fst _ _ _ _) rfl rfl hl.1 (Nat.le_of_ble_eq_true rfl) dX5_addSlot_93 ⟨Nat.le_of_ble_eq_true rfl, Nat.le_of_ble_eq_true rfl⟩ rfl rfl ⟨Nat.le_of_ble_eq_true rfl, Nat.le_of_ble_eq_true rfl⟩ (fun H locs h => ?_)
      refine W.eq (g2 := F0 m 96 ls [.int z1.1]) rfl ?_
      have hf : (some (z1.1, z1.2)) = some z := hf
      cases hf
      exact ret_iU (pc := 96) C hr h dX5_addSlot_96
    · have hf := ifT c9 hf
      refine lv_iconst (pc := 87) (v := 0) hx hb dX5_addSlot_87 (by decide) ?_
      have hf : (some ((0 : Int32), (f_X5_goes σ (0 : Int32) (0 : Int32) (0 : Int32)).2)) = some z := hf
      cases hf
      exact ret_iU (pc := 88) C hr h dX5_addSlot_88
  · have hf := ifF c9 hf
    refine lv_iload_n (pc := 8) hx hb dX5_addSlot_8 rfl (lv_at hl 2 rfl) ?_
    refine call_SR (pc := 9) (As := [.int x2]) (rest := []) (wc := []) C h (k_X5_isPerson x2 rfl) cw_X5_127 [] rfl rfl rfl rfl hl.1 (Nat.le_of_ble_eq_true rfl) dX5_addSlot_9 ⟨Nat.le_of_ble_eq_true rfl, Nat.le_of_ble_eq_true rfl⟩ rfl rfl ⟨Nat.le_of_ble_eq_true rfl, Nat.le_of_ble_eq_true rfl⟩ (fun H locs h => ?_)
    refine W.eq (g2 := F0 m 12 ls [.int (f_X5_isPerson x2)]) rfl ?_
    refine lv_if_eq (pc := 12) (tgt := 19) hx hb dX5_addSlot_12 (by decide) (fun c9 => ?_) (fun c9 => ?_)
    · have hf := ifT c9 hf
      refine lv_iconst (pc := 19) (v := 0) hx hb dX5_addSlot_19 (by decide) ?_
      refine lv_istore (pc := 20) (lv' := [(4, .int (0 : Int32)), (0, .ref (q 0)), (1, .int x1), (2, .int x2), (3, .int x3)]) hx hb dX5_addSlot_20 hl (by decide) rfl (fun ls hl => ?_)
      refine lv_aload_n (pc := 22) hx hb dX5_addSlot_22 rfl (lv_at hl 1 rfl) ?_
      refine lv_iload (pc := 23) hx hb dX5_addSlot_23 (lv_at hl 0 rfl) ?_
      refine lv_iload (pc := 25) hx hb dX5_addSlot_25 (lv_at hl 0 rfl) ?_
      refine lv_if_eq (pc := 27) (tgt := 50) hx hb dX5_addSlot_27 (by decide) (fun _ => ?_) (fun c9 => absurd c9 (by decide))
      refine lv_iconst (pc := 50) (v := 0) hx hb dX5_addSlot_50 (by decide) ?_
      refine lv_iload (pc := 51) hx hb dX5_addSlot_51 (lv_at hl 0 rfl) ?_
      refine lv_if_eq (pc := 53) (tgt := 80) hx hb dX5_addSlot_53 (by decide) (fun _ => ?_) (fun c9 => absurd c9 (by decide))
      refine lv_iconst (pc := 80) (v := 0) hx hb dX5_addSlot_80 (by decide) ?_
      refine call_VUs (pc := 81) (As := [.int (0 : Int32), .int (0 : Int32), .int (0 : Int32)]) (rest := []) C h (k_X5_goes σ (0 : Int32) (0 : Int32) (0 : Int32) rfl) cw_X5_123 0 (mW_c0 _ _ _) rfl (mW_fst _ _ _ _) rfl rfl hl.1 (Nat.le_of_ble_eq_true rfl) dX5_addSlot_81 ⟨Nat.le_of_ble_eq_true rfl, Nat.le_of_ble_eq_true rfl⟩ rfl rfl ⟨Nat.le_of_ble_eq_true rfl, Nat.le_of_ble_eq_true rfl⟩ (fun H locs h => ?_)
      refine W.eq (g2 := F0 m 84 ls [.int (f_X5_goes σ (0 : Int32) (0 : Int32) (0 : Int32)).1]) rfl ?_
      refine lv_if_ne (pc := 84) (tgt := 89) hx hb dX5_addSlot_84 (by decide) (fun c9 => ?_) (fun c9 => ?_)
      · have hf := ifF c9 hf
        refine lv_aload_n (pc := 89) hx hb dX5_addSlot_89 rfl (lv_at hl 1 rfl) ?_
        refine lv_iload_n (pc := 90) hx hb dX5_addSlot_90 rfl (lv_at hl 2 rfl) ?_
        refine lv_iload_n (pc := 91) hx hb dX5_addSlot_91 rfl (lv_at hl 3 rfl) ?_
        refine lv_iload_n (pc := 92) hx hb dX5_addSlot_92 rfl (lv_at hl 4 rfl) ?_
        obtain ⟨z1, hc1, hf⟩ := bdS hf
        refine call_VUs (pc := 93) (As := [.int x1, .int x2, .int x3]) (rest := []) C h (k_X5_adds (f_X5_goes σ (0 : Int32) (0 : Int32) (0 : Int32)).2 x1 x2 x3 hc1) cw_X5_133 0 (mW_c0 _ _ _) rfl (mW_fst _ _ _ _) rfl rfl hl.1 (Nat.le_of_ble_eq_true rfl) dX5_addSlot_93 ⟨Nat.le_of_ble_eq_true rfl, Nat.le_of_ble_eq_true rfl⟩ rfl rfl ⟨Nat.le_of_ble_eq_true rfl, Nat.le_of_ble_eq_true rfl⟩ (fun H locs h => ?_)
        refine W.eq (g2 := F0 m 96 ls [.int z1.1]) rfl ?_
        have hf : (some (z1.1, z1.2)) = some z := hf
        cases hf
        exact ret_iU (pc := 96) C hr h dX5_addSlot_96
      · have hf := ifT c9 hf
        refine lv_iconst (pc := 87) (v := 0) hx hb dX5_addSlot_87 (by decide) ?_
        have hf : (some ((0 : Int32), (f_X5_goes σ (0 : Int32) (0 : Int32) (0 : Int32)).2)) = some z := hf
        cases hf
        exact ret_iU (pc := 88) C hr h dX5_addSlot_88
    · have hf := ifF c9 hf
      refine lv_iconst (pc := 15) (v := 1) hx hb dX5_addSlot_15 (by decide) ?_
      refine lv_goto (pc := 16) (tgt := 20) hx hb dX5_addSlot_16 (by decide) ?_
      refine lv_istore (pc := 20) (lv' := [(4, .int (1 : Int32)), (0, .ref (q 0)), (1, .int x1), (2, .int x2), (3, .int x3)]) hx hb dX5_addSlot_20 hl (by decide) rfl (fun ls hl => ?_)
      refine lv_aload_n (pc := 22) hx hb dX5_addSlot_22 rfl (lv_at hl 1 rfl) ?_
      refine lv_iload (pc := 23) hx hb dX5_addSlot_23 (lv_at hl 0 rfl) ?_
      refine lv_iload (pc := 25) hx hb dX5_addSlot_25 (lv_at hl 0 rfl) ?_
      refine lv_if_eq (pc := 27) (tgt := 50) hx hb dX5_addSlot_27 (by decide) (fun c9 => absurd c9 (by decide)) (fun _ => ?_)
      refine lv_iload_n (pc := 30) hx hb dX5_addSlot_30 rfl (lv_at hl 4 rfl) ?_
      refine lv_if_lt (pc := 31) (tgt := 50) hx hb dX5_addSlot_31 (by decide) (fun c9 => ?_) (fun c9 => ?_)
      · have hf := ifT c9 hf
        refine lv_iconst (pc := 50) (v := 0) hx hb dX5_addSlot_50 (by decide) ?_
        refine lv_iload (pc := 51) hx hb dX5_addSlot_51 (lv_at hl 0 rfl) ?_
        refine lv_if_eq (pc := 53) (tgt := 80) hx hb dX5_addSlot_53 (by decide) (fun c9 => absurd c9 (by decide)) (fun _ => ?_)
        refine lv_aload_n (pc := 56) hx hb dX5_addSlot_56 rfl (lv_at hl 1 rfl) ?_
        refine lv_iload_n (pc := 57) hx hb dX5_addSlot_57 rfl (lv_at hl 2 rfl) ?_
        refine lv_iconst (pc := 58) (v := 0) hx hb dX5_addSlot_58 (by decide) ?_
        obtain ⟨z1, hc1, hf⟩ := bdS hf
        refine call_VUs (pc := 59) (As := [.int x1, .int (0 : Int32)]) (rest := [.int (0 : Int32), .int (1 : Int32), .ref (q 0)]) C h (k_X5_isIn σ x1 (0 : Int32) hc1) cw_X5_130 0 (mW_c0 _ _ _) rfl (mW_fst _ _ _ _) rfl rfl hl.1 (Nat.le_of_ble_eq_true rfl) dX5_addSlot_59 ⟨Nat.le_of_ble_eq_true rfl, Nat.le_of_ble_eq_true rfl⟩ rfl rfl ⟨Nat.le_of_ble_eq_true rfl, Nat.le_of_ble_eq_true rfl⟩ (fun H locs h => ?_)
        refine W.eq (g2 := F0 m 62 ls [.int z1.1, .int (0 : Int32), .int (1 : Int32), .ref (q 0)]) rfl ?_
        refine lv_if_eq (pc := 62) (tgt := 80) hx hb dX5_addSlot_62 (by decide) (fun c9 => ?_) (fun c9 => ?_)
        · have hf := ifT c9 hf
          refine lv_iconst (pc := 80) (v := 0) hx hb dX5_addSlot_80 (by decide) ?_
          refine call_VUs (pc := 81) (As := [.int (1 : Int32), .int (0 : Int32), .int (0 : Int32)]) (rest := []) C h (k_X5_goes z1.2 (1 : Int32) (0 : Int32) (0 : Int32) rfl) cw_X5_123 0 (mW_c0 _ _ _) rfl (mW_fst _ _ _ _) rfl rfl hl.1 (Nat.le_of_ble_eq_true rfl) dX5_addSlot_81 ⟨Nat.le_of_ble_eq_true rfl, Nat.le_of_ble_eq_true rfl⟩ rfl rfl ⟨Nat.le_of_ble_eq_true rfl, Nat.le_of_ble_eq_true rfl⟩ (fun H locs h => ?_)
          refine W.eq (g2 := F0 m 84 ls [.int (f_X5_goes z1.2 (1 : Int32) (0 : Int32) (0 : Int32)).1]) rfl ?_
          refine lv_if_ne (pc := 84) (tgt := 89) hx hb dX5_addSlot_84 (by decide) (fun c9 => ?_) (fun c9 => ?_)
          · have hf := ifF c9 hf
            refine lv_aload_n (pc := 89) hx hb dX5_addSlot_89 rfl (lv_at hl 1 rfl) ?_
            refine lv_iload_n (pc := 90) hx hb dX5_addSlot_90 rfl (lv_at hl 2 rfl) ?_
            refine lv_iload_n (pc := 91) hx hb dX5_addSlot_91 rfl (lv_at hl 3 rfl) ?_
            refine lv_iload_n (pc := 92) hx hb dX5_addSlot_92 rfl (lv_at hl 4 rfl) ?_
            obtain ⟨z2, hc2, hf⟩ := bdS hf
            refine call_VUs (pc := 93) (As := [.int x1, .int x2, .int x3]) (rest := []) C h (k_X5_adds (f_X5_goes z1.2 (1 : Int32) (0 : Int32) (0 : Int32)).2 x1 x2 x3 hc2) cw_X5_133 0 (mW_c0 _ _ _) rfl (mW_fst _ _ _ _) rfl rfl hl.1 (Nat.le_of_ble_eq_true rfl) dX5_addSlot_93 ⟨Nat.le_of_ble_eq_true rfl, Nat.le_of_ble_eq_true rfl⟩ rfl rfl ⟨Nat.le_of_ble_eq_true rfl, Nat.le_of_ble_eq_true rfl⟩ (fun H locs h => ?_)
            refine W.eq (g2 := F0 m 96 ls [.int z2.1]) rfl ?_
            have hf : (some (z2.1, z2.2)) = some z := hf
            cases hf
            exact ret_iU (pc := 96) C hr h dX5_addSlot_96
          · have hf := ifT c9 hf
            refine lv_iconst (pc := 87) (v := 0) hx hb dX5_addSlot_87 (by decide) ?_
            have hf : (some ((0 : Int32), (f_X5_goes z1.2 (1 : Int32) (0 : Int32) (0 : Int32)).2)) = some z := hf
            cases hf
            exact ret_iU (pc := 88) C hr h dX5_addSlot_88
        · have hf := ifF c9 hf
          refine lv_aload_n (pc := 65) hx hb dX5_addSlot_65 rfl (lv_at hl 1 rfl) ?_
          refine g_get (pc := 66) (v := .ref (q 1)) C h.1 0 (mW_c0 _ _ _) fl_X5_7 rfl dX5_addSlot_66 ?_
          refine lv_iload_n (pc := 69) hx hb dX5_addSlot_69 rfl (lv_at hl 2 rfl) ?_
          obtain ⟨hin, hf⟩ := ifS hf
          refine g_ild (pc := 70) (n := 6) (f := (z1.2 2)) C h.1 1 (mW_c1 _ _ _) hin dX5_addSlot_70 ?_
          refine lv_bipush (pc := 71) (v := 8) hx hb dX5_addSlot_71 (by decide) ?_
          refine lv_icmp_ge (pc := 73) (tgt := 80) hx hb dX5_addSlot_73 (by decide) (fun c9 => ?_) (fun c9 => ?_)
          · have hf := ifT c9 hf
            refine lv_iconst (pc := 80) (v := 0) hx hb dX5_addSlot_80 (by decide) ?_
            refine call_VUs (pc := 81) (As := [.int (1 : Int32), .int (0 : Int32), .int (0 : Int32)]) (rest := []) C h (k_X5_goes z1.2 (1 : Int32) (0 : Int32) (0 : Int32) rfl) cw_X5_123 0 (mW_c0 _ _ _) rfl (mW_fst _ _ _ _) rfl rfl hl.1 (Nat.le_of_ble_eq_true rfl) dX5_addSlot_81 ⟨Nat.le_of_ble_eq_true rfl, Nat.le_of_ble_eq_true rfl⟩ rfl rfl ⟨Nat.le_of_ble_eq_true rfl, Nat.le_of_ble_eq_true rfl⟩ (fun H locs h => ?_)
            refine W.eq (g2 := F0 m 84 ls [.int (f_X5_goes z1.2 (1 : Int32) (0 : Int32) (0 : Int32)).1]) rfl ?_
            refine lv_if_ne (pc := 84) (tgt := 89) hx hb dX5_addSlot_84 (by decide) (fun c9 => ?_) (fun c9 => ?_)
            · have hf := ifF c9 hf
              refine lv_aload_n (pc := 89) hx hb dX5_addSlot_89 rfl (lv_at hl 1 rfl) ?_
              refine lv_iload_n (pc := 90) hx hb dX5_addSlot_90 rfl (lv_at hl 2 rfl) ?_
              refine lv_iload_n (pc := 91) hx hb dX5_addSlot_91 rfl (lv_at hl 3 rfl) ?_
              refine lv_iload_n (pc := 92) hx hb dX5_addSlot_92 rfl (lv_at hl 4 rfl) ?_
              obtain ⟨z2, hc2, hf⟩ := bdS hf
              refine call_VUs (pc := 93) (As := [.int x1, .int x2, .int x3]) (rest := []) C h (k_X5_adds (f_X5_goes z1.2 (1 : Int32) (0 : Int32) (0 : Int32)).2 x1 x2 x3 hc2) cw_X5_133 0 (mW_c0 _ _ _) rfl (mW_fst _ _ _ _) rfl rfl hl.1 (Nat.le_of_ble_eq_true rfl) dX5_addSlot_93 ⟨Nat.le_of_ble_eq_true rfl, Nat.le_of_ble_eq_true rfl⟩ rfl rfl ⟨Nat.le_of_ble_eq_true rfl, Nat.le_of_ble_eq_true rfl⟩ (fun H locs h => ?_)
              refine W.eq (g2 := F0 m 96 ls [.int z2.1]) rfl ?_
              have hf : (some (z2.1, z2.2)) = some z := hf
              cases hf
              exact ret_iU (pc := 96) C hr h dX5_addSlot_96
            · have hf := ifT c9 hf
              refine lv_iconst (pc := 87) (v := 0) hx hb dX5_addSlot_87 (by decide) ?_
              have hf : (some ((0 : Int32), (f_X5_goes z1.2 (1 : Int32) (0 : Int32) (0 : Int32)).2)) = some z := hf
              cases hf
              exact ret_iU (pc := 88) C hr h dX5_addSlot_88
          · have hf := ifF c9 hf
            refine lv_iconst (pc := 76) (v := 1) hx hb dX5_addSlot_76 (by decide) ?_
            refine lv_goto (pc := 77) (tgt := 81) hx hb dX5_addSlot_77 (by decide) ?_
            refine call_VUs (pc := 81) (As := [.int (1 : Int32), .int (0 : Int32), .int (1 : Int32)]) (rest := []) C h (k_X5_goes z1.2 (1 : Int32) (0 : Int32) (1 : Int32) rfl) cw_X5_123 0 (mW_c0 _ _ _) rfl (mW_fst _ _ _ _) rfl rfl hl.1 (Nat.le_of_ble_eq_true rfl) dX5_addSlot_81 ⟨Nat.le_of_ble_eq_true rfl, Nat.le_of_ble_eq_true rfl⟩ rfl rfl ⟨Nat.le_of_ble_eq_true rfl, Nat.le_of_ble_eq_true rfl⟩ (fun H locs h => ?_)
            refine W.eq (g2 := F0 m 84 ls [.int (f_X5_goes z1.2 (1 : Int32) (0 : Int32) (1 : Int32)).1]) rfl ?_
            refine lv_if_ne (pc := 84) (tgt := 89) hx hb dX5_addSlot_84 (by decide) (fun c9 => ?_) (fun c9 => ?_)
            · have hf := ifF c9 hf
              refine lv_aload_n (pc := 89) hx hb dX5_addSlot_89 rfl (lv_at hl 1 rfl) ?_
              refine lv_iload_n (pc := 90) hx hb dX5_addSlot_90 rfl (lv_at hl 2 rfl) ?_
              refine lv_iload_n (pc := 91) hx hb dX5_addSlot_91 rfl (lv_at hl 3 rfl) ?_
              refine lv_iload_n (pc := 92) hx hb dX5_addSlot_92 rfl (lv_at hl 4 rfl) ?_
              obtain ⟨z2, hc2, hf⟩ := bdS hf
              refine call_VUs (pc := 93) (As := [.int x1, .int x2, .int x3]) (rest := []) C h (k_X5_adds (f_X5_goes z1.2 (1 : Int32) (0 : Int32) (1 : Int32)).2 x1 x2 x3 hc2) cw_X5_133 0 (mW_c0 _ _ _) rfl (mW_fst _ _ _ _) rfl rfl hl.1 (Nat.le_of_ble_eq_true rfl) dX5_addSlot_93 ⟨Nat.le_of_ble_eq_true rfl, Nat.le_of_ble_eq_true rfl⟩ rfl rfl ⟨Nat.le_of_ble_eq_true rfl, Nat.le_of_ble_eq_true rfl⟩ (fun H locs h => ?_)
              refine W.eq (g2 := F0 m 96 ls [.int z2.1]) rfl ?_
              have hf : (some (z2.1, z2.2)) = some z := hf
              cases hf
              exact ret_iU (pc := 96) C hr h dX5_addSlot_96
            · have hf := ifT c9 hf
              refine lv_iconst (pc := 87) (v := 0) hx hb dX5_addSlot_87 (by decide) ?_
              have hf : (some ((0 : Int32), (f_X5_goes z1.2 (1 : Int32) (0 : Int32) (1 : Int32)).2)) = some z := hf
              cases hf
              exact ret_iU (pc := 88) C hr h dX5_addSlot_88
      · have hf := ifF c9 hf
        refine lv_iload_n (pc := 34) hx hb dX5_addSlot_34 rfl (lv_at hl 4 rfl) ?_
        refine lv_aload_n (pc := 35) hx hb dX5_addSlot_35 rfl (lv_at hl 1 rfl) ?_
        refine lv_iload_n (pc := 36) hx hb dX5_addSlot_36 rfl (lv_at hl 2 rfl) ?_
        obtain ⟨z1, hc1, hf⟩ := bdS hf
        refine call_VRs (pc := 37) (As := [.int x1]) (rest := [.int x3, .int (1 : Int32), .ref (q 0)]) C h (k_X5_all σ x1 hc1) cw_X5_99 0 (mW_c0 _ _ _) rfl rfl rfl hl.1 (Nat.le_of_ble_eq_true rfl) dX5_addSlot_37 ⟨Nat.le_of_ble_eq_true rfl, Nat.le_of_ble_eq_true rfl⟩ rfl rfl ⟨Nat.le_of_ble_eq_true rfl, Nat.le_of_ble_eq_true rfl⟩ (fun H locs h => ?_)
        refine W.eq (g2 := F0 m 40 ls [.int z1, .int x3, .int (1 : Int32), .ref (q 0)]) rfl ?_
        refine lv_iconst (pc := 40) (v := -1) hx hb dX5_addSlot_40 (by decide) ?_
        refine lv_ixor (pc := 41) hx hb dX5_addSlot_41 ?_
        refine lv_iand (pc := 42) hx hb dX5_addSlot_42 ?_
        refine lv_if_ne (pc := 43) (tgt := 50) hx hb dX5_addSlot_43 (by decide) (fun c9 => ?_) (fun c9 => ?_)
        · have hf := ifF c9 hf
          refine lv_iconst (pc := 50) (v := 0) hx hb dX5_addSlot_50 (by decide) ?_
          refine lv_iload (pc := 51) hx hb dX5_addSlot_51 (lv_at hl 0 rfl) ?_
          refine lv_if_eq (pc := 53) (tgt := 80) hx hb dX5_addSlot_53 (by decide) (fun c9 => absurd c9 (by decide)) (fun _ => ?_)
          refine lv_aload_n (pc := 56) hx hb dX5_addSlot_56 rfl (lv_at hl 1 rfl) ?_
          refine lv_iload_n (pc := 57) hx hb dX5_addSlot_57 rfl (lv_at hl 2 rfl) ?_
          refine lv_iconst (pc := 58) (v := 0) hx hb dX5_addSlot_58 (by decide) ?_
          obtain ⟨z2, hc2, hf⟩ := bdS hf
          refine call_VUs (pc := 59) (As := [.int x1, .int (0 : Int32)]) (rest := [.int (0 : Int32), .int (1 : Int32), .ref (q 0)]) C h (k_X5_isIn σ x1 (0 : Int32) hc2) cw_X5_130 0 (mW_c0 _ _ _) rfl (mW_fst _ _ _ _) rfl rfl hl.1 (Nat.le_of_ble_eq_true rfl) dX5_addSlot_59 ⟨Nat.le_of_ble_eq_true rfl, Nat.le_of_ble_eq_true rfl⟩ rfl rfl ⟨Nat.le_of_ble_eq_true rfl, Nat.le_of_ble_eq_true rfl⟩ (fun H locs h => ?_)
          refine W.eq (g2 := F0 m 62 ls [.int z2.1, .int (0 : Int32), .int (1 : Int32), .ref (q 0)]) rfl ?_
          refine lv_if_eq (pc := 62) (tgt := 80) hx hb dX5_addSlot_62 (by decide) (fun c9 => ?_) (fun c9 => ?_)
          · have hf := ifT c9 hf
            refine lv_iconst (pc := 80) (v := 0) hx hb dX5_addSlot_80 (by decide) ?_
            refine call_VUs (pc := 81) (As := [.int (1 : Int32), .int (0 : Int32), .int (0 : Int32)]) (rest := []) C h (k_X5_goes z2.2 (1 : Int32) (0 : Int32) (0 : Int32) rfl) cw_X5_123 0 (mW_c0 _ _ _) rfl (mW_fst _ _ _ _) rfl rfl hl.1 (Nat.le_of_ble_eq_true rfl) dX5_addSlot_81 ⟨Nat.le_of_ble_eq_true rfl, Nat.le_of_ble_eq_true rfl⟩ rfl rfl ⟨Nat.le_of_ble_eq_true rfl, Nat.le_of_ble_eq_true rfl⟩ (fun H locs h => ?_)
            refine W.eq (g2 := F0 m 84 ls [.int (f_X5_goes z2.2 (1 : Int32) (0 : Int32) (0 : Int32)).1]) rfl ?_
            refine lv_if_ne (pc := 84) (tgt := 89) hx hb dX5_addSlot_84 (by decide) (fun c9 => ?_) (fun c9 => ?_)
            · have hf := ifF c9 hf
              refine lv_aload_n (pc := 89) hx hb dX5_addSlot_89 rfl (lv_at hl 1 rfl) ?_
              refine lv_iload_n (pc := 90) hx hb dX5_addSlot_90 rfl (lv_at hl 2 rfl) ?_
              refine lv_iload_n (pc := 91) hx hb dX5_addSlot_91 rfl (lv_at hl 3 rfl) ?_
              refine lv_iload_n (pc := 92) hx hb dX5_addSlot_92 rfl (lv_at hl 4 rfl) ?_
              obtain ⟨z3, hc3, hf⟩ := bdS hf
              refine call_VUs (pc := 93) (As := [.int x1, .int x2, .int x3]) (rest := []) C h (k_X5_adds (f_X5_goes z2.2 (1 : Int32) (0 : Int32) (0 : Int32)).2 x1 x2 x3 hc3) cw_X5_133 0 (mW_c0 _ _ _) rfl (mW_fst _ _ _ _) rfl rfl hl.1 (Nat.le_of_ble_eq_true rfl) dX5_addSlot_93 ⟨Nat.le_of_ble_eq_true rfl, Nat.le_of_ble_eq_true rfl⟩ rfl rfl ⟨Nat.le_of_ble_eq_true rfl, Nat.le_of_ble_eq_true rfl⟩ (fun H locs h => ?_)
              refine W.eq (g2 := F0 m 96 ls [.int z3.1]) rfl ?_
              have hf : (some (z3.1, z3.2)) = some z := hf
              cases hf
              exact ret_iU (pc := 96) C hr h dX5_addSlot_96
            · have hf := ifT c9 hf
              refine lv_iconst (pc := 87) (v := 0) hx hb dX5_addSlot_87 (by decide) ?_
              have hf : (some ((0 : Int32), (f_X5_goes z2.2 (1 : Int32) (0 : Int32) (0 : Int32)).2)) = some z := hf
              cases hf
              exact ret_iU (pc := 88) C hr h dX5_addSlot_88
          · have hf := ifF c9 hf
            refine lv_aload_n (pc := 65) hx hb dX5_addSlot_65 rfl (lv_at hl 1 rfl) ?_
            refine g_get (pc := 66) (v := .ref (q 1)) C h.1 0 (mW_c0 _ _ _) fl_X5_7 rfl dX5_addSlot_66 ?_
            refine lv_iload_n (pc := 69) hx hb dX5_addSlot_69 rfl (lv_at hl 2 rfl) ?_
            obtain ⟨hin, hf⟩ := ifS hf
            refine g_ild (pc := 70) (n := 6) (f := (z2.2 2)) C h.1 1 (mW_c1 _ _ _) hin dX5_addSlot_70 ?_
            refine lv_bipush (pc := 71) (v := 8) hx hb dX5_addSlot_71 (by decide) ?_
            refine lv_icmp_ge (pc := 73) (tgt := 80) hx hb dX5_addSlot_73 (by decide) (fun c9 => ?_) (fun c9 => ?_)
            · have hf := ifT c9 hf
              refine lv_iconst (pc := 80) (v := 0) hx hb dX5_addSlot_80 (by decide) ?_
              refine call_VUs (pc := 81) (As := [.int (1 : Int32), .int (0 : Int32), .int (0 : Int32)]) (rest := []) C h (k_X5_goes z2.2 (1 : Int32) (0 : Int32) (0 : Int32) rfl) cw_X5_123 0 (mW_c0 _ _ _) rfl (mW_fst _ _ _ _) rfl rfl hl.1 (Nat.le_of_ble_eq_true rfl) dX5_addSlot_81 ⟨Nat.le_of_ble_eq_true rfl, Nat.le_of_ble_eq_true rfl⟩ rfl rfl ⟨Nat.le_of_ble_eq_true rfl, Nat.le_of_ble_eq_true rfl⟩ (fun H locs h => ?_)
              refine W.eq (g2 := F0 m 84 ls [.int (f_X5_goes z2.2 (1 : Int32) (0 : Int32) (0 : Int32)).1]) rfl ?_
              refine lv_if_ne (pc := 84) (tgt := 89) hx hb dX5_addSlot_84 (by decide) (fun c9 => ?_) (fun c9 => ?_)
              · have hf := ifF c9 hf
                refine lv_aload_n (pc := 89) hx hb dX5_addSlot_89 rfl (lv_at hl 1 rfl) ?_
                refine lv_iload_n (pc := 90) hx hb dX5_addSlot_90 rfl (lv_at hl 2 rfl) ?_
                refine lv_iload_n (pc := 91) hx hb dX5_addSlot_91 rfl (lv_at hl 3 rfl) ?_
                refine lv_iload_n (pc := 92) hx hb dX5_addSlot_92 rfl (lv_at hl 4 rfl) ?_
                obtain ⟨z3, hc3, hf⟩ := bdS hf
                refine call_VUs (pc := 93) (As := [.int x1, .int x2, .int x3]) (rest := []) C h (k_X5_adds (f_X5_goes z2.2 (1 : Int32) (0 : Int32) (0 : Int32)).2 x1 x2 x3 hc3) cw_X5_133 0 (mW_c0 _ _ _) rfl (mW_fst _ _ _ _) rfl rfl hl.1 (Nat.le_of_ble_eq_true rfl) dX5_addSlot_93 ⟨Nat.le_of_ble_eq_true rfl, Nat.le_of_ble_eq_true rfl⟩ rfl rfl ⟨Nat.le_of_ble_eq_true rfl, Nat.le_of_ble_eq_true rfl⟩ (fun H locs h => ?_)
                refine W.eq (g2 := F0 m 96 ls [.int z3.1]) rfl ?_
                have hf : (some (z3.1, z3.2)) = some z := hf
                cases hf
                exact ret_iU (pc := 96) C hr h dX5_addSlot_96
              · have hf := ifT c9 hf
                refine lv_iconst (pc := 87) (v := 0) hx hb dX5_addSlot_87 (by decide) ?_
                have hf : (some ((0 : Int32), (f_X5_goes z2.2 (1 : Int32) (0 : Int32) (0 : Int32)).2)) = some z := hf
                cases hf
                exact ret_iU (pc := 88) C hr h dX5_addSlot_88
            · have hf := ifF c9 hf
              refine lv_iconst (pc := 76) (v := 1) hx hb dX5_addSlot_76 (by decide) ?_
              refine lv_goto (pc := 77) (tgt := 81) hx hb dX5_addSlot_77 (by decide) ?_
              refine call_VUs (pc := 81) (As := [.int (1 : Int32), .int (0 : Int32), .int (1 : Int32)]) (rest := []) C h (k_X5_goes z2.2 (1 : Int32) (0 : Int32) (1 : Int32) rfl) cw_X5_123 0 (mW_c0 _ _ _) rfl (mW_fst _ _ _ _) rfl rfl hl.1 (Nat.le_of_ble_eq_true rfl) dX5_addSlot_81 ⟨Nat.le_of_ble_eq_true rfl, Nat.le_of_ble_eq_true rfl⟩ rfl rfl ⟨Nat.le_of_ble_eq_true rfl, Nat.le_of_ble_eq_true rfl⟩ (fun H locs h => ?_)
              refine W.eq (g2 := F0 m 84 ls [.int (f_X5_goes z2.2 (1 : Int32) (0 : Int32) (1 : Int32)).1]) rfl ?_
              refine lv_if_ne (pc := 84) (tgt := 89) hx hb dX5_addSlot_84 (by decide) (fun c9 => ?_) (fun c9 => ?_)
              · have hf := ifF c9 hf
                refine lv_aload_n (pc := 89) hx hb dX5_addSlot_89 rfl (lv_at hl 1 rfl) ?_
                refine lv_iload_n (pc := 90) hx hb dX5_addSlot_90 rfl (lv_at hl 2 rfl) ?_
                refine lv_iload_n (pc := 91) hx hb dX5_addSlot_91 rfl (lv_at hl 3 rfl) ?_
                refine lv_iload_n (pc := 92) hx hb dX5_addSlot_92 rfl (lv_at hl 4 rfl) ?_
                obtain ⟨z3, hc3, hf⟩ := bdS hf
                refine call_VUs (pc := 93) (As := [.int x1, .int x2, .int x3]) (rest := []) C h (k_X5_adds (f_X5_goes z2.2 (1 : Int32) (0 : Int32) (1 : Int32)).2 x1 x2 x3 hc3) cw_X5_133 0 (mW_c0 _ _ _) rfl (mW_fst _ _ _ _) rfl rfl hl.1 (Nat.le_of_ble_eq_true rfl) dX5_addSlot_93 ⟨Nat.le_of_ble_eq_true rfl, Nat.le_of_ble_eq_true rfl⟩ rfl rfl ⟨Nat.le_of_ble_eq_true rfl, Nat.le_of_ble_eq_true rfl⟩ (fun H locs h => ?_)
                refine W.eq (g2 := F0 m 96 ls [.int z3.1]) rfl ?_
                have hf : (some (z3.1, z3.2)) = some z := hf
                cases hf
                exact ret_iU (pc := 96) C hr h dX5_addSlot_96
              · have hf := ifT c9 hf
                refine lv_iconst (pc := 87) (v := 0) hx hb dX5_addSlot_87 (by decide) ?_
                have hf : (some ((0 : Int32), (f_X5_goes z2.2 (1 : Int32) (0 : Int32) (1 : Int32)).2)) = some z := hf
                cases hf
                exact ret_iU (pc := 88) C hr h dX5_addSlot_88
        · have hf := ifT c9 hf
          refine lv_iconst (pc := 46) (v := 1) hx hb dX5_addSlot_46 (by decide) ?_
          refine lv_goto (pc := 47) (tgt := 51) hx hb dX5_addSlot_47 (by decide) ?_
          refine lv_iload (pc := 51) hx hb dX5_addSlot_51 (lv_at hl 0 rfl) ?_
          refine lv_if_eq (pc := 53) (tgt := 80) hx hb dX5_addSlot_53 (by decide) (fun c9 => absurd c9 (by decide)) (fun _ => ?_)
          refine lv_aload_n (pc := 56) hx hb dX5_addSlot_56 rfl (lv_at hl 1 rfl) ?_
          refine lv_iload_n (pc := 57) hx hb dX5_addSlot_57 rfl (lv_at hl 2 rfl) ?_
          refine lv_iconst (pc := 58) (v := 0) hx hb dX5_addSlot_58 (by decide) ?_
          obtain ⟨z2, hc2, hf⟩ := bdS hf
          refine call_VUs (pc := 59) (As := [.int x1, .int (0 : Int32)]) (rest := [.int (1 : Int32), .int (1 : Int32), .ref (q 0)]) C h (k_X5_isIn σ x1 (0 : Int32) hc2) cw_X5_130 0 (mW_c0 _ _ _) rfl (mW_fst _ _ _ _) rfl rfl hl.1 (Nat.le_of_ble_eq_true rfl) dX5_addSlot_59 ⟨Nat.le_of_ble_eq_true rfl, Nat.le_of_ble_eq_true rfl⟩ rfl rfl ⟨Nat.le_of_ble_eq_true rfl, Nat.le_of_ble_eq_true rfl⟩ (fun H locs h => ?_)
          refine W.eq (g2 := F0 m 62 ls [.int z2.1, .int (1 : Int32), .int (1 : Int32), .ref (q 0)]) rfl ?_
          refine lv_if_eq (pc := 62) (tgt := 80) hx hb dX5_addSlot_62 (by decide) (fun c9 => ?_) (fun c9 => ?_)
          · have hf := ifT c9 hf
            refine lv_iconst (pc := 80) (v := 0) hx hb dX5_addSlot_80 (by decide) ?_
            refine call_VUs (pc := 81) (As := [.int (1 : Int32), .int (1 : Int32), .int (0 : Int32)]) (rest := []) C h (k_X5_goes z2.2 (1 : Int32) (1 : Int32) (0 : Int32) rfl) cw_X5_123 0 (mW_c0 _ _ _) rfl (mW_fst _ _ _ _) rfl rfl hl.1 (Nat.le_of_ble_eq_true rfl) dX5_addSlot_81 ⟨Nat.le_of_ble_eq_true rfl, Nat.le_of_ble_eq_true rfl⟩ rfl rfl ⟨Nat.le_of_ble_eq_true rfl, Nat.le_of_ble_eq_true rfl⟩ (fun H locs h => ?_)
            refine W.eq (g2 := F0 m 84 ls [.int (f_X5_goes z2.2 (1 : Int32) (1 : Int32) (0 : Int32)).1]) rfl ?_
            refine lv_if_ne (pc := 84) (tgt := 89) hx hb dX5_addSlot_84 (by decide) (fun c9 => ?_) (fun c9 => ?_)
            · have hf := ifF c9 hf
              refine lv_aload_n (pc := 89) hx hb dX5_addSlot_89 rfl (lv_at hl 1 rfl) ?_
              refine lv_iload_n (pc := 90) hx hb dX5_addSlot_90 rfl (lv_at hl 2 rfl) ?_
              refine lv_iload_n (pc := 91) hx hb dX5_addSlot_91 rfl (lv_at hl 3 rfl) ?_
              refine lv_iload_n (pc := 92) hx hb dX5_addSlot_92 rfl (lv_at hl 4 rfl) ?_
              obtain ⟨z3, hc3, hf⟩ := bdS hf
              refine call_VUs (pc := 93) (As := [.int x1, .int x2, .int x3]) (rest := []) C h (k_X5_adds (f_X5_goes z2.2 (1 : Int32) (1 : Int32) (0 : Int32)).2 x1 x2 x3 hc3) cw_X5_133 0 (mW_c0 _ _ _) rfl (mW_fst _ _ _ _) rfl rfl hl.1 (Nat.le_of_ble_eq_true rfl) dX5_addSlot_93 ⟨Nat.le_of_ble_eq_true rfl, Nat.le_of_ble_eq_true rfl⟩ rfl rfl ⟨Nat.le_of_ble_eq_true rfl, Nat.le_of_ble_eq_true rfl⟩ (fun H locs h => ?_)
              refine W.eq (g2 := F0 m 96 ls [.int z3.1]) rfl ?_
              have hf : (some (z3.1, z3.2)) = some z := hf
              cases hf
              exact ret_iU (pc := 96) C hr h dX5_addSlot_96
            · have hf := ifT c9 hf
              refine lv_iconst (pc := 87) (v := 0) hx hb dX5_addSlot_87 (by decide) ?_
              have hf : (some ((0 : Int32), (f_X5_goes z2.2 (1 : Int32) (1 : Int32) (0 : Int32)).2)) = some z := hf
              cases hf
              exact ret_iU (pc := 88) C hr h dX5_addSlot_88
          · have hf := ifF c9 hf
            refine lv_aload_n (pc := 65) hx hb dX5_addSlot_65 rfl (lv_at hl 1 rfl) ?_
            refine g_get (pc := 66) (v := .ref (q 1)) C h.1 0 (mW_c0 _ _ _) fl_X5_7 rfl dX5_addSlot_66 ?_
            refine lv_iload_n (pc := 69) hx hb dX5_addSlot_69 rfl (lv_at hl 2 rfl) ?_
            obtain ⟨hin, hf⟩ := ifS hf
            refine g_ild (pc := 70) (n := 6) (f := (z2.2 2)) C h.1 1 (mW_c1 _ _ _) hin dX5_addSlot_70 ?_
            refine lv_bipush (pc := 71) (v := 8) hx hb dX5_addSlot_71 (by decide) ?_
            refine lv_icmp_ge (pc := 73) (tgt := 80) hx hb dX5_addSlot_73 (by decide) (fun c9 => ?_) (fun c9 => ?_)
            · have hf := ifT c9 hf
              refine lv_iconst (pc := 80) (v := 0) hx hb dX5_addSlot_80 (by decide) ?_
              refine call_VUs (pc := 81) (As := [.int (1 : Int32), .int (1 : Int32), .int (0 : Int32)]) (rest := []) C h (k_X5_goes z2.2 (1 : Int32) (1 : Int32) (0 : Int32) rfl) cw_X5_123 0 (mW_c0 _ _ _) rfl (mW_fst _ _ _ _) rfl rfl hl.1 (Nat.le_of_ble_eq_true rfl) dX5_addSlot_81 ⟨Nat.le_of_ble_eq_true rfl, Nat.le_of_ble_eq_true rfl⟩ rfl rfl ⟨Nat.le_of_ble_eq_true rfl, Nat.le_of_ble_eq_true rfl⟩ (fun H locs h => ?_)
              refine W.eq (g2 := F0 m 84 ls [.int (f_X5_goes z2.2 (1 : Int32) (1 : Int32) (0 : Int32)).1]) rfl ?_
              refine lv_if_ne (pc := 84) (tgt := 89) hx hb dX5_addSlot_84 (by decide) (fun c9 => ?_) (fun c9 => ?_)
              · have hf := ifF c9 hf
                refine lv_aload_n (pc := 89) hx hb dX5_addSlot_89 rfl (lv_at hl 1 rfl) ?_
                refine lv_iload_n (pc := 90) hx hb dX5_addSlot_90 rfl (lv_at hl 2 rfl) ?_
                refine lv_iload_n (pc := 91) hx hb dX5_addSlot_91 rfl (lv_at hl 3 rfl) ?_
                refine lv_iload_n (pc := 92) hx hb dX5_addSlot_92 rfl (lv_at hl 4 rfl) ?_
                obtain ⟨z3, hc3, hf⟩ := bdS hf
                refine call_VUs (pc := 93) (As := [.int x1, .int x2, .int x3]) (rest := []) C h (k_X5_adds (f_X5_goes z2.2 (1 : Int32) (1 : Int32) (0 : Int32)).2 x1 x2 x3 hc3) cw_X5_133 0 (mW_c0 _ _ _) rfl (mW_fst _ _ _ _) rfl rfl hl.1 (Nat.le_of_ble_eq_true rfl) dX5_addSlot_93 ⟨Nat.le_of_ble_eq_true rfl, Nat.le_of_ble_eq_true rfl⟩ rfl rfl ⟨Nat.le_of_ble_eq_true rfl, Nat.le_of_ble_eq_true rfl⟩ (fun H locs h => ?_)
                refine W.eq (g2 := F0 m 96 ls [.int z3.1]) rfl ?_
                have hf : (some (z3.1, z3.2)) = some z := hf
                cases hf
                exact ret_iU (pc := 96) C hr h dX5_addSlot_96
              · have hf := ifT c9 hf
                refine lv_iconst (pc := 87) (v := 0) hx hb dX5_addSlot_87 (by decide) ?_
                have hf : (some ((0 : Int32), (f_X5_goes z2.2 (1 : Int32) (1 : Int32) (0 : Int32)).2)) = some z := hf
                cases hf
                exact ret_iU (pc := 88) C hr h dX5_addSlot_88
            · have hf := ifF c9 hf
              refine lv_iconst (pc := 76) (v := 1) hx hb dX5_addSlot_76 (by decide) ?_
              refine lv_goto (pc := 77) (tgt := 81) hx hb dX5_addSlot_77 (by decide) ?_
              refine call_VUs (pc := 81) (As := [.int (1 : Int32), .int (1 : Int32), .int (1 : Int32)]) (rest := []) C h (k_X5_goes z2.2 (1 : Int32) (1 : Int32) (1 : Int32) rfl) cw_X5_123 0 (mW_c0 _ _ _) rfl (mW_fst _ _ _ _) rfl rfl hl.1 (Nat.le_of_ble_eq_true rfl) dX5_addSlot_81 ⟨Nat.le_of_ble_eq_true rfl, Nat.le_of_ble_eq_true rfl⟩ rfl rfl ⟨Nat.le_of_ble_eq_true rfl, Nat.le_of_ble_eq_true rfl⟩ (fun H locs h => ?_)
              refine W.eq (g2 := F0 m 84 ls [.int (f_X5_goes z2.2 (1 : Int32) (1 : Int32) (1 : Int32)).1]) rfl ?_
              refine lv_if_ne (pc := 84) (tgt := 89) hx hb dX5_addSlot_84 (by decide) (fun c9 => ?_) (fun c9 => ?_)
              · have hf := ifF c9 hf
                refine lv_aload_n (pc := 89) hx hb dX5_addSlot_89 rfl (lv_at hl 1 rfl) ?_
                refine lv_iload_n (pc := 90) hx hb dX5_addSlot_90 rfl (lv_at hl 2 rfl) ?_
                refine lv_iload_n (pc := 91) hx hb dX5_addSlot_91 rfl (lv_at hl 3 rfl) ?_
                refine lv_iload_n (pc := 92) hx hb dX5_addSlot_92 rfl (lv_at hl 4 rfl) ?_
                obtain ⟨z3, hc3, hf⟩ := bdS hf
                refine call_VUs (pc := 93) (As := [.int x1, .int x2, .int x3]) (rest := []) C h (k_X5_adds (f_X5_goes z2.2 (1 : Int32) (1 : Int32) (1 : Int32)).2 x1 x2 x3 hc3) cw_X5_133 0 (mW_c0 _ _ _) rfl (mW_fst _ _ _ _) rfl rfl hl.1 (Nat.le_of_ble_eq_true rfl) dX5_addSlot_93 ⟨Nat.le_of_ble_eq_true rfl, Nat.le_of_ble_eq_true rfl⟩ rfl rfl ⟨Nat.le_of_ble_eq_true rfl, Nat.le_of_ble_eq_true rfl⟩ (fun H locs h => ?_)
                refine W.eq (g2 := F0 m 96 ls [.int z3.1]) rfl ?_
                have hf : (some (z3.1, z3.2)) = some z := hf
                cases hf
                exact ret_iU (pc := 96) C hr h dX5_addSlot_96
              · have hf := ifT c9 hf
                refine lv_iconst (pc := 87) (v := 0) hx hb dX5_addSlot_87 (by decide) ?_
                have hf : (some ((0 : Int32), (f_X5_goes z2.2 (1 : Int32) (1 : Int32) (1 : Int32)).2)) = some z := hf
                cases hf
                exact ret_iU (pc := 88) C hr h dX5_addSlot_88
abbrev rm_X5_addRound : Room := { frames := 5, cells := 0, slots := 0, locals := 111 }
def f_X5_addRound_68 : Nat → (Nat → Nat → Int32) → Int32 → Int32 → Int32 → Int32 → Int32 → Option ((Nat → Nat → Int32) × Int32)
  | 0, _, _, _, _, _, _ => none
  | n + 1, σ, x1, x2, x3, x4, x5 => (if (8 : Int32) ≤ x5 then some (σ, x5) else (if (f_X5_has x2 x5) = 0 then (f_X5_addRound_68 n σ x1 x2 x3 x4 (x5 + (1 : Int32))) else ((f_X5_adds σ x1 x5 x4).bind fun z2 => (f_X5_addRound_68 n z2.2 x1 x2 x3 x4 (x5 + (1 : Int32))))))
def f_X5_addRound (σ : Nat → Nat → Int32) (x1 x2 : Int32) : Option (Int32 × (Nat → Nat → Int32)) := (if (f_X5_isEnvelope σ x1) = 0 then (if (f_X5_goes σ (f_X5_isEnvelope σ x1) (f_X5_in x2 (1 : Int32) (255 : Int32)) (0 : Int32)).1 = 0 then (some ((0 : Int32), (f_X5_goes σ (f_X5_isEnvelope σ x1) (f_X5_in x2 (1 : Int32) (255 : Int32)) (0 : Int32)).2)) else ((f_X5_all (f_X5_goes σ (f_X5_isEnvelope σ x1) (f_X5_in x2 (1 : Int32) (255 : Int32)) (0 : Int32)).2 x1).bind fun z1 => ((f_X5_addRound_68 FU (f_X5_goes σ (f_X5_isEnvelope σ x1) (f_X5_in x2 (1 : Int32) (255 : Int32)) (0 : Int32)).2 x1 x2 (f_X5_isEnvelope σ x1) z1 (0 : Int32)).bind fun z2 => (if inb x1 6 then (some (((z2.1 2) x1.toNatClampNeg), z2.1)) else none)))) else ((f_X5_isIn σ x1 (0 : Int32)).bind fun z1 => (if z1.1 = 0 then (if (f_X5_goes z1.2 (f_X5_isEnvelope σ x1) (f_X5_in x2 (1 : Int32) (255 : Int32)) (0 : Int32)).1 = 0 then (some ((0 : Int32), (f_X5_goes z1.2 (f_X5_isEnvelope σ x1) (f_X5_in x2 (1 : Int32) (255 : Int32)) (0 : Int32)).2)) else ((f_X5_all (f_X5_goes z1.2 (f_X5_isEnvelope σ x1) (f_X5_in x2 (1 : Int32) (255 : Int32)) (0 : Int32)).2 x1).bind fun z2 => ((f_X5_addRound_68 FU (f_X5_goes z1.2 (f_X5_isEnvelope σ x1) (f_X5_in x2 (1 : Int32) (255 : Int32)) (0 : Int32)).2 x1 x2 (f_X5_isEnvelope σ x1) z2 (0 : Int32)).bind fun z3 => (if inb x1 6 then (some (((z3.1 2) x1.toNatClampNeg), z3.1)) else none)))) else (if inb x1 6 then ((f_X5_many x2).bind fun z2 => (if (8 : Int32) < (((z1.2 2) x1.toNatClampNeg) + z2) then (if (f_X5_goes z1.2 (f_X5_isEnvelope σ x1) (f_X5_in x2 (1 : Int32) (255 : Int32)) (0 : Int32)).1 = 0 then (some ((0 : Int32), (f_X5_goes z1.2 (f_X5_isEnvelope σ x1) (f_X5_in x2 (1 : Int32) (255 : Int32)) (0 : Int32)).2)) else ((f_X5_all (f_X5_goes z1.2 (f_X5_isEnvelope σ x1) (f_X5_in x2 (1 : Int32) (255 : Int32)) (0 : Int32)).2 x1).bind fun z3 => ((f_X5_addRound_68 FU (f_X5_goes z1.2 (f_X5_isEnvelope σ x1) (f_X5_in x2 (1 : Int32) (255 : Int32)) (0 : Int32)).2 x1 x2 (f_X5_isEnvelope σ x1) z3 (0 : Int32)).bind fun z4 => (if inb x1 6 then (some (((z4.1 2) x1.toNatClampNeg), z4.1)) else none)))) else (if (f_X5_goes z1.2 (f_X5_isEnvelope σ x1) (f_X5_in x2 (1 : Int32) (255 : Int32)) (1 : Int32)).1 = 0 then (some ((0 : Int32), (f_X5_goes z1.2 (f_X5_isEnvelope σ x1) (f_X5_in x2 (1 : Int32) (255 : Int32)) (1 : Int32)).2)) else ((f_X5_all (f_X5_goes z1.2 (f_X5_isEnvelope σ x1) (f_X5_in x2 (1 : Int32) (255 : Int32)) (1 : Int32)).2 x1).bind fun z3 => ((f_X5_addRound_68 FU (f_X5_goes z1.2 (f_X5_isEnvelope σ x1) (f_X5_in x2 (1 : Int32) (255 : Int32)) (1 : Int32)).2 x1 x2 (f_X5_isEnvelope σ x1) z3 (0 : Int32)).bind fun z4 => (if inb x1 6 then (some (((z4.1 2) x1.toNatClampNeg), z4.1)) else none)))))) else none))))
set_option maxHeartbeats 400000 in
set_option maxRecDepth 100000 in
theorem l_X5_addRound_68 (C : Cx p s m args meth c cX5_addRound 7 RX5 D cA) : ∀ (n : Nat) (σ : Nat → Nat → Int32) (x1 x2 x3 x4 x5 : Int32) (z : (Nat → Nat → Int32) × Int32), f_X5_addRound_68 n σ x1 x2 x3 x4 x5 = some z → ∀ (H : Heap) (locs : List Loc) (ls : Array Slot), St D A s.heap (mW q cA σ) H locs → lv_has ls 7 [(0, .ref (q 0)), (1, .int x1), (2, .int x2), (3, .int x3), (4, .int x4), (5, .int x5)] → (∀ (H : Heap) (locs : List Loc) (ls : Array Slot), St D A s.heap (mW q cA z.1) H locs → lv_has ls 7 [(0, .ref (q 0)), (1, .int x1), (2, .int x2), (3, .int x3), (4, .int x4), (5, .int z.2)] → W p l e rm_X5_addRound s m args below meth c H locs 0 0 Q (F0 m 101 ls [])) → W p l e rm_X5_addRound s m args below meth c H locs 0 0 Q (F0 m 68 ls []) := by
  obtain ⟨hx, hb, hml, hown, hts, hK, hlk⟩ := id C
  intro n
  induction n with
  | zero => intro σ x1 x2 x3 x4 x5 z hf; rw [f_X5_addRound_68] at hf; cases hf
  | succ n ih =>
    intro σ x1 x2 x3 x4 x5 z hf H locs ls h hl kk
    rw [f_X5_addRound_68] at hf
    refine lv_iload (pc := 68) hx hb dX5_addRound_68 (lv_at hl 5 rfl) ?_
    refine lv_bipush (pc := 70) (v := 8) hx hb dX5_addRound_70 (by decide) ?_
    refine lv_icmp_ge (pc := 72) (tgt := 101) hx hb dX5_addRound_72 (by decide) (fun c9 => ?_) (fun c9 => ?_)
    · have hf := ifT c9 hf
      have hf : some (σ, x5) = some z := hf
      cases hf
      exact kk _ _ _ h (lv_sub hl [0, 1, 2, 3, 4, 5] rfl)
    · have hf := ifF c9 hf
      refine lv_iload_n (pc := 75) hx hb dX5_addRound_75 rfl (lv_at hl 2 rfl) ?_
      refine lv_iload (pc := 76) hx hb dX5_addRound_76 (lv_at hl 5 rfl) ?_
      refine call_SR (pc := 78) (As := [.int x2, .int x5]) (rest := []) (wc := []) C h (k_X5_has x2 x5 rfl) cw_X5_85 [] rfl rfl rfl rfl hl.1 (Nat.le_of_ble_eq_true rfl) dX5_addRound_78 ⟨Nat.le_of_ble_eq_true rfl, Nat.le_of_ble_eq_true rfl⟩ rfl rfl ⟨Nat.le_of_ble_eq_true rfl, Nat.le_of_ble_eq_true rfl⟩ (fun H locs h => ?_)
      refine W.eq (g2 := F0 m 81 ls [.int (f_X5_has x2 x5)]) rfl ?_
      refine lv_if_eq (pc := 81) (tgt := 95) hx hb dX5_addRound_81 (by decide) (fun c9 => ?_) (fun c9 => ?_)
      · have hf := ifT c9 hf
        refine lv_iinc (pc := 95) (v := (x5 + (1 : Int32))) (lv' := [(5, .int (x5 + (1 : Int32))), (0, .ref (q 0)), (1, .int x1), (2, .int x2), (3, .int x3), (4, .int x4)]) hx hb dX5_addRound_95 hl (k := 5) rfl rfl (by decide) rfl (fun ls hl => ?_)
        refine lv_goto (pc := 98) (tgt := 68) hx hb dX5_addRound_98 (by decide) ?_
        exact ih _ _ _ _ _ _ _ hf _ _ _ h (lv_sub hl [1, 2, 3, 4, 5, 0] rfl) kk
      · have hf := ifF c9 hf
        refine lv_aload_n (pc := 84) hx hb dX5_addRound_84 rfl (lv_at hl 0 rfl) ?_
        refine lv_iload_n (pc := 85) hx hb dX5_addRound_85 rfl (lv_at hl 1 rfl) ?_
        refine lv_iload (pc := 86) hx hb dX5_addRound_86 (lv_at hl 5 rfl) ?_
        refine lv_iload (pc := 88) hx hb dX5_addRound_88 (lv_at hl 4 rfl) ?_
        obtain ⟨z2, hc2, hf⟩ := bdS hf
        refine call_VUs (pc := 90) (As := [.int x1, .int x5, .int x4]) (rest := []) C h (k_X5_adds σ x1 x5 x4 hc2) cw_X5_133 0 (mW_c0 _ _ _) rfl (mW_fst _ _ _ _) rfl rfl hl.1 (Nat.le_of_ble_eq_true rfl) dX5_addRound_90 ⟨Nat.le_of_ble_eq_true rfl, Nat.le_of_ble_eq_true rfl⟩ rfl rfl ⟨Nat.le_of_ble_eq_true rfl, Nat.le_of_ble_eq_true rfl⟩ (fun H locs h => ?_)
        refine W.eq (g2 := F0 m 93 ls [.int z2.1]) rfl ?_
        refine lv_istore (pc := 93) (lv' := [(6, .int z2.1), (0, .ref (q 0)), (1, .int x1), (2, .int x2), (3, .int x3), (4, .int x4), (5, .int x5)]) hx hb dX5_addRound_93 hl (by decide) rfl (fun ls hl => ?_)
        refine lv_iinc (pc := 95) (v := (x5 + (1 : Int32))) (lv' := [(5, .int (x5 + (1 : Int32))), (6, .int z2.1), (0, .ref (q 0)), (1, .int x1), (2, .int x2), (3, .int x3), (4, .int x4)]) hx hb dX5_addRound_95 hl (k := 6) rfl rfl (by decide) rfl (fun ls hl => ?_)
        refine lv_goto (pc := 98) (tgt := 68) hx hb dX5_addRound_98 (by decide) ?_
        exact ih _ _ _ _ _ _ _ hf _ _ _ h (lv_sub hl [2, 3, 4, 5, 6, 0] rfl) kk
set_option maxHeartbeats 400000 in
set_option maxRecDepth 100000 in
theorem k_X5_addRound {q : Nat → Nat} {cA : Nat → ClassId} {D : va_G} (σ : Nat → Nat → Int32) (x1 x2 : Int32) {z : Int32 × (Nat → Nat → Int32)} (hf : f_X5_addRound σ x1 x2 = some z) : CtU yX5_addRound cX5_addRound 7 (some .int) rm_X5_addRound [.ref (q 0), .int x1, .int x2] D cA (mW q cA σ) (mW q cA z.2) (some (.int z.1)) 0 0 := by
  refine ctU_of (by decide) (Nat.le_of_ble_eq_true rfl) ?_
  intro p l e s m below meth c ls C hr hnm h hl
  have C : Cx p s m _ meth c cX5_addRound 7 RX5 D cA := C
  obtain ⟨hx, hb, hml, hown, hts, hK, hlk⟩ := id C
  replace hl : lv_has ls 7 [(0, .ref (q 0)), (1, .int x1), (2, .int x2)] := hl
  rw [f_X5_addRound] at hf
  refine lv_aload_n (pc := 0) hx hb dX5_addRound_0 rfl (lv_at hl 0 rfl) ?_
  refine lv_iload_n (pc := 1) hx hb dX5_addRound_1 rfl (lv_at hl 1 rfl) ?_
  refine call_VRs (pc := 2) (As := [.int x1]) (rest := []) C h (k_X5_isEnvelope σ x1 rfl) cw_X5_78 0 (mW_c0 _ _ _) rfl rfl rfl hl.1 (Nat.le_of_ble_eq_true rfl) dX5_addRound_2 ⟨Nat.le_of_ble_eq_true rfl, Nat.le_of_ble_eq_true rfl⟩ rfl rfl ⟨Nat.le_of_ble_eq_true rfl, Nat.le_of_ble_eq_true rfl⟩ (fun H locs h => ?_)
  refine W.eq (g2 := F0 m 5 ls [.int (f_X5_isEnvelope σ x1)]) rfl ?_
  refine lv_istore_n (pc := 5) (lv' := [(3, .int (f_X5_isEnvelope σ x1)), (0, .ref (q 0)), (1, .int x1), (2, .int x2)]) hx hb dX5_addRound_5 rfl hl (by decide) rfl (fun ls hl => ?_)
  refine lv_aload_n (pc := 6) hx hb dX5_addRound_6 rfl (lv_at hl 1 rfl) ?_
  refine lv_iload_n (pc := 7) hx hb dX5_addRound_7 rfl (lv_at hl 0 rfl) ?_
  refine lv_iload_n (pc := 8) hx hb dX5_addRound_8 rfl (lv_at hl 3 rfl) ?_
  refine lv_iconst (pc := 9) (v := 1) hx hb dX5_addRound_9 (by decide) ?_
  refine lv_sipush (pc := 10) (v := 255) hx hb dX5_addRound_10 (by decide) ?_
  refine call_SR (pc := 13) (As := [.int x2, .int (1 : Int32), .int (255 : Int32)]) (rest := [.int (f_X5_isEnvelope σ x1), .ref (q 0)]) (wc := []) C h (k_X5_in x2 (1 : Int32) (255 : Int32) rfl) cw_X5_71 [] rfl rfl rfl rfl hl.1 (Nat.le_of_ble_eq_true rfl) dX5_addRound_13 ⟨Nat.le_of_ble_eq_true rfl, Nat.le_of_ble_eq_true rfl⟩ rfl rfl ⟨Nat.le_of_ble_eq_true rfl, Nat.le_of_ble_eq_true rfl⟩ (fun H locs h => ?_)
  refine W.eq (g2 := F0 m 16 ls [.int (f_X5_in x2 (1 : Int32) (255 : Int32)), .int (f_X5_isEnvelope σ x1), .ref (q 0)]) rfl ?_
  refine lv_iload_n (pc := 16) hx hb dX5_addRound_16 rfl (lv_at hl 0 rfl) ?_
  refine lv_if_eq (pc := 17) (tgt := 49) hx hb dX5_addRound_17 (by decide) (fun c9 => ?_) (fun c9 => ?_)
  · have hf := ifT c9 hf
    refine lv_iconst (pc := 49) (v := 0) hx hb dX5_addRound_49 (by decide) ?_
    refine call_VUs (pc := 50) (As := [.int (f_X5_isEnvelope σ x1), .int (f_X5_in x2 (1 : Int32) (255 : Int32)), .int (0 : Int32)]) (rest := []) C h (k_X5_goes σ (f_X5_isEnvelope σ x1) (f_X5_in x2 (1 : Int32) (255 : Int32)) (0 : Int32) rfl) cw_X5_123 0 (mW_c0 _ _ _) rfl (mW_fst _ _ _ _) rfl rfl hl.1 (Nat.le_of_ble_eq_true rfl) dX5_addRound_50 ⟨Nat.le_of_ble_eq_true rfl, Nat.le_of_ble_eq_true rfl⟩ rfl rfl ⟨Nat.le_of_ble_eq_true rfl, Nat.le_of_ble_eq_true rfl⟩ (fun H locs h => ?_)
    refine W.eq (g2 := F0 m 53 ls [.int (f_X5_goes σ (f_X5_isEnvelope σ x1) (f_X5_in x2 (1 : Int32) (255 : Int32)) (0 : Int32)).1]) rfl ?_
    refine lv_if_ne (pc := 53) (tgt := 58) hx hb dX5_addRound_53 (by decide) (fun c9 => ?_) (fun c9 => ?_)
    · have hf := ifF c9 hf
      refine lv_aload_n (pc := 58) hx hb dX5_addRound_58 rfl (lv_at hl 1 rfl) ?_
      refine lv_iload_n (pc := 59) hx hb dX5_addRound_59 rfl (lv_at hl 2 rfl) ?_
      obtain ⟨z1, hc1, hf⟩ := bdS hf
      refine call_VRs (pc := 60) (As := [.int x1]) (rest := []) C h (k_X5_all (f_X5_goes σ (f_X5_isEnvelope σ x1) (f_X5_in x2 (1 : Int32) (255 : Int32)) (0 : Int32)).2 x1 hc1) cw_X5_99 0 (mW_c0 _ _ _) rfl rfl rfl hl.1 (Nat.le_of_ble_eq_true rfl) dX5_addRound_60 ⟨Nat.le_of_ble_eq_true rfl, Nat.le_of_ble_eq_true rfl⟩ rfl rfl ⟨Nat.le_of_ble_eq_true rfl, Nat.le_of_ble_eq_true rfl⟩ (fun H locs h => ?_)
      refine W.eq (g2 := F0 m 63 ls [.int z1]) rfl ?_
      refine lv_istore (pc := 63) (lv' := [(4, .int z1), (3, .int (f_X5_isEnvelope σ x1)), (0, .ref (q 0)), (1, .int x1), (2, .int x2)]) hx hb dX5_addRound_63 hl (by decide) rfl (fun ls hl => ?_)
      refine lv_iconst (pc := 65) (v := 0) hx hb dX5_addRound_65 (by decide) ?_
      refine lv_istore (pc := 66) (lv' := [(5, .int (0 : Int32)), (4, .int z1), (3, .int (f_X5_isEnvelope σ x1)), (0, .ref (q 0)), (1, .int x1), (2, .int x2)]) hx hb dX5_addRound_66 hl (by decide) rfl (fun ls hl => ?_)
      obtain ⟨z2, hc2, hf⟩ := bdS hf
      refine l_X5_addRound_68 C _ _ _ _ _ _ _ _ hc2 _ _ _ h (lv_sub hl [3, 4, 5, 2, 1, 0] rfl) (fun H locs ls h hl => ?_)
      refine lv_aload_n (pc := 101) hx hb dX5_addRound_101 rfl (lv_at hl 0 rfl) ?_
      refine g_get (pc := 102) (v := .ref (q 1)) C h.1 0 (mW_c0 _ _ _) fl_X5_7 rfl dX5_addRound_102 ?_
      refine lv_iload_n (pc := 105) hx hb dX5_addRound_105 rfl (lv_at hl 1 rfl) ?_
      obtain ⟨hin, hf⟩ := ifS hf
      refine g_ild (pc := 106) (n := 6) (f := (z2.1 2)) C h.1 1 (mW_c1 _ _ _) hin dX5_addRound_106 ?_
      have hf : (some (((z2.1 2) x1.toNatClampNeg), z2.1)) = some z := hf
      cases hf
      exact ret_iU (pc := 107) C hr h dX5_addRound_107
    · have hf := ifT c9 hf
      refine lv_iconst (pc := 56) (v := 0) hx hb dX5_addRound_56 (by decide) ?_
      have hf : (some ((0 : Int32), (f_X5_goes σ (f_X5_isEnvelope σ x1) (f_X5_in x2 (1 : Int32) (255 : Int32)) (0 : Int32)).2)) = some z := hf
      cases hf
      exact ret_iU (pc := 57) C hr h dX5_addRound_57
  · have hf := ifF c9 hf
    refine lv_aload_n (pc := 20) hx hb dX5_addRound_20 rfl (lv_at hl 1 rfl) ?_
    refine lv_iload_n (pc := 21) hx hb dX5_addRound_21 rfl (lv_at hl 2 rfl) ?_
    refine lv_iconst (pc := 22) (v := 0) hx hb dX5_addRound_22 (by decide) ?_
    obtain ⟨z1, hc1, hf⟩ := bdS hf
    refine call_VUs (pc := 23) (As := [.int x1, .int (0 : Int32)]) (rest := [.int (f_X5_in x2 (1 : Int32) (255 : Int32)), .int (f_X5_isEnvelope σ x1), .ref (q 0)]) C h (k_X5_isIn σ x1 (0 : Int32) hc1) cw_X5_130 0 (mW_c0 _ _ _) rfl (mW_fst _ _ _ _) rfl rfl hl.1 (Nat.le_of_ble_eq_true rfl) dX5_addRound_23 ⟨Nat.le_of_ble_eq_true rfl, Nat.le_of_ble_eq_true rfl⟩ rfl rfl ⟨Nat.le_of_ble_eq_true rfl, Nat.le_of_ble_eq_true rfl⟩ (fun H locs h => ?_)
    refine W.eq (g2 := F0 m 26 ls [.int z1.1, .int (f_X5_in x2 (1 : Int32) (255 : Int32)), .int (f_X5_isEnvelope σ x1), .ref (q 0)]) rfl ?_
    refine lv_if_eq (pc := 26) (tgt := 49) hx hb dX5_addRound_26 (by decide) (fun c9 => ?_) (fun c9 => ?_)
    · have hf := ifT c9 hf
      refine lv_iconst (pc := 49) (v := 0) hx hb dX5_addRound_49 (by decide) ?_
      refine call_VUs (pc := 50) (As := [.int (f_X5_isEnvelope σ x1), .int (f_X5_in x2 (1 : Int32) (255 : Int32)), .int (0 : Int32)]) (rest := []) C h (k_X5_goes z1.2 (f_X5_isEnvelope σ x1) (f_X5_in x2 (1 : Int32) (255 : Int32)) (0 : Int32) rfl) cw_X5_123 0 (mW_c0 _ _ _) rfl (mW_fst _ _ _ _) rfl rfl hl.1 (Nat.le_of_ble_eq_true rfl) dX5_addRound_50 ⟨Nat.le_of_ble_eq_true rfl, Nat.le_of_ble_eq_true rfl⟩ rfl rfl ⟨Nat.le_of_ble_eq_true rfl, Nat.le_of_ble_eq_true rfl⟩ (fun H locs h => ?_)
      refine W.eq (g2 := F0 m 53 ls [.int (f_X5_goes z1.2 (f_X5_isEnvelope σ x1) (f_X5_in x2 (1 : Int32) (255 : Int32)) (0 : Int32)).1]) rfl ?_
      refine lv_if_ne (pc := 53) (tgt := 58) hx hb dX5_addRound_53 (by decide) (fun c9 => ?_) (fun c9 => ?_)
      · have hf := ifF c9 hf
        refine lv_aload_n (pc := 58) hx hb dX5_addRound_58 rfl (lv_at hl 1 rfl) ?_
        refine lv_iload_n (pc := 59) hx hb dX5_addRound_59 rfl (lv_at hl 2 rfl) ?_
        obtain ⟨z2, hc2, hf⟩ := bdS hf
        refine call_VRs (pc := 60) (As := [.int x1]) (rest := []) C h (k_X5_all (f_X5_goes z1.2 (f_X5_isEnvelope σ x1) (f_X5_in x2 (1 : Int32) (255 : Int32)) (0 : Int32)).2 x1 hc2) cw_X5_99 0 (mW_c0 _ _ _) rfl rfl rfl hl.1 (Nat.le_of_ble_eq_true rfl) dX5_addRound_60 ⟨Nat.le_of_ble_eq_true rfl, Nat.le_of_ble_eq_true rfl⟩ rfl rfl ⟨Nat.le_of_ble_eq_true rfl, Nat.le_of_ble_eq_true rfl⟩ (fun H locs h => ?_)
        refine W.eq (g2 := F0 m 63 ls [.int z2]) rfl ?_
        refine lv_istore (pc := 63) (lv' := [(4, .int z2), (3, .int (f_X5_isEnvelope σ x1)), (0, .ref (q 0)), (1, .int x1), (2, .int x2)]) hx hb dX5_addRound_63 hl (by decide) rfl (fun ls hl => ?_)
        refine lv_iconst (pc := 65) (v := 0) hx hb dX5_addRound_65 (by decide) ?_
        refine lv_istore (pc := 66) (lv' := [(5, .int (0 : Int32)), (4, .int z2), (3, .int (f_X5_isEnvelope σ x1)), (0, .ref (q 0)), (1, .int x1), (2, .int x2)]) hx hb dX5_addRound_66 hl (by decide) rfl (fun ls hl => ?_)
        obtain ⟨z3, hc3, hf⟩ := bdS hf
        refine l_X5_addRound_68 C _ _ _ _ _ _ _ _ hc3 _ _ _ h (lv_sub hl [3, 4, 5, 2, 1, 0] rfl) (fun H locs ls h hl => ?_)
        refine lv_aload_n (pc := 101) hx hb dX5_addRound_101 rfl (lv_at hl 0 rfl) ?_
        refine g_get (pc := 102) (v := .ref (q 1)) C h.1 0 (mW_c0 _ _ _) fl_X5_7 rfl dX5_addRound_102 ?_
        refine lv_iload_n (pc := 105) hx hb dX5_addRound_105 rfl (lv_at hl 1 rfl) ?_
        obtain ⟨hin, hf⟩ := ifS hf
        refine g_ild (pc := 106) (n := 6) (f := (z3.1 2)) C h.1 1 (mW_c1 _ _ _) hin dX5_addRound_106 ?_
        have hf : (some (((z3.1 2) x1.toNatClampNeg), z3.1)) = some z := hf
        cases hf
        exact ret_iU (pc := 107) C hr h dX5_addRound_107
      · have hf := ifT c9 hf
        refine lv_iconst (pc := 56) (v := 0) hx hb dX5_addRound_56 (by decide) ?_
        have hf : (some ((0 : Int32), (f_X5_goes z1.2 (f_X5_isEnvelope σ x1) (f_X5_in x2 (1 : Int32) (255 : Int32)) (0 : Int32)).2)) = some z := hf
        cases hf
        exact ret_iU (pc := 57) C hr h dX5_addRound_57
    · have hf := ifF c9 hf
      refine lv_aload_n (pc := 29) hx hb dX5_addRound_29 rfl (lv_at hl 1 rfl) ?_
      refine g_get (pc := 30) (v := .ref (q 1)) C h.1 0 (mW_c0 _ _ _) fl_X5_7 rfl dX5_addRound_30 ?_
      refine lv_iload_n (pc := 33) hx hb dX5_addRound_33 rfl (lv_at hl 2 rfl) ?_
      obtain ⟨hin, hf⟩ := ifS hf
      refine g_ild (pc := 34) (n := 6) (f := (z1.2 2)) C h.1 1 (mW_c1 _ _ _) hin dX5_addRound_34 ?_
      refine lv_iload_n (pc := 35) hx hb dX5_addRound_35 rfl (lv_at hl 3 rfl) ?_
      obtain ⟨z2, hc2, hf⟩ := bdS hf
      refine call_SR (pc := 36) (As := [.int x2]) (rest := [.int ((z1.2 2) x1.toNatClampNeg), .int (f_X5_in x2 (1 : Int32) (255 : Int32)), .int (f_X5_isEnvelope σ x1), .ref (q 0)]) (wc := []) C h (k_X5_many x2 hc2) cw_X5_120 [] rfl rfl rfl rfl hl.1 (Nat.le_of_ble_eq_true rfl) dX5_addRound_36 ⟨Nat.le_of_ble_eq_true rfl, Nat.le_of_ble_eq_true rfl⟩ rfl rfl ⟨Nat.le_of_ble_eq_true rfl, Nat.le_of_ble_eq_true rfl⟩ (fun H locs h => ?_)
      refine W.eq (g2 := F0 m 39 ls [.int z2, .int ((z1.2 2) x1.toNatClampNeg), .int (f_X5_in x2 (1 : Int32) (255 : Int32)), .int (f_X5_isEnvelope σ x1), .ref (q 0)]) rfl ?_
      refine lv_iadd (pc := 39) hx hb dX5_addRound_39 ?_
      refine lv_bipush (pc := 40) (v := 8) hx hb dX5_addRound_40 (by decide) ?_
      refine lv_icmp_gt (pc := 42) (tgt := 49) hx hb dX5_addRound_42 (by decide) (fun c9 => ?_) (fun c9 => ?_)
      · have hf := ifT c9 hf
        refine lv_iconst (pc := 49) (v := 0) hx hb dX5_addRound_49 (by decide) ?_
        refine call_VUs (pc := 50) (As := [.int (f_X5_isEnvelope σ x1), .int (f_X5_in x2 (1 : Int32) (255 : Int32)), .int (0 : Int32)]) (rest := []) C h (k_X5_goes z1.2 (f_X5_isEnvelope σ x1) (f_X5_in x2 (1 : Int32) (255 : Int32)) (0 : Int32) rfl) cw_X5_123 0 (mW_c0 _ _ _) rfl (mW_fst _ _ _ _) rfl rfl hl.1 (Nat.le_of_ble_eq_true rfl) dX5_addRound_50 ⟨Nat.le_of_ble_eq_true rfl, Nat.le_of_ble_eq_true rfl⟩ rfl rfl ⟨Nat.le_of_ble_eq_true rfl, Nat.le_of_ble_eq_true rfl⟩ (fun H locs h => ?_)
        refine W.eq (g2 := F0 m 53 ls [.int (f_X5_goes z1.2 (f_X5_isEnvelope σ x1) (f_X5_in x2 (1 : Int32) (255 : Int32)) (0 : Int32)).1]) rfl ?_
        refine lv_if_ne (pc := 53) (tgt := 58) hx hb dX5_addRound_53 (by decide) (fun c9 => ?_) (fun c9 => ?_)
        · have hf := ifF c9 hf
          refine lv_aload_n (pc := 58) hx hb dX5_addRound_58 rfl (lv_at hl 1 rfl) ?_
          refine lv_iload_n (pc := 59) hx hb dX5_addRound_59 rfl (lv_at hl 2 rfl) ?_
          obtain ⟨z3, hc3, hf⟩ := bdS hf
          refine call_VRs (pc := 60) (As := [.int x1]) (rest := []) C h (k_X5_all (f_X5_goes z1.2 (f_X5_isEnvelope σ x1) (f_X5_in x2 (1 : Int32) (255 : Int32)) (0 : Int32)).2 x1 hc3) cw_X5_99 0 (mW_c0 _ _ _) rfl rfl rfl hl.1 (Nat.le_of_ble_eq_true rfl) dX5_addRound_60 ⟨Nat.le_of_ble_eq_true rfl, Nat.le_of_ble_eq_true rfl⟩ rfl rfl ⟨Nat.le_of_ble_eq_true rfl, Nat.le_of_ble_eq_true rfl⟩ (fun H locs h => ?_)
          refine W.eq (g2 := F0 m 63 ls [.int z3]) rfl ?_
          refine lv_istore (pc := 63) (lv' := [(4, .int z3), (3, .int (f_X5_isEnvelope σ x1)), (0, .ref (q 0)), (1, .int x1), (2, .int x2)]) hx hb dX5_addRound_63 hl (by decide) rfl (fun ls hl => ?_)
          refine lv_iconst (pc := 65) (v := 0) hx hb dX5_addRound_65 (by decide) ?_
          refine lv_istore (pc := 66) (lv' := [(5, .int (0 : Int32)), (4, .int z3), (3, .int (f_X5_isEnvelope σ x1)), (0, .ref (q 0)), (1, .int x1), (2, .int x2)]) hx hb dX5_addRound_66 hl (by decide) rfl (fun ls hl => ?_)
          obtain ⟨z4, hc4, hf⟩ := bdS hf
          refine l_X5_addRound_68 C _ _ _ _ _ _ _ _ hc4 _ _ _ h (lv_sub hl [3, 4, 5, 2, 1, 0] rfl) (fun H locs ls h hl => ?_)
          refine lv_aload_n (pc := 101) hx hb dX5_addRound_101 rfl (lv_at hl 0 rfl) ?_
          refine g_get (pc := 102) (v := .ref (q 1)) C h.1 0 (mW_c0 _ _ _) fl_X5_7 rfl dX5_addRound_102 ?_
          refine lv_iload_n (pc := 105) hx hb dX5_addRound_105 rfl (lv_at hl 1 rfl) ?_
          obtain ⟨hin, hf⟩ := ifS hf
          refine g_ild (pc := 106) (n := 6) (f := (z4.1 2)) C h.1 1 (mW_c1 _ _ _) hin dX5_addRound_106 ?_
          have hf : (some (((z4.1 2) x1.toNatClampNeg), z4.1)) = some z := hf
          cases hf
          exact ret_iU (pc := 107) C hr h dX5_addRound_107
        · have hf := ifT c9 hf
          refine lv_iconst (pc := 56) (v := 0) hx hb dX5_addRound_56 (by decide) ?_
          have hf : (some ((0 : Int32), (f_X5_goes z1.2 (f_X5_isEnvelope σ x1) (f_X5_in x2 (1 : Int32) (255 : Int32)) (0 : Int32)).2)) = some z := hf
          cases hf
          exact ret_iU (pc := 57) C hr h dX5_addRound_57
      · have hf := ifF c9 hf
        refine lv_iconst (pc := 45) (v := 1) hx hb dX5_addRound_45 (by decide) ?_
        refine lv_goto (pc := 46) (tgt := 50) hx hb dX5_addRound_46 (by decide) ?_
        refine call_VUs (pc := 50) (As := [.int (f_X5_isEnvelope σ x1), .int (f_X5_in x2 (1 : Int32) (255 : Int32)), .int (1 : Int32)]) (rest := []) C h (k_X5_goes z1.2 (f_X5_isEnvelope σ x1) (f_X5_in x2 (1 : Int32) (255 : Int32)) (1 : Int32) rfl) cw_X5_123 0 (mW_c0 _ _ _) rfl (mW_fst _ _ _ _) rfl rfl hl.1 (Nat.le_of_ble_eq_true rfl) dX5_addRound_50 ⟨Nat.le_of_ble_eq_true rfl, Nat.le_of_ble_eq_true rfl⟩ rfl rfl ⟨Nat.le_of_ble_eq_true rfl, Nat.le_of_ble_eq_true rfl⟩ (fun H locs h => ?_)
        refine W.eq (g2 := F0 m 53 ls [.int (f_X5_goes z1.2 (f_X5_isEnvelope σ x1) (f_X5_in x2 (1 : Int32) (255 : Int32)) (1 : Int32)).1]) rfl ?_
        refine lv_if_ne (pc := 53) (tgt := 58) hx hb dX5_addRound_53 (by decide) (fun c9 => ?_) (fun c9 => ?_)
        · have hf := ifF c9 hf
          refine lv_aload_n (pc := 58) hx hb dX5_addRound_58 rfl (lv_at hl 1 rfl) ?_
          refine lv_iload_n (pc := 59) hx hb dX5_addRound_59 rfl (lv_at hl 2 rfl) ?_
          obtain ⟨z3, hc3, hf⟩ := bdS hf
          refine call_VRs (pc := 60) (As := [.int x1]) (rest := []) C h (k_X5_all (f_X5_goes z1.2 (f_X5_isEnvelope σ x1) (f_X5_in x2 (1 : Int32) (255 : Int32)) (1 : Int32)).2 x1 hc3) cw_X5_99 0 (mW_c0 _ _ _) rfl rfl rfl hl.1 (Nat.le_of_ble_eq_true rfl) dX5_addRound_60 ⟨Nat.le_of_ble_eq_true rfl, Nat.le_of_ble_eq_true rfl⟩ rfl rfl ⟨Nat.le_of_ble_eq_true rfl, Nat.le_of_ble_eq_true rfl⟩ (fun H locs h => ?_)
          refine W.eq (g2 := F0 m 63 ls [.int z3]) rfl ?_
          refine lv_istore (pc := 63) (lv' := [(4, .int z3), (3, .int (f_X5_isEnvelope σ x1)), (0, .ref (q 0)), (1, .int x1), (2, .int x2)]) hx hb dX5_addRound_63 hl (by decide) rfl (fun ls hl => ?_)
          refine lv_iconst (pc := 65) (v := 0) hx hb dX5_addRound_65 (by decide) ?_
          refine lv_istore (pc := 66) (lv' := [(5, .int (0 : Int32)), (4, .int z3), (3, .int (f_X5_isEnvelope σ x1)), (0, .ref (q 0)), (1, .int x1), (2, .int x2)]) hx hb dX5_addRound_66 hl (by decide) rfl (fun ls hl => ?_)
          obtain ⟨z4, hc4, hf⟩ := bdS hf
          refine l_X5_addRound_68 C _ _ _ _ _ _ _ _ hc4 _ _ _ h (lv_sub hl [3, 4, 5, 2, 1, 0] rfl) (fun H locs ls h hl => ?_)
          refine lv_aload_n (pc := 101) hx hb dX5_addRound_101 rfl (lv_at hl 0 rfl) ?_
          refine g_get (pc := 102) (v := .ref (q 1)) C h.1 0 (mW_c0 _ _ _) fl_X5_7 rfl dX5_addRound_102 ?_
          refine lv_iload_n (pc := 105) hx hb dX5_addRound_105 rfl (lv_at hl 1 rfl) ?_
          obtain ⟨hin, hf⟩ := ifS hf
          refine g_ild (pc := 106) (n := 6) (f := (z4.1 2)) C h.1 1 (mW_c1 _ _ _) hin dX5_addRound_106 ?_
          have hf : (some (((z4.1 2) x1.toNatClampNeg), z4.1)) = some z := hf
          cases hf
          exact ret_iU (pc := 107) C hr h dX5_addRound_107
        · have hf := ifT c9 hf
          refine lv_iconst (pc := 56) (v := 0) hx hb dX5_addRound_56 (by decide) ?_
          have hf : (some ((0 : Int32), (f_X5_goes z1.2 (f_X5_isEnvelope σ x1) (f_X5_in x2 (1 : Int32) (255 : Int32)) (1 : Int32)).2)) = some z := hf
          cases hf
          exact ret_iU (pc := 57) C hr h dX5_addRound_57
abbrev rm_X5_setTimes : Room := { frames := 5, cells := 0, slots := 0, locals := 111 }
def f_X5_setTimes (σ : Nat → Nat → Int32) (x1 x2 x3 : Int32) : Option ((Nat → Nat → Int32)) := (if (f_X5_in x2 (0 : Int32) (30 : Int32)) = 0 then (if (f_X5_isEnvelope σ x1) = 0 then (if (f_X5_goes σ (f_X5_isEnvelope σ x1) (0 : Int32) (0 : Int32)).1 = 0 then (some (f_X5_goes σ (f_X5_isEnvelope σ x1) (0 : Int32) (0 : Int32)).2) else (if inb x1 6 then (lt (va_up (f_X5_goes σ (f_X5_isEnvelope σ x1) (0 : Int32) (0 : Int32)).2 3 (upd ((f_X5_goes σ (f_X5_isEnvelope σ x1) (0 : Int32) (0 : Int32)).2 3) x1.toNatClampNeg x2)) fun t1 => (if inb x1 6 then (lt (va_up t1 4 (upd (t1 4) x1.toNatClampNeg x3)) fun t2 => (some t2)) else none)) else none)) else ((f_X5_isIn σ x1 (0 : Int32)).bind fun z1 => (if z1.1 = 0 then (if (f_X5_goes z1.2 (f_X5_isEnvelope σ x1) (0 : Int32) (0 : Int32)).1 = 0 then (some (f_X5_goes z1.2 (f_X5_isEnvelope σ x1) (0 : Int32) (0 : Int32)).2) else (if inb x1 6 then (lt (va_up (f_X5_goes z1.2 (f_X5_isEnvelope σ x1) (0 : Int32) (0 : Int32)).2 3 (upd ((f_X5_goes z1.2 (f_X5_isEnvelope σ x1) (0 : Int32) (0 : Int32)).2 3) x1.toNatClampNeg x2)) fun t2 => (if inb x1 6 then (lt (va_up t2 4 (upd (t2 4) x1.toNatClampNeg x3)) fun t3 => (some t3)) else none)) else none)) else (if (f_X5_goes z1.2 (f_X5_isEnvelope σ x1) (0 : Int32) (1 : Int32)).1 = 0 then (some (f_X5_goes z1.2 (f_X5_isEnvelope σ x1) (0 : Int32) (1 : Int32)).2) else (if inb x1 6 then (lt (va_up (f_X5_goes z1.2 (f_X5_isEnvelope σ x1) (0 : Int32) (1 : Int32)).2 3 (upd ((f_X5_goes z1.2 (f_X5_isEnvelope σ x1) (0 : Int32) (1 : Int32)).2 3) x1.toNatClampNeg x2)) fun t2 => (if inb x1 6 then (lt (va_up t2 4 (upd (t2 4) x1.toNatClampNeg x3)) fun t3 => (some t3)) else none)) else none))))) else (if (f_X5_in x3 (0 : Int32) (60 : Int32)) = 0 then (if (f_X5_isEnvelope σ x1) = 0 then (if (f_X5_goes σ (f_X5_isEnvelope σ x1) (0 : Int32) (0 : Int32)).1 = 0 then (some (f_X5_goes σ (f_X5_isEnvelope σ x1) (0 : Int32) (0 : Int32)).2) else (if inb x1 6 then (lt (va_up (f_X5_goes σ (f_X5_isEnvelope σ x1) (0 : Int32) (0 : Int32)).2 3 (upd ((f_X5_goes σ (f_X5_isEnvelope σ x1) (0 : Int32) (0 : Int32)).2 3) x1.toNatClampNeg x2)) fun t1 => (if inb x1 6 then (lt (va_up t1 4 (upd (t1 4) x1.toNatClampNeg x3)) fun t2 => (some t2)) else none)) else none)) else ((f_X5_isIn σ x1 (0 : Int32)).bind fun z1 => (if z1.1 = 0 then (if (f_X5_goes z1.2 (f_X5_isEnvelope σ x1) (0 : Int32) (0 : Int32)).1 = 0 then (some (f_X5_goes z1.2 (f_X5_isEnvelope σ x1) (0 : Int32) (0 : Int32)).2) else (if inb x1 6 then (lt (va_up (f_X5_goes z1.2 (f_X5_isEnvelope σ x1) (0 : Int32) (0 : Int32)).2 3 (upd ((f_X5_goes z1.2 (f_X5_isEnvelope σ x1) (0 : Int32) (0 : Int32)).2 3) x1.toNatClampNeg x2)) fun t2 => (if inb x1 6 then (lt (va_up t2 4 (upd (t2 4) x1.toNatClampNeg x3)) fun t3 => (some t3)) else none)) else none)) else (if (f_X5_goes z1.2 (f_X5_isEnvelope σ x1) (0 : Int32) (1 : Int32)).1 = 0 then (some (f_X5_goes z1.2 (f_X5_isEnvelope σ x1) (0 : Int32) (1 : Int32)).2) else (if inb x1 6 then (lt (va_up (f_X5_goes z1.2 (f_X5_isEnvelope σ x1) (0 : Int32) (1 : Int32)).2 3 (upd ((f_X5_goes z1.2 (f_X5_isEnvelope σ x1) (0 : Int32) (1 : Int32)).2 3) x1.toNatClampNeg x2)) fun t2 => (if inb x1 6 then (lt (va_up t2 4 (upd (t2 4) x1.toNatClampNeg x3)) fun t3 => (some t3)) else none)) else none))))) else (if (f_X5_isEnvelope σ x1) = 0 then (if (f_X5_goes σ (f_X5_isEnvelope σ x1) (1 : Int32) (0 : Int32)).1 = 0 then (some (f_X5_goes σ (f_X5_isEnvelope σ x1) (1 : Int32) (0 : Int32)).2) else (if inb x1 6 then (lt (va_up (f_X5_goes σ (f_X5_isEnvelope σ x1) (1 : Int32) (0 : Int32)).2 3 (upd ((f_X5_goes σ (f_X5_isEnvelope σ x1) (1 : Int32) (0 : Int32)).2 3) x1.toNatClampNeg x2)) fun t1 => (if inb x1 6 then (lt (va_up t1 4 (upd (t1 4) x1.toNatClampNeg x3)) fun t2 => (some t2)) else none)) else none)) else ((f_X5_isIn σ x1 (0 : Int32)).bind fun z1 => (if z1.1 = 0 then (if (f_X5_goes z1.2 (f_X5_isEnvelope σ x1) (1 : Int32) (0 : Int32)).1 = 0 then (some (f_X5_goes z1.2 (f_X5_isEnvelope σ x1) (1 : Int32) (0 : Int32)).2) else (if inb x1 6 then (lt (va_up (f_X5_goes z1.2 (f_X5_isEnvelope σ x1) (1 : Int32) (0 : Int32)).2 3 (upd ((f_X5_goes z1.2 (f_X5_isEnvelope σ x1) (1 : Int32) (0 : Int32)).2 3) x1.toNatClampNeg x2)) fun t2 => (if inb x1 6 then (lt (va_up t2 4 (upd (t2 4) x1.toNatClampNeg x3)) fun t3 => (some t3)) else none)) else none)) else (if (f_X5_goes z1.2 (f_X5_isEnvelope σ x1) (1 : Int32) (1 : Int32)).1 = 0 then (some (f_X5_goes z1.2 (f_X5_isEnvelope σ x1) (1 : Int32) (1 : Int32)).2) else (if inb x1 6 then (lt (va_up (f_X5_goes z1.2 (f_X5_isEnvelope σ x1) (1 : Int32) (1 : Int32)).2 3 (upd ((f_X5_goes z1.2 (f_X5_isEnvelope σ x1) (1 : Int32) (1 : Int32)).2 3) x1.toNatClampNeg x2)) fun t2 => (if inb x1 6 then (lt (va_up t2 4 (upd (t2 4) x1.toNatClampNeg x3)) fun t3 => (some t3)) else none)) else none)))))))
set_option maxHeartbeats 400000 in
set_option maxRecDepth 100000 in
theorem k_X5_setTimes {q : Nat → Nat} {cA : Nat → ClassId} {D : va_G} (σ : Nat → Nat → Int32) (x1 x2 x3 : Int32) {z : (Nat → Nat → Int32)} (hf : f_X5_setTimes σ x1 x2 x3 = some z) : CtU yX5_setTimes cX5_setTimes 5 none rm_X5_setTimes [.ref (q 0), .int x1, .int x2, .int x3] D cA (mW q cA σ) (mW q cA z) none 0 0 := by
  refine ctU_of (by decide) (Nat.le_of_ble_eq_true rfl) ?_
  intro p l e s m below meth c ls C hr hnm h hl
  have C : Cx p s m _ meth c cX5_setTimes 5 RX5 D cA := C
  obtain ⟨hx, hb, hml, hown, hts, hK, hlk⟩ := id C
  replace hl : lv_has ls 5 [(0, .ref (q 0)), (1, .int x1), (2, .int x2), (3, .int x3)] := hl
  rw [f_X5_setTimes] at hf
  refine lv_aload_n (pc := 0) hx hb dX5_setTimes_0 rfl (lv_at hl 0 rfl) ?_
  refine lv_iload_n (pc := 1) hx hb dX5_setTimes_1 rfl (lv_at hl 1 rfl) ?_
  refine call_VRs (pc := 2) (As := [.int x1]) (rest := []) C h (k_X5_isEnvelope σ x1 rfl) cw_X5_78 0 (mW_c0 _ _ _) rfl rfl rfl hl.1 (Nat.le_of_ble_eq_true rfl) dX5_setTimes_2 ⟨Nat.le_of_ble_eq_true rfl, Nat.le_of_ble_eq_true rfl⟩ rfl rfl ⟨Nat.le_of_ble_eq_true rfl, Nat.le_of_ble_eq_true rfl⟩ (fun H locs h => ?_)
  refine W.eq (g2 := F0 m 5 ls [.int (f_X5_isEnvelope σ x1)]) rfl ?_
  refine lv_istore (pc := 5) (lv' := [(4, .int (f_X5_isEnvelope σ x1)), (0, .ref (q 0)), (1, .int x1), (2, .int x2), (3, .int x3)]) hx hb dX5_setTimes_5 hl (by decide) rfl (fun ls hl => ?_)
  refine lv_aload_n (pc := 7) hx hb dX5_setTimes_7 rfl (lv_at hl 1 rfl) ?_
  refine lv_iload (pc := 8) hx hb dX5_setTimes_8 (lv_at hl 0 rfl) ?_
  refine lv_iload_n (pc := 10) hx hb dX5_setTimes_10 rfl (lv_at hl 3 rfl) ?_
  refine lv_iconst (pc := 11) (v := 0) hx hb dX5_setTimes_11 (by decide) ?_
  refine lv_bipush (pc := 12) (v := 30) hx hb dX5_setTimes_12 (by decide) ?_
  refine call_SR (pc := 14) (As := [.int x2, .int (0 : Int32), .int (30 : Int32)]) (rest := [.int (f_X5_isEnvelope σ x1), .ref (q 0)]) (wc := []) C h (k_X5_in x2 (0 : Int32) (30 : Int32) rfl) cw_X5_71 [] rfl rfl rfl rfl hl.1 (Nat.le_of_ble_eq_true rfl) dX5_setTimes_14 ⟨Nat.le_of_ble_eq_true rfl, Nat.le_of_ble_eq_true rfl⟩ rfl rfl ⟨Nat.le_of_ble_eq_true rfl, Nat.le_of_ble_eq_true rfl⟩ (fun H locs h => ?_)
  refine W.eq (g2 := F0 m 17 ls [.int (f_X5_in x2 (0 : Int32) (30 : Int32)), .int (f_X5_isEnvelope σ x1), .ref (q 0)]) rfl ?_
  refine lv_if_eq (pc := 17) (tgt := 34) hx hb dX5_setTimes_17 (by decide) (fun c9 => ?_) (fun c9 => ?_)
  · have hf := ifT c9 hf
    refine lv_iconst (pc := 34) (v := 0) hx hb dX5_setTimes_34 (by decide) ?_
    refine lv_iload (pc := 35) hx hb dX5_setTimes_35 (lv_at hl 0 rfl) ?_
    refine lv_if_eq (pc := 37) (tgt := 53) hx hb dX5_setTimes_37 (by decide) (fun c9 => ?_) (fun c9 => ?_)
    · have hf := ifT c9 hf
      refine lv_iconst (pc := 53) (v := 0) hx hb dX5_setTimes_53 (by decide) ?_
      refine call_VUs (pc := 54) (As := [.int (f_X5_isEnvelope σ x1), .int (0 : Int32), .int (0 : Int32)]) (rest := []) C h (k_X5_goes σ (f_X5_isEnvelope σ x1) (0 : Int32) (0 : Int32) rfl) cw_X5_123 0 (mW_c0 _ _ _) rfl (mW_fst _ _ _ _) rfl rfl hl.1 (Nat.le_of_ble_eq_true rfl) dX5_setTimes_54 ⟨Nat.le_of_ble_eq_true rfl, Nat.le_of_ble_eq_true rfl⟩ rfl rfl ⟨Nat.le_of_ble_eq_true rfl, Nat.le_of_ble_eq_true rfl⟩ (fun H locs h => ?_)
      refine W.eq (g2 := F0 m 57 ls [.int (f_X5_goes σ (f_X5_isEnvelope σ x1) (0 : Int32) (0 : Int32)).1]) rfl ?_
      refine lv_if_eq (pc := 57) (tgt := 74) hx hb dX5_setTimes_57 (by decide) (fun c9 => ?_) (fun c9 => ?_)
      · have hf := ifT c9 hf
        have hf : (some (f_X5_goes σ (f_X5_isEnvelope σ x1) (0 : Int32) (0 : Int32)).2) = some z := hf
        cases hf
        exact ret_vU (pc := 74) C hr h dX5_setTimes_74
      · have hf := ifF c9 hf
        refine lv_aload_n (pc := 60) hx hb dX5_setTimes_60 rfl (lv_at hl 1 rfl) ?_
        refine g_get (pc := 61) (v := .ref (q 2)) C h.1 0 (mW_c0 _ _ _) fl_X5_13 rfl dX5_setTimes_61 ?_
        refine lv_iload_n (pc := 64) hx hb dX5_setTimes_64 rfl (lv_at hl 2 rfl) ?_
        refine lv_iload_n (pc := 65) hx hb dX5_setTimes_65 rfl (lv_at hl 3 rfl) ?_
        obtain ⟨hin, hf⟩ := ifS hf
        obtain ⟨t1, et1, hf⟩ := ltS hf
        refine g_ist (pc := 66) (n := 6) (f := ((f_X5_goes σ (f_X5_isEnvelope σ x1) (0 : Int32) (0 : Int32)).2 3)) (ws' := (mW q cA t1)) C h 2 (mW_c2 _ _ _) hin ((mW_w2 _ _ _ _).trans (congrArg (mW q cA) et1.symm)) dX5_setTimes_66 (fun H locs h => ?_)
        refine lv_aload_n (pc := 67) hx hb dX5_setTimes_67 rfl (lv_at hl 1 rfl) ?_
        refine g_get (pc := 68) (v := .ref (q 3)) C h.1 0 (mW_c0 _ _ _) fl_X5_16 rfl dX5_setTimes_68 ?_
        refine lv_iload_n (pc := 71) hx hb dX5_setTimes_71 rfl (lv_at hl 2 rfl) ?_
        refine lv_iload_n (pc := 72) hx hb dX5_setTimes_72 rfl (lv_at hl 4 rfl) ?_
        obtain ⟨hin, hf⟩ := ifS hf
        obtain ⟨t2, et2, hf⟩ := ltS hf
        refine g_ist (pc := 73) (n := 6) (f := (t1 4)) (ws' := (mW q cA t2)) C h 3 (mW_c3 _ _ _) hin ((mW_w3 _ _ _ _).trans (congrArg (mW q cA) et2.symm)) dX5_setTimes_73 (fun H locs h => ?_)
        have hf : (some t2) = some z := hf
        cases hf
        exact ret_vU (pc := 74) C hr h dX5_setTimes_74
    · have hf := ifF c9 hf
      refine lv_aload_n (pc := 40) hx hb dX5_setTimes_40 rfl (lv_at hl 1 rfl) ?_
      refine lv_iload_n (pc := 41) hx hb dX5_setTimes_41 rfl (lv_at hl 2 rfl) ?_
      refine lv_iconst (pc := 42) (v := 0) hx hb dX5_setTimes_42 (by decide) ?_
      obtain ⟨z1, hc1, hf⟩ := bdS hf
      refine call_VUs (pc := 43) (As := [.int x1, .int (0 : Int32)]) (rest := [.int (0 : Int32), .int (f_X5_isEnvelope σ x1), .ref (q 0)]) C h (k_X5_isIn σ x1 (0 : Int32) hc1) cw_X5_130 0 (mW_c0 _ _ _) rfl (mW_fst _ _ _ _) rfl rfl hl.1 (Nat.le_of_ble_eq_true rfl) dX5_setTimes_43 ⟨Nat.le_of_ble_eq_true rfl, Nat.le_of_ble_eq_true rfl⟩ rfl rfl ⟨Nat.le_of_ble_eq_true rfl, Nat.le_of_ble_eq_true rfl⟩ (fun H locs h => ?_)
      refine W.eq (g2 := F0 m 46 ls [.int z1.1, .int (0 : Int32), .int (f_X5_isEnvelope σ x1), .ref (q 0)]) rfl ?_
      refine lv_if_eq (pc := 46) (tgt := 53) hx hb dX5_setTimes_46 (by decide) (fun c9 => ?_) (fun c9 => ?_)
      · have hf := ifT c9 hf
        refine lv_iconst (pc := 53) (v := 0) hx hb dX5_setTimes_53 (by decide) ?_
        refine call_VUs (pc := 54) (As := [.int (f_X5_isEnvelope σ x1), .int (0 : Int32), .int (0 : Int32)]) (rest := []) C h (k_X5_goes z1.2 (f_X5_isEnvelope σ x1) (0 : Int32) (0 : Int32) rfl) cw_X5_123 0 (mW_c0 _ _ _) rfl (mW_fst _ _ _ _) rfl rfl hl.1 (Nat.le_of_ble_eq_true rfl) dX5_setTimes_54 ⟨Nat.le_of_ble_eq_true rfl, Nat.le_of_ble_eq_true rfl⟩ rfl rfl ⟨Nat.le_of_ble_eq_true rfl, Nat.le_of_ble_eq_true rfl⟩ (fun H locs h => ?_)
        refine W.eq (g2 := F0 m 57 ls [.int (f_X5_goes z1.2 (f_X5_isEnvelope σ x1) (0 : Int32) (0 : Int32)).1]) rfl ?_
        refine lv_if_eq (pc := 57) (tgt := 74) hx hb dX5_setTimes_57 (by decide) (fun c9 => ?_) (fun c9 => ?_)
        · have hf := ifT c9 hf
          have hf : (some (f_X5_goes z1.2 (f_X5_isEnvelope σ x1) (0 : Int32) (0 : Int32)).2) = some z := hf
          cases hf
          exact ret_vU (pc := 74) C hr h dX5_setTimes_74
        · have hf := ifF c9 hf
          refine lv_aload_n (pc := 60) hx hb dX5_setTimes_60 rfl (lv_at hl 1 rfl) ?_
          refine g_get (pc := 61) (v := .ref (q 2)) C h.1 0 (mW_c0 _ _ _) fl_X5_13 rfl dX5_setTimes_61 ?_
          refine lv_iload_n (pc := 64) hx hb dX5_setTimes_64 rfl (lv_at hl 2 rfl) ?_
          refine lv_iload_n (pc := 65) hx hb dX5_setTimes_65 rfl (lv_at hl 3 rfl) ?_
          obtain ⟨hin, hf⟩ := ifS hf
          obtain ⟨t2, et2, hf⟩ := ltS hf
          refine g_ist (pc := 66) (n := 6) (f := ((f_X5_goes z1.2 (f_X5_isEnvelope σ x1) (0 : Int32) (0 : Int32)).2 3)) (ws' := (mW q cA t2)) C h 2 (mW_c2 _ _ _) hin ((mW_w2 _ _ _ _).trans (congrArg (mW q cA) et2.symm)) dX5_setTimes_66 (fun H locs h => ?_)
          refine lv_aload_n (pc := 67) hx hb dX5_setTimes_67 rfl (lv_at hl 1 rfl) ?_
          refine g_get (pc := 68) (v := .ref (q 3)) C h.1 0 (mW_c0 _ _ _) fl_X5_16 rfl dX5_setTimes_68 ?_
          refine lv_iload_n (pc := 71) hx hb dX5_setTimes_71 rfl (lv_at hl 2 rfl) ?_
          refine lv_iload_n (pc := 72) hx hb dX5_setTimes_72 rfl (lv_at hl 4 rfl) ?_
          obtain ⟨hin, hf⟩ := ifS hf
          obtain ⟨t3, et3, hf⟩ := ltS hf
          refine g_ist (pc := 73) (n := 6) (f := (t2 4)) (ws' := (mW q cA t3)) C h 3 (mW_c3 _ _ _) hin ((mW_w3 _ _ _ _).trans (congrArg (mW q cA) et3.symm)) dX5_setTimes_73 (fun H locs h => ?_)
          have hf : (some t3) = some z := hf
          cases hf
          exact ret_vU (pc := 74) C hr h dX5_setTimes_74
      · have hf := ifF c9 hf
        refine lv_iconst (pc := 49) (v := 1) hx hb dX5_setTimes_49 (by decide) ?_
        refine lv_goto (pc := 50) (tgt := 54) hx hb dX5_setTimes_50 (by decide) ?_
        refine call_VUs (pc := 54) (As := [.int (f_X5_isEnvelope σ x1), .int (0 : Int32), .int (1 : Int32)]) (rest := []) C h (k_X5_goes z1.2 (f_X5_isEnvelope σ x1) (0 : Int32) (1 : Int32) rfl) cw_X5_123 0 (mW_c0 _ _ _) rfl (mW_fst _ _ _ _) rfl rfl hl.1 (Nat.le_of_ble_eq_true rfl) dX5_setTimes_54 ⟨Nat.le_of_ble_eq_true rfl, Nat.le_of_ble_eq_true rfl⟩ rfl rfl ⟨Nat.le_of_ble_eq_true rfl, Nat.le_of_ble_eq_true rfl⟩ (fun H locs h => ?_)
        refine W.eq (g2 := F0 m 57 ls [.int (f_X5_goes z1.2 (f_X5_isEnvelope σ x1) (0 : Int32) (1 : Int32)).1]) rfl ?_
        refine lv_if_eq (pc := 57) (tgt := 74) hx hb dX5_setTimes_57 (by decide) (fun c9 => ?_) (fun c9 => ?_)
        · have hf := ifT c9 hf
          have hf : (some (f_X5_goes z1.2 (f_X5_isEnvelope σ x1) (0 : Int32) (1 : Int32)).2) = some z := hf
          cases hf
          exact ret_vU (pc := 74) C hr h dX5_setTimes_74
        · have hf := ifF c9 hf
          refine lv_aload_n (pc := 60) hx hb dX5_setTimes_60 rfl (lv_at hl 1 rfl) ?_
          refine g_get (pc := 61) (v := .ref (q 2)) C h.1 0 (mW_c0 _ _ _) fl_X5_13 rfl dX5_setTimes_61 ?_
          refine lv_iload_n (pc := 64) hx hb dX5_setTimes_64 rfl (lv_at hl 2 rfl) ?_
          refine lv_iload_n (pc := 65) hx hb dX5_setTimes_65 rfl (lv_at hl 3 rfl) ?_
          obtain ⟨hin, hf⟩ := ifS hf
          obtain ⟨t2, et2, hf⟩ := ltS hf
          refine g_ist (pc := 66) (n := 6) (f := ((f_X5_goes z1.2 (f_X5_isEnvelope σ x1) (0 : Int32) (1 : Int32)).2 3)) (ws' := (mW q cA t2)) C h 2 (mW_c2 _ _ _) hin ((mW_w2 _ _ _ _).trans (congrArg (mW q cA) et2.symm)) dX5_setTimes_66 (fun H locs h => ?_)
          refine lv_aload_n (pc := 67) hx hb dX5_setTimes_67 rfl (lv_at hl 1 rfl) ?_
          refine g_get (pc := 68) (v := .ref (q 3)) C h.1 0 (mW_c0 _ _ _) fl_X5_16 rfl dX5_setTimes_68 ?_
          refine lv_iload_n (pc := 71) hx hb dX5_setTimes_71 rfl (lv_at hl 2 rfl) ?_
          refine lv_iload_n (pc := 72) hx hb dX5_setTimes_72 rfl (lv_at hl 4 rfl) ?_
          obtain ⟨hin, hf⟩ := ifS hf
          obtain ⟨t3, et3, hf⟩ := ltS hf
          refine g_ist (pc := 73) (n := 6) (f := (t2 4)) (ws' := (mW q cA t3)) C h 3 (mW_c3 _ _ _) hin ((mW_w3 _ _ _ _).trans (congrArg (mW q cA) et3.symm)) dX5_setTimes_73 (fun H locs h => ?_)
          have hf : (some t3) = some z := hf
          cases hf
          exact ret_vU (pc := 74) C hr h dX5_setTimes_74
  · have hf := ifF c9 hf
    refine lv_iload_n (pc := 20) hx hb dX5_setTimes_20 rfl (lv_at hl 4 rfl) ?_
    refine lv_iconst (pc := 21) (v := 0) hx hb dX5_setTimes_21 (by decide) ?_
    refine lv_bipush (pc := 22) (v := 60) hx hb dX5_setTimes_22 (by decide) ?_
    refine call_SR (pc := 24) (As := [.int x3, .int (0 : Int32), .int (60 : Int32)]) (rest := [.int (f_X5_isEnvelope σ x1), .ref (q 0)]) (wc := []) C h (k_X5_in x3 (0 : Int32) (60 : Int32) rfl) cw_X5_71 [] rfl rfl rfl rfl hl.1 (Nat.le_of_ble_eq_true rfl) dX5_setTimes_24 ⟨Nat.le_of_ble_eq_true rfl, Nat.le_of_ble_eq_true rfl⟩ rfl rfl ⟨Nat.le_of_ble_eq_true rfl, Nat.le_of_ble_eq_true rfl⟩ (fun H locs h => ?_)
    refine W.eq (g2 := F0 m 27 ls [.int (f_X5_in x3 (0 : Int32) (60 : Int32)), .int (f_X5_isEnvelope σ x1), .ref (q 0)]) rfl ?_
    refine lv_if_eq (pc := 27) (tgt := 34) hx hb dX5_setTimes_27 (by decide) (fun c9 => ?_) (fun c9 => ?_)
    · have hf := ifT c9 hf
      refine lv_iconst (pc := 34) (v := 0) hx hb dX5_setTimes_34 (by decide) ?_
      refine lv_iload (pc := 35) hx hb dX5_setTimes_35 (lv_at hl 0 rfl) ?_
      refine lv_if_eq (pc := 37) (tgt := 53) hx hb dX5_setTimes_37 (by decide) (fun c9 => ?_) (fun c9 => ?_)
      · have hf := ifT c9 hf
        refine lv_iconst (pc := 53) (v := 0) hx hb dX5_setTimes_53 (by decide) ?_
        refine call_VUs (pc := 54) (As := [.int (f_X5_isEnvelope σ x1), .int (0 : Int32), .int (0 : Int32)]) (rest := []) C h (k_X5_goes σ (f_X5_isEnvelope σ x1) (0 : Int32) (0 : Int32) rfl) cw_X5_123 0 (mW_c0 _ _ _) rfl (mW_fst _ _ _ _) rfl rfl hl.1 (Nat.le_of_ble_eq_true rfl) dX5_setTimes_54 ⟨Nat.le_of_ble_eq_true rfl, Nat.le_of_ble_eq_true rfl⟩ rfl rfl ⟨Nat.le_of_ble_eq_true rfl, Nat.le_of_ble_eq_true rfl⟩ (fun H locs h => ?_)
        refine W.eq (g2 := F0 m 57 ls [.int (f_X5_goes σ (f_X5_isEnvelope σ x1) (0 : Int32) (0 : Int32)).1]) rfl ?_
        refine lv_if_eq (pc := 57) (tgt := 74) hx hb dX5_setTimes_57 (by decide) (fun c9 => ?_) (fun c9 => ?_)
        · have hf := ifT c9 hf
          have hf : (some (f_X5_goes σ (f_X5_isEnvelope σ x1) (0 : Int32) (0 : Int32)).2) = some z := hf
          cases hf
          exact ret_vU (pc := 74) C hr h dX5_setTimes_74
        · have hf := ifF c9 hf
          refine lv_aload_n (pc := 60) hx hb dX5_setTimes_60 rfl (lv_at hl 1 rfl) ?_
          refine g_get (pc := 61) (v := .ref (q 2)) C h.1 0 (mW_c0 _ _ _) fl_X5_13 rfl dX5_setTimes_61 ?_
          refine lv_iload_n (pc := 64) hx hb dX5_setTimes_64 rfl (lv_at hl 2 rfl) ?_
          refine lv_iload_n (pc := 65) hx hb dX5_setTimes_65 rfl (lv_at hl 3 rfl) ?_
          obtain ⟨hin, hf⟩ := ifS hf
          obtain ⟨t1, et1, hf⟩ := ltS hf
          refine g_ist (pc := 66) (n := 6) (f := ((f_X5_goes σ (f_X5_isEnvelope σ x1) (0 : Int32) (0 : Int32)).2 3)) (ws' := (mW q cA t1)) C h 2 (mW_c2 _ _ _) hin ((mW_w2 _ _ _ _).trans (congrArg (mW q cA) et1.symm)) dX5_setTimes_66 (fun H locs h => ?_)
          refine lv_aload_n (pc := 67) hx hb dX5_setTimes_67 rfl (lv_at hl 1 rfl) ?_
          refine g_get (pc := 68) (v := .ref (q 3)) C h.1 0 (mW_c0 _ _ _) fl_X5_16 rfl dX5_setTimes_68 ?_
          refine lv_iload_n (pc := 71) hx hb dX5_setTimes_71 rfl (lv_at hl 2 rfl) ?_
          refine lv_iload_n (pc := 72) hx hb dX5_setTimes_72 rfl (lv_at hl 4 rfl) ?_
          obtain ⟨hin, hf⟩ := ifS hf
          obtain ⟨t2, et2, hf⟩ := ltS hf
          refine g_ist (pc := 73) (n := 6) (f := (t1 4)) (ws' := (mW q cA t2)) C h 3 (mW_c3 _ _ _) hin ((mW_w3 _ _ _ _).trans (congrArg (mW q cA) et2.symm)) dX5_setTimes_73 (fun H locs h => ?_)
          have hf : (some t2) = some z := hf
          cases hf
          exact ret_vU (pc := 74) C hr h dX5_setTimes_74
      · have hf := ifF c9 hf
        refine lv_aload_n (pc := 40) hx hb dX5_setTimes_40 rfl (lv_at hl 1 rfl) ?_
        refine lv_iload_n (pc := 41) hx hb dX5_setTimes_41 rfl (lv_at hl 2 rfl) ?_
        refine lv_iconst (pc := 42) (v := 0) hx hb dX5_setTimes_42 (by decide) ?_
        obtain ⟨z1, hc1, hf⟩ := bdS hf
        refine call_VUs (pc := 43) (As := [.int x1, .int (0 : Int32)]) (rest := [.int (0 : Int32), .int (f_X5_isEnvelope σ x1), .ref (q 0)]) C h (k_X5_isIn σ x1 (0 : Int32) hc1) cw_X5_130 0 (mW_c0 _ _ _) rfl (mW_fst _ _ _ _) rfl rfl hl.1 (Nat.le_of_ble_eq_true rfl) dX5_setTimes_43 ⟨Nat.le_of_ble_eq_true rfl, Nat.le_of_ble_eq_true rfl⟩ rfl rfl ⟨Nat.le_of_ble_eq_true rfl, Nat.le_of_ble_eq_true rfl⟩ (fun H locs h => ?_)
        refine W.eq (g2 := F0 m 46 ls [.int z1.1, .int (0 : Int32), .int (f_X5_isEnvelope σ x1), .ref (q 0)]) rfl ?_
        refine lv_if_eq (pc := 46) (tgt := 53) hx hb dX5_setTimes_46 (by decide) (fun c9 => ?_) (fun c9 => ?_)
        · have hf := ifT c9 hf
          refine lv_iconst (pc := 53) (v := 0) hx hb dX5_setTimes_53 (by decide) ?_
          refine call_VUs (pc := 54) (As := [.int (f_X5_isEnvelope σ x1), .int (0 : Int32), .int (0 : Int32)]) (rest := []) C h (k_X5_goes z1.2 (f_X5_isEnvelope σ x1) (0 : Int32) (0 : Int32) rfl) cw_X5_123 0 (mW_c0 _ _ _) rfl (mW_fst _ _ _ _) rfl rfl hl.1 (Nat.le_of_ble_eq_true rfl) dX5_setTimes_54 ⟨Nat.le_of_ble_eq_true rfl, Nat.le_of_ble_eq_true rfl⟩ rfl rfl ⟨Nat.le_of_ble_eq_true rfl, Nat.le_of_ble_eq_true rfl⟩ (fun H locs h => ?_)
          refine W.eq (g2 := F0 m 57 ls [.int (f_X5_goes z1.2 (f_X5_isEnvelope σ x1) (0 : Int32) (0 : Int32)).1]) rfl ?_
          refine lv_if_eq (pc := 57) (tgt := 74) hx hb dX5_setTimes_57 (by decide) (fun c9 => ?_) (fun c9 => ?_)
          · have hf := ifT c9 hf
            have hf : (some (f_X5_goes z1.2 (f_X5_isEnvelope σ x1) (0 : Int32) (0 : Int32)).2) = some z := hf
            cases hf
            exact ret_vU (pc := 74) C hr h dX5_setTimes_74
          · have hf := ifF c9 hf
            refine lv_aload_n (pc := 60) hx hb dX5_setTimes_60 rfl (lv_at hl 1 rfl) ?_
            refine g_get (pc := 61) (v := .ref (q 2)) C h.1 0 (mW_c0 _ _ _) fl_X5_13 rfl dX5_setTimes_61 ?_
            refine lv_iload_n (pc := 64) hx hb dX5_setTimes_64 rfl (lv_at hl 2 rfl) ?_
            refine lv_iload_n (pc := 65) hx hb dX5_setTimes_65 rfl (lv_at hl 3 rfl) ?_
            obtain ⟨hin, hf⟩ := ifS hf
            obtain ⟨t2, et2, hf⟩ := ltS hf
            refine g_ist (pc := 66) (n := 6) (f := ((f_X5_goes z1.2 (f_X5_isEnvelope σ x1) (0 : Int32) (0 : Int32)).2 3)) (ws' := (mW q cA t2)) C h 2 (mW_c2 _ _ _) hin ((mW_w2 _ _ _ _).trans (congrArg (mW q cA) et2.symm)) dX5_setTimes_66 (fun H locs h => ?_)
            refine lv_aload_n (pc := 67) hx hb dX5_setTimes_67 rfl (lv_at hl 1 rfl) ?_
            refine g_get (pc := 68) (v := .ref (q 3)) C h.1 0 (mW_c0 _ _ _) fl_X5_16 rfl dX5_setTimes_68 ?_
            refine lv_iload_n (pc := 71) hx hb dX5_setTimes_71 rfl (lv_at hl 2 rfl) ?_
            refine lv_iload_n (pc := 72) hx hb dX5_setTimes_72 rfl (lv_at hl 4 rfl) ?_
            obtain ⟨hin, hf⟩ := ifS hf
            obtain ⟨t3, et3, hf⟩ := ltS hf
            refine g_ist (pc := 73) (n := 6) (f := (t2 4)) (ws' := (mW q cA t3)) C h 3 (mW_c3 _ _ _) hin ((mW_w3 _ _ _ _).trans (congrArg (mW q cA) et3.symm)) dX5_setTimes_73 (fun H locs h => ?_)
            have hf : (some t3) = some z := hf
            cases hf
            exact ret_vU (pc := 74) C hr h dX5_setTimes_74
        · have hf := ifF c9 hf
          refine lv_iconst (pc := 49) (v := 1) hx hb dX5_setTimes_49 (by decide) ?_
          refine lv_goto (pc := 50) (tgt := 54) hx hb dX5_setTimes_50 (by decide) ?_
          refine call_VUs (pc := 54) (As := [.int (f_X5_isEnvelope σ x1), .int (0 : Int32), .int (1 : Int32)]) (rest := []) C h (k_X5_goes z1.2 (f_X5_isEnvelope σ x1) (0 : Int32) (1 : Int32) rfl) cw_X5_123 0 (mW_c0 _ _ _) rfl (mW_fst _ _ _ _) rfl rfl hl.1 (Nat.le_of_ble_eq_true rfl) dX5_setTimes_54 ⟨Nat.le_of_ble_eq_true rfl, Nat.le_of_ble_eq_true rfl⟩ rfl rfl ⟨Nat.le_of_ble_eq_true rfl, Nat.le_of_ble_eq_true rfl⟩ (fun H locs h => ?_)
          refine W.eq (g2 := F0 m 57 ls [.int (f_X5_goes z1.2 (f_X5_isEnvelope σ x1) (0 : Int32) (1 : Int32)).1]) rfl ?_
          refine lv_if_eq (pc := 57) (tgt := 74) hx hb dX5_setTimes_57 (by decide) (fun c9 => ?_) (fun c9 => ?_)
          · have hf := ifT c9 hf
            have hf : (some (f_X5_goes z1.2 (f_X5_isEnvelope σ x1) (0 : Int32) (1 : Int32)).2) = some z := hf
            cases hf
            exact ret_vU (pc := 74) C hr h dX5_setTimes_74
          · have hf := ifF c9 hf
            refine lv_aload_n (pc := 60) hx hb dX5_setTimes_60 rfl (lv_at hl 1 rfl) ?_
            refine g_get (pc := 61) (v := .ref (q 2)) C h.1 0 (mW_c0 _ _ _) fl_X5_13 rfl dX5_setTimes_61 ?_
            refine lv_iload_n (pc := 64) hx hb dX5_setTimes_64 rfl (lv_at hl 2 rfl) ?_
            refine lv_iload_n (pc := 65) hx hb dX5_setTimes_65 rfl (lv_at hl 3 rfl) ?_
            obtain ⟨hin, hf⟩ := ifS hf
            obtain ⟨t2, et2, hf⟩ := ltS hf
            refine g_ist (pc := 66) (n := 6) (f := ((f_X5_goes z1.2 (f_X5_isEnvelope σ x1) (0 : Int32) (1 : Int32)).2 3)) (ws' := (mW q cA t2)) C h 2 (mW_c2 _ _ _) hin ((mW_w2 _ _ _ _).trans (congrArg (mW q cA) et2.symm)) dX5_setTimes_66 (fun H locs h => ?_)
            refine lv_aload_n (pc := 67) hx hb dX5_setTimes_67 rfl (lv_at hl 1 rfl) ?_
            refine g_get (pc := 68) (v := .ref (q 3)) C h.1 0 (mW_c0 _ _ _) fl_X5_16 rfl dX5_setTimes_68 ?_
            refine lv_iload_n (pc := 71) hx hb dX5_setTimes_71 rfl (lv_at hl 2 rfl) ?_
            refine lv_iload_n (pc := 72) hx hb dX5_setTimes_72 rfl (lv_at hl 4 rfl) ?_
            obtain ⟨hin, hf⟩ := ifS hf
            obtain ⟨t3, et3, hf⟩ := ltS hf
            refine g_ist (pc := 73) (n := 6) (f := (t2 4)) (ws' := (mW q cA t3)) C h 3 (mW_c3 _ _ _) hin ((mW_w3 _ _ _ _).trans (congrArg (mW q cA) et3.symm)) dX5_setTimes_73 (fun H locs h => ?_)
            have hf : (some t3) = some z := hf
            cases hf
            exact ret_vU (pc := 74) C hr h dX5_setTimes_74
    · have hf := ifF c9 hf
      refine lv_iconst (pc := 30) (v := 1) hx hb dX5_setTimes_30 (by decide) ?_
      refine lv_goto (pc := 31) (tgt := 35) hx hb dX5_setTimes_31 (by decide) ?_
      refine lv_iload (pc := 35) hx hb dX5_setTimes_35 (lv_at hl 0 rfl) ?_
      refine lv_if_eq (pc := 37) (tgt := 53) hx hb dX5_setTimes_37 (by decide) (fun c9 => ?_) (fun c9 => ?_)
      · have hf := ifT c9 hf
        refine lv_iconst (pc := 53) (v := 0) hx hb dX5_setTimes_53 (by decide) ?_
        refine call_VUs (pc := 54) (As := [.int (f_X5_isEnvelope σ x1), .int (1 : Int32), .int (0 : Int32)]) (rest := []) C h (k_X5_goes σ (f_X5_isEnvelope σ x1) (1 : Int32) (0 : Int32) rfl) cw_X5_123 0 (mW_c0 _ _ _) rfl (mW_fst _ _ _ _) rfl rfl hl.1 (Nat.le_of_ble_eq_true rfl) dX5_setTimes_54 ⟨Nat.le_of_ble_eq_true rfl, Nat.le_of_ble_eq_true rfl⟩ rfl rfl ⟨Nat.le_of_ble_eq_true rfl, Nat.le_of_ble_eq_true rfl⟩ (fun H locs h => ?_)
        refine W.eq (g2 := F0 m 57 ls [.int (f_X5_goes σ (f_X5_isEnvelope σ x1) (1 : Int32) (0 : Int32)).1]) rfl ?_
        refine lv_if_eq (pc := 57) (tgt := 74) hx hb dX5_setTimes_57 (by decide) (fun c9 => ?_) (fun c9 => ?_)
        · have hf := ifT c9 hf
          have hf : (some (f_X5_goes σ (f_X5_isEnvelope σ x1) (1 : Int32) (0 : Int32)).2) = some z := hf
          cases hf
          exact ret_vU (pc := 74) C hr h dX5_setTimes_74
        · have hf := ifF c9 hf
          refine lv_aload_n (pc := 60) hx hb dX5_setTimes_60 rfl (lv_at hl 1 rfl) ?_
          refine g_get (pc := 61) (v := .ref (q 2)) C h.1 0 (mW_c0 _ _ _) fl_X5_13 rfl dX5_setTimes_61 ?_
          refine lv_iload_n (pc := 64) hx hb dX5_setTimes_64 rfl (lv_at hl 2 rfl) ?_
          refine lv_iload_n (pc := 65) hx hb dX5_setTimes_65 rfl (lv_at hl 3 rfl) ?_
          obtain ⟨hin, hf⟩ := ifS hf
          obtain ⟨t1, et1, hf⟩ := ltS hf
          refine g_ist (pc := 66) (n := 6) (f := ((f_X5_goes σ (f_X5_isEnvelope σ x1) (1 : Int32) (0 : Int32)).2 3)) (ws' := (mW q cA t1)) C h 2 (mW_c2 _ _ _) hin ((mW_w2 _ _ _ _).trans (congrArg (mW q cA) et1.symm)) dX5_setTimes_66 (fun H locs h => ?_)
          refine lv_aload_n (pc := 67) hx hb dX5_setTimes_67 rfl (lv_at hl 1 rfl) ?_
          refine g_get (pc := 68) (v := .ref (q 3)) C h.1 0 (mW_c0 _ _ _) fl_X5_16 rfl dX5_setTimes_68 ?_
          refine lv_iload_n (pc := 71) hx hb dX5_setTimes_71 rfl (lv_at hl 2 rfl) ?_
          refine lv_iload_n (pc := 72) hx hb dX5_setTimes_72 rfl (lv_at hl 4 rfl) ?_
          obtain ⟨hin, hf⟩ := ifS hf
          obtain ⟨t2, et2, hf⟩ := ltS hf
          refine g_ist (pc := 73) (n := 6) (f := (t1 4)) (ws' := (mW q cA t2)) C h 3 (mW_c3 _ _ _) hin ((mW_w3 _ _ _ _).trans (congrArg (mW q cA) et2.symm)) dX5_setTimes_73 (fun H locs h => ?_)
          have hf : (some t2) = some z := hf
          cases hf
          exact ret_vU (pc := 74) C hr h dX5_setTimes_74
      · have hf := ifF c9 hf
        refine lv_aload_n (pc := 40) hx hb dX5_setTimes_40 rfl (lv_at hl 1 rfl) ?_
        refine lv_iload_n (pc := 41) hx hb dX5_setTimes_41 rfl (lv_at hl 2 rfl) ?_
        refine lv_iconst (pc := 42) (v := 0) hx hb dX5_setTimes_42 (by decide) ?_
        obtain ⟨z1, hc1, hf⟩ := bdS hf
        refine call_VUs (pc := 43) (As := [.int x1, .int (0 : Int32)]) (rest := [.int (1 : Int32), .int (f_X5_isEnvelope σ x1), .ref (q 0)]) C h (k_X5_isIn σ x1 (0 : Int32) hc1) cw_X5_130 0 (mW_c0 _ _ _) rfl (mW_fst _ _ _ _) rfl rfl hl.1 (Nat.le_of_ble_eq_true rfl) dX5_setTimes_43 ⟨Nat.le_of_ble_eq_true rfl, Nat.le_of_ble_eq_true rfl⟩ rfl rfl ⟨Nat.le_of_ble_eq_true rfl, Nat.le_of_ble_eq_true rfl⟩ (fun H locs h => ?_)
        refine W.eq (g2 := F0 m 46 ls [.int z1.1, .int (1 : Int32), .int (f_X5_isEnvelope σ x1), .ref (q 0)]) rfl ?_
        refine lv_if_eq (pc := 46) (tgt := 53) hx hb dX5_setTimes_46 (by decide) (fun c9 => ?_) (fun c9 => ?_)
        · have hf := ifT c9 hf
          refine lv_iconst (pc := 53) (v := 0) hx hb dX5_setTimes_53 (by decide) ?_
          refine call_VUs (pc := 54) (As := [.int (f_X5_isEnvelope σ x1), .int (1 : Int32), .int (0 : Int32)]) (rest := []) C h (k_X5_goes z1.2 (f_X5_isEnvelope σ x1) (1 : Int32) (0 : Int32) rfl) cw_X5_123 0 (mW_c0 _ _ _) rfl (mW_fst _ _ _ _) rfl rfl hl.1 (Nat.le_of_ble_eq_true rfl) dX5_setTimes_54 ⟨Nat.le_of_ble_eq_true rfl, Nat.le_of_ble_eq_true rfl⟩ rfl rfl ⟨Nat.le_of_ble_eq_true rfl, Nat.le_of_ble_eq_true rfl⟩ (fun H locs h => ?_)
          refine W.eq (g2 := F0 m 57 ls [.int (f_X5_goes z1.2 (f_X5_isEnvelope σ x1) (1 : Int32) (0 : Int32)).1]) rfl ?_
          refine lv_if_eq (pc := 57) (tgt := 74) hx hb dX5_setTimes_57 (by decide) (fun c9 => ?_) (fun c9 => ?_)
          · have hf := ifT c9 hf
            have hf : (some (f_X5_goes z1.2 (f_X5_isEnvelope σ x1) (1 : Int32) (0 : Int32)).2) = some z := hf
            cases hf
            exact ret_vU (pc := 74) C hr h dX5_setTimes_74
          · have hf := ifF c9 hf
            refine lv_aload_n (pc := 60) hx hb dX5_setTimes_60 rfl (lv_at hl 1 rfl) ?_
            refine g_get (pc := 61) (v := .ref (q 2)) C h.1 0 (mW_c0 _ _ _) fl_X5_13 rfl dX5_setTimes_61 ?_
            refine lv_iload_n (pc := 64) hx hb dX5_setTimes_64 rfl (lv_at hl 2 rfl) ?_
            refine lv_iload_n (pc := 65) hx hb dX5_setTimes_65 rfl (lv_at hl 3 rfl) ?_
            obtain ⟨hin, hf⟩ := ifS hf
            obtain ⟨t2, et2, hf⟩ := ltS hf
            refine g_ist (pc := 66) (n := 6) (f := ((f_X5_goes z1.2 (f_X5_isEnvelope σ x1) (1 : Int32) (0 : Int32)).2 3)) (ws' := (mW q cA t2)) C h 2 (mW_c2 _ _ _) hin ((mW_w2 _ _ _ _).trans (congrArg (mW q cA) et2.symm)) dX5_setTimes_66 (fun H locs h => ?_)
            refine lv_aload_n (pc := 67) hx hb dX5_setTimes_67 rfl (lv_at hl 1 rfl) ?_
            refine g_get (pc := 68) (v := .ref (q 3)) C h.1 0 (mW_c0 _ _ _) fl_X5_16 rfl dX5_setTimes_68 ?_
            refine lv_iload_n (pc := 71) hx hb dX5_setTimes_71 rfl (lv_at hl 2 rfl) ?_
            refine lv_iload_n (pc := 72) hx hb dX5_setTimes_72 rfl (lv_at hl 4 rfl) ?_
            obtain ⟨hin, hf⟩ := ifS hf
            obtain ⟨t3, et3, hf⟩ := ltS hf
            refine g_ist (pc := 73) (n := 6) (f := (t2 4)) (ws' := (mW q cA t3)) C h 3 (mW_c3 _ _ _) hin ((mW_w3 _ _ _ _).trans (congrArg (mW q cA) et3.symm)) dX5_setTimes_73 (fun H locs h => ?_)
            have hf : (some t3) = some z := hf
            cases hf
            exact ret_vU (pc := 74) C hr h dX5_setTimes_74
        · have hf := ifF c9 hf
          refine lv_iconst (pc := 49) (v := 1) hx hb dX5_setTimes_49 (by decide) ?_
          refine lv_goto (pc := 50) (tgt := 54) hx hb dX5_setTimes_50 (by decide) ?_
          refine call_VUs (pc := 54) (As := [.int (f_X5_isEnvelope σ x1), .int (1 : Int32), .int (1 : Int32)]) (rest := []) C h (k_X5_goes z1.2 (f_X5_isEnvelope σ x1) (1 : Int32) (1 : Int32) rfl) cw_X5_123 0 (mW_c0 _ _ _) rfl (mW_fst _ _ _ _) rfl rfl hl.1 (Nat.le_of_ble_eq_true rfl) dX5_setTimes_54 ⟨Nat.le_of_ble_eq_true rfl, Nat.le_of_ble_eq_true rfl⟩ rfl rfl ⟨Nat.le_of_ble_eq_true rfl, Nat.le_of_ble_eq_true rfl⟩ (fun H locs h => ?_)
          refine W.eq (g2 := F0 m 57 ls [.int (f_X5_goes z1.2 (f_X5_isEnvelope σ x1) (1 : Int32) (1 : Int32)).1]) rfl ?_
          refine lv_if_eq (pc := 57) (tgt := 74) hx hb dX5_setTimes_57 (by decide) (fun c9 => ?_) (fun c9 => ?_)
          · have hf := ifT c9 hf
            have hf : (some (f_X5_goes z1.2 (f_X5_isEnvelope σ x1) (1 : Int32) (1 : Int32)).2) = some z := hf
            cases hf
            exact ret_vU (pc := 74) C hr h dX5_setTimes_74
          · have hf := ifF c9 hf
            refine lv_aload_n (pc := 60) hx hb dX5_setTimes_60 rfl (lv_at hl 1 rfl) ?_
            refine g_get (pc := 61) (v := .ref (q 2)) C h.1 0 (mW_c0 _ _ _) fl_X5_13 rfl dX5_setTimes_61 ?_
            refine lv_iload_n (pc := 64) hx hb dX5_setTimes_64 rfl (lv_at hl 2 rfl) ?_
            refine lv_iload_n (pc := 65) hx hb dX5_setTimes_65 rfl (lv_at hl 3 rfl) ?_
            obtain ⟨hin, hf⟩ := ifS hf
            obtain ⟨t2, et2, hf⟩ := ltS hf
            refine g_ist (pc := 66) (n := 6) (f := ((f_X5_goes z1.2 (f_X5_isEnvelope σ x1) (1 : Int32) (1 : Int32)).2 3)) (ws' := (mW q cA t2)) C h 2 (mW_c2 _ _ _) hin ((mW_w2 _ _ _ _).trans (congrArg (mW q cA) et2.symm)) dX5_setTimes_66 (fun H locs h => ?_)
            refine lv_aload_n (pc := 67) hx hb dX5_setTimes_67 rfl (lv_at hl 1 rfl) ?_
            refine g_get (pc := 68) (v := .ref (q 3)) C h.1 0 (mW_c0 _ _ _) fl_X5_16 rfl dX5_setTimes_68 ?_
            refine lv_iload_n (pc := 71) hx hb dX5_setTimes_71 rfl (lv_at hl 2 rfl) ?_
            refine lv_iload_n (pc := 72) hx hb dX5_setTimes_72 rfl (lv_at hl 4 rfl) ?_
            obtain ⟨hin, hf⟩ := ifS hf
            obtain ⟨t3, et3, hf⟩ := ltS hf
            refine g_ist (pc := 73) (n := 6) (f := (t2 4)) (ws' := (mW q cA t3)) C h 3 (mW_c3 _ _ _) hin ((mW_w3 _ _ _ _).trans (congrArg (mW q cA) et3.symm)) dX5_setTimes_73 (fun H locs h => ?_)
            have hf : (some t3) = some z := hf
            cases hf
            exact ret_vU (pc := 74) C hr h dX5_setTimes_74
abbrev rm_X5_send : Room := { frames := 5, cells := 0, slots := 0, locals := 111 }
def f_X5_send (σ : Nat → Nat → Int32) (x1 : Int32) : Option (Int32 × (Nat → Nat → Int32)) := (if (f_X5_isEnvelope σ x1) = 0 then (if (f_X5_goes σ (f_X5_isEnvelope σ x1) (0 : Int32) (1 : Int32)).1 = 0 then (some ((0 : Int32), (f_X5_goes σ (f_X5_isEnvelope σ x1) (0 : Int32) (1 : Int32)).2)) else ((f_X5_notes (f_X5_goes σ (f_X5_isEnvelope σ x1) (0 : Int32) (1 : Int32)).2 x1 (0 : Int32) (-1 : Int32) (-1 : Int32)).bind fun z1 => ((f_X5_looks z1 x1).bind fun z2 => ((f_X5_many (f_X5_open z2)).bind fun z3 => (some (z3, z2)))))) else ((f_X5_isIn σ x1 (0 : Int32)).bind fun z1 => (if z1.1 = 0 then (if (f_X5_goes z1.2 (f_X5_isEnvelope σ x1) (0 : Int32) (1 : Int32)).1 = 0 then (some ((0 : Int32), (f_X5_goes z1.2 (f_X5_isEnvelope σ x1) (0 : Int32) (1 : Int32)).2)) else ((f_X5_notes (f_X5_goes z1.2 (f_X5_isEnvelope σ x1) (0 : Int32) (1 : Int32)).2 x1 (0 : Int32) (-1 : Int32) (-1 : Int32)).bind fun z2 => ((f_X5_looks z2 x1).bind fun z3 => ((f_X5_many (f_X5_open z3)).bind fun z4 => (some (z4, z3)))))) else (if inb x1 6 then (if ((z1.2 2) x1.toNatClampNeg) ≤ 0 then (if (f_X5_goes z1.2 (f_X5_isEnvelope σ x1) (0 : Int32) (1 : Int32)).1 = 0 then (some ((0 : Int32), (f_X5_goes z1.2 (f_X5_isEnvelope σ x1) (0 : Int32) (1 : Int32)).2)) else ((f_X5_notes (f_X5_goes z1.2 (f_X5_isEnvelope σ x1) (0 : Int32) (1 : Int32)).2 x1 (0 : Int32) (-1 : Int32) (-1 : Int32)).bind fun z2 => ((f_X5_looks z2 x1).bind fun z3 => ((f_X5_many (f_X5_open z3)).bind fun z4 => (some (z4, z3)))))) else (if (f_X5_goes z1.2 (f_X5_isEnvelope σ x1) (1 : Int32) (1 : Int32)).1 = 0 then (some ((0 : Int32), (f_X5_goes z1.2 (f_X5_isEnvelope σ x1) (1 : Int32) (1 : Int32)).2)) else ((f_X5_notes (f_X5_goes z1.2 (f_X5_isEnvelope σ x1) (1 : Int32) (1 : Int32)).2 x1 (0 : Int32) (-1 : Int32) (-1 : Int32)).bind fun z2 => ((f_X5_looks z2 x1).bind fun z3 => ((f_X5_many (f_X5_open z3)).bind fun z4 => (some (z4, z3))))))) else none))))
set_option maxHeartbeats 400000 in
set_option maxRecDepth 100000 in
theorem k_X5_send {q : Nat → Nat} {cA : Nat → ClassId} {D : va_G} (σ : Nat → Nat → Int32) (x1 : Int32) {z : Int32 × (Nat → Nat → Int32)} (hf : f_X5_send σ x1 = some z) : CtU yX5_send cX5_send 3 (some .int) rm_X5_send [.ref (q 0), .int x1] D cA (mW q cA σ) (mW q cA z.2) (some (.int z.1)) 0 0 := by
  refine ctU_of (by decide) (Nat.le_of_ble_eq_true rfl) ?_
  intro p l e s m below meth c ls C hr hnm h hl
  have C : Cx p s m _ meth c cX5_send 3 RX5 D cA := C
  obtain ⟨hx, hb, hml, hown, hts, hK, hlk⟩ := id C
  replace hl : lv_has ls 3 [(0, .ref (q 0)), (1, .int x1)] := hl
  rw [f_X5_send] at hf
  refine lv_aload_n (pc := 0) hx hb dX5_send_0 rfl (lv_at hl 0 rfl) ?_
  refine lv_iload_n (pc := 1) hx hb dX5_send_1 rfl (lv_at hl 1 rfl) ?_
  refine call_VRs (pc := 2) (As := [.int x1]) (rest := []) C h (k_X5_isEnvelope σ x1 rfl) cw_X5_78 0 (mW_c0 _ _ _) rfl rfl rfl hl.1 (Nat.le_of_ble_eq_true rfl) dX5_send_2 ⟨Nat.le_of_ble_eq_true rfl, Nat.le_of_ble_eq_true rfl⟩ rfl rfl ⟨Nat.le_of_ble_eq_true rfl, Nat.le_of_ble_eq_true rfl⟩ (fun H locs h => ?_)
  refine W.eq (g2 := F0 m 5 ls [.int (f_X5_isEnvelope σ x1)]) rfl ?_
  refine lv_istore_n (pc := 5) (lv' := [(2, .int (f_X5_isEnvelope σ x1)), (0, .ref (q 0)), (1, .int x1)]) hx hb dX5_send_5 rfl hl (by decide) rfl (fun ls hl => ?_)
  refine lv_aload_n (pc := 6) hx hb dX5_send_6 rfl (lv_at hl 1 rfl) ?_
  refine lv_iload_n (pc := 7) hx hb dX5_send_7 rfl (lv_at hl 0 rfl) ?_
  refine lv_iload_n (pc := 8) hx hb dX5_send_8 rfl (lv_at hl 0 rfl) ?_
  refine lv_if_eq (pc := 9) (tgt := 34) hx hb dX5_send_9 (by decide) (fun c9 => ?_) (fun c9 => ?_)
  · have hf := ifT c9 hf
    refine lv_iconst (pc := 34) (v := 0) hx hb dX5_send_34 (by decide) ?_
    refine lv_iconst (pc := 35) (v := 1) hx hb dX5_send_35 (by decide) ?_
    refine call_VUs (pc := 36) (As := [.int (f_X5_isEnvelope σ x1), .int (0 : Int32), .int (1 : Int32)]) (rest := []) C h (k_X5_goes σ (f_X5_isEnvelope σ x1) (0 : Int32) (1 : Int32) rfl) cw_X5_123 0 (mW_c0 _ _ _) rfl (mW_fst _ _ _ _) rfl rfl hl.1 (Nat.le_of_ble_eq_true rfl) dX5_send_36 ⟨Nat.le_of_ble_eq_true rfl, Nat.le_of_ble_eq_true rfl⟩ rfl rfl ⟨Nat.le_of_ble_eq_true rfl, Nat.le_of_ble_eq_true rfl⟩ (fun H locs h => ?_)
    refine W.eq (g2 := F0 m 39 ls [.int (f_X5_goes σ (f_X5_isEnvelope σ x1) (0 : Int32) (1 : Int32)).1]) rfl ?_
    refine lv_if_ne (pc := 39) (tgt := 44) hx hb dX5_send_39 (by decide) (fun c9 => ?_) (fun c9 => ?_)
    · have hf := ifF c9 hf
      refine lv_aload_n (pc := 44) hx hb dX5_send_44 rfl (lv_at hl 1 rfl) ?_
      refine lv_iload_n (pc := 45) hx hb dX5_send_45 rfl (lv_at hl 2 rfl) ?_
      refine lv_iconst (pc := 46) (v := 0) hx hb dX5_send_46 (by decide) ?_
      refine lv_iconst (pc := 47) (v := -1) hx hb dX5_send_47 (by decide) ?_
      refine lv_iconst (pc := 48) (v := -1) hx hb dX5_send_48 (by decide) ?_
      obtain ⟨z1, hc1, hf⟩ := bdS hf
      refine call_VUs (pc := 49) (As := [.int x1, .int (0 : Int32), .int (-1 : Int32), .int (-1 : Int32)]) (rest := []) C h (k_X5_notes (f_X5_goes σ (f_X5_isEnvelope σ x1) (0 : Int32) (1 : Int32)).2 x1 (0 : Int32) (-1 : Int32) (-1 : Int32) hc1) cw_X5_116 0 (mW_c0 _ _ _) rfl (mW_fst _ _ _ _) rfl rfl hl.1 (Nat.le_of_ble_eq_true rfl) dX5_send_49 ⟨Nat.le_of_ble_eq_true rfl, Nat.le_of_ble_eq_true rfl⟩ rfl rfl ⟨Nat.le_of_ble_eq_true rfl, Nat.le_of_ble_eq_true rfl⟩ (fun H locs h => ?_)
      refine W.eq (g2 := F0 m 52 ls []) rfl ?_
      refine lv_aload_n (pc := 52) hx hb dX5_send_52 rfl (lv_at hl 1 rfl) ?_
      refine lv_iload_n (pc := 53) hx hb dX5_send_53 rfl (lv_at hl 2 rfl) ?_
      obtain ⟨z2, hc2, hf⟩ := bdS hf
      refine call_VUs (pc := 54) (As := [.int x1]) (rest := []) C h (k_X5_looks z1 x1 hc2) cw_X5_109 0 (mW_c0 _ _ _) rfl (mW_fst _ _ _ _) rfl rfl hl.1 (Nat.le_of_ble_eq_true rfl) dX5_send_54 ⟨Nat.le_of_ble_eq_true rfl, Nat.le_of_ble_eq_true rfl⟩ rfl rfl ⟨Nat.le_of_ble_eq_true rfl, Nat.le_of_ble_eq_true rfl⟩ (fun H locs h => ?_)
      refine W.eq (g2 := F0 m 57 ls []) rfl ?_
      refine lv_aload_n (pc := 57) hx hb dX5_send_57 rfl (lv_at hl 1 rfl) ?_
      refine call_VRs (pc := 58) (As := []) (rest := []) C h (k_X5_open z2 rfl) cw_X5_137 0 (mW_c0 _ _ _) rfl rfl rfl hl.1 (Nat.le_of_ble_eq_true rfl) dX5_send_58 ⟨Nat.le_of_ble_eq_true rfl, Nat.le_of_ble_eq_true rfl⟩ rfl rfl ⟨Nat.le_of_ble_eq_true rfl, Nat.le_of_ble_eq_true rfl⟩ (fun H locs h => ?_)
      refine W.eq (g2 := F0 m 61 ls [.int (f_X5_open z2)]) rfl ?_
      obtain ⟨z3, hc3, hf⟩ := bdS hf
      refine call_SR (pc := 61) (As := [.int (f_X5_open z2)]) (rest := []) (wc := []) C h (k_X5_many (f_X5_open z2) hc3) cw_X5_120 [] rfl rfl rfl rfl hl.1 (Nat.le_of_ble_eq_true rfl) dX5_send_61 ⟨Nat.le_of_ble_eq_true rfl, Nat.le_of_ble_eq_true rfl⟩ rfl rfl ⟨Nat.le_of_ble_eq_true rfl, Nat.le_of_ble_eq_true rfl⟩ (fun H locs h => ?_)
      refine W.eq (g2 := F0 m 64 ls [.int z3]) rfl ?_
      have hf : (some (z3, z2)) = some z := hf
      cases hf
      exact ret_iU (pc := 64) C hr h dX5_send_64
    · have hf := ifT c9 hf
      refine lv_iconst (pc := 42) (v := 0) hx hb dX5_send_42 (by decide) ?_
      have hf : (some ((0 : Int32), (f_X5_goes σ (f_X5_isEnvelope σ x1) (0 : Int32) (1 : Int32)).2)) = some z := hf
      cases hf
      exact ret_iU (pc := 43) C hr h dX5_send_43
  · have hf := ifF c9 hf
    refine lv_aload_n (pc := 12) hx hb dX5_send_12 rfl (lv_at hl 1 rfl) ?_
    refine lv_iload_n (pc := 13) hx hb dX5_send_13 rfl (lv_at hl 2 rfl) ?_
    refine lv_iconst (pc := 14) (v := 0) hx hb dX5_send_14 (by decide) ?_
    obtain ⟨z1, hc1, hf⟩ := bdS hf
    refine call_VUs (pc := 15) (As := [.int x1, .int (0 : Int32)]) (rest := [.int (f_X5_isEnvelope σ x1), .ref (q 0)]) C h (k_X5_isIn σ x1 (0 : Int32) hc1) cw_X5_130 0 (mW_c0 _ _ _) rfl (mW_fst _ _ _ _) rfl rfl hl.1 (Nat.le_of_ble_eq_true rfl) dX5_send_15 ⟨Nat.le_of_ble_eq_true rfl, Nat.le_of_ble_eq_true rfl⟩ rfl rfl ⟨Nat.le_of_ble_eq_true rfl, Nat.le_of_ble_eq_true rfl⟩ (fun H locs h => ?_)
    refine W.eq (g2 := F0 m 18 ls [.int z1.1, .int (f_X5_isEnvelope σ x1), .ref (q 0)]) rfl ?_
    refine lv_if_eq (pc := 18) (tgt := 34) hx hb dX5_send_18 (by decide) (fun c9 => ?_) (fun c9 => ?_)
    · have hf := ifT c9 hf
      refine lv_iconst (pc := 34) (v := 0) hx hb dX5_send_34 (by decide) ?_
      refine lv_iconst (pc := 35) (v := 1) hx hb dX5_send_35 (by decide) ?_
      refine call_VUs (pc := 36) (As := [.int (f_X5_isEnvelope σ x1), .int (0 : Int32), .int (1 : Int32)]) (rest := []) C h (k_X5_goes z1.2 (f_X5_isEnvelope σ x1) (0 : Int32) (1 : Int32) rfl) cw_X5_123 0 (mW_c0 _ _ _) rfl (mW_fst _ _ _ _) rfl rfl hl.1 (Nat.le_of_ble_eq_true rfl) dX5_send_36 ⟨Nat.le_of_ble_eq_true rfl, Nat.le_of_ble_eq_true rfl⟩ rfl rfl ⟨Nat.le_of_ble_eq_true rfl, Nat.le_of_ble_eq_true rfl⟩ (fun H locs h => ?_)
      refine W.eq (g2 := F0 m 39 ls [.int (f_X5_goes z1.2 (f_X5_isEnvelope σ x1) (0 : Int32) (1 : Int32)).1]) rfl ?_
      refine lv_if_ne (pc := 39) (tgt := 44) hx hb dX5_send_39 (by decide) (fun c9 => ?_) (fun c9 => ?_)
      · have hf := ifF c9 hf
        refine lv_aload_n (pc := 44) hx hb dX5_send_44 rfl (lv_at hl 1 rfl) ?_
        refine lv_iload_n (pc := 45) hx hb dX5_send_45 rfl (lv_at hl 2 rfl) ?_
        refine lv_iconst (pc := 46) (v := 0) hx hb dX5_send_46 (by decide) ?_
        refine lv_iconst (pc := 47) (v := -1) hx hb dX5_send_47 (by decide) ?_
        refine lv_iconst (pc := 48) (v := -1) hx hb dX5_send_48 (by decide) ?_
        obtain ⟨z2, hc2, hf⟩ := bdS hf
        refine call_VUs (pc := 49) (As := [.int x1, .int (0 : Int32), .int (-1 : Int32), .int (-1 : Int32)]) (rest := []) C h (k_X5_notes (f_X5_goes z1.2 (f_X5_isEnvelope σ x1) (0 : Int32) (1 : Int32)).2 x1 (0 : Int32) (-1 : Int32) (-1 : Int32) hc2) cw_X5_116 0 (mW_c0 _ _ _) rfl (mW_fst _ _ _ _) rfl rfl hl.1 (Nat.le_of_ble_eq_true rfl) dX5_send_49 ⟨Nat.le_of_ble_eq_true rfl, Nat.le_of_ble_eq_true rfl⟩ rfl rfl ⟨Nat.le_of_ble_eq_true rfl, Nat.le_of_ble_eq_true rfl⟩ (fun H locs h => ?_)
        refine W.eq (g2 := F0 m 52 ls []) rfl ?_
        refine lv_aload_n (pc := 52) hx hb dX5_send_52 rfl (lv_at hl 1 rfl) ?_
        refine lv_iload_n (pc := 53) hx hb dX5_send_53 rfl (lv_at hl 2 rfl) ?_
        obtain ⟨z3, hc3, hf⟩ := bdS hf
        refine call_VUs (pc := 54) (As := [.int x1]) (rest := []) C h (k_X5_looks z2 x1 hc3) cw_X5_109 0 (mW_c0 _ _ _) rfl (mW_fst _ _ _ _) rfl rfl hl.1 (Nat.le_of_ble_eq_true rfl) dX5_send_54 ⟨Nat.le_of_ble_eq_true rfl, Nat.le_of_ble_eq_true rfl⟩ rfl rfl ⟨Nat.le_of_ble_eq_true rfl, Nat.le_of_ble_eq_true rfl⟩ (fun H locs h => ?_)
        refine W.eq (g2 := F0 m 57 ls []) rfl ?_
        refine lv_aload_n (pc := 57) hx hb dX5_send_57 rfl (lv_at hl 1 rfl) ?_
        refine call_VRs (pc := 58) (As := []) (rest := []) C h (k_X5_open z3 rfl) cw_X5_137 0 (mW_c0 _ _ _) rfl rfl rfl hl.1 (Nat.le_of_ble_eq_true rfl) dX5_send_58 ⟨Nat.le_of_ble_eq_true rfl, Nat.le_of_ble_eq_true rfl⟩ rfl rfl ⟨Nat.le_of_ble_eq_true rfl, Nat.le_of_ble_eq_true rfl⟩ (fun H locs h => ?_)
        refine W.eq (g2 := F0 m 61 ls [.int (f_X5_open z3)]) rfl ?_
        obtain ⟨z4, hc4, hf⟩ := bdS hf
        refine call_SR (pc := 61) (As := [.int (f_X5_open z3)]) (rest := []) (wc := []) C h (k_X5_many (f_X5_open z3) hc4) cw_X5_120 [] rfl rfl rfl rfl hl.1 (Nat.le_of_ble_eq_true rfl) dX5_send_61 ⟨Nat.le_of_ble_eq_true rfl, Nat.le_of_ble_eq_true rfl⟩ rfl rfl ⟨Nat.le_of_ble_eq_true rfl, Nat.le_of_ble_eq_true rfl⟩ (fun H locs h => ?_)
        refine W.eq (g2 := F0 m 64 ls [.int z4]) rfl ?_
        have hf : (some (z4, z3)) = some z := hf
        cases hf
        exact ret_iU (pc := 64) C hr h dX5_send_64
      · have hf := ifT c9 hf
        refine lv_iconst (pc := 42) (v := 0) hx hb dX5_send_42 (by decide) ?_
        have hf : (some ((0 : Int32), (f_X5_goes z1.2 (f_X5_isEnvelope σ x1) (0 : Int32) (1 : Int32)).2)) = some z := hf
        cases hf
        exact ret_iU (pc := 43) C hr h dX5_send_43
    · have hf := ifF c9 hf
      refine lv_aload_n (pc := 21) hx hb dX5_send_21 rfl (lv_at hl 1 rfl) ?_
      refine g_get (pc := 22) (v := .ref (q 1)) C h.1 0 (mW_c0 _ _ _) fl_X5_7 rfl dX5_send_22 ?_
      refine lv_iload_n (pc := 25) hx hb dX5_send_25 rfl (lv_at hl 2 rfl) ?_
      obtain ⟨hin, hf⟩ := ifS hf
      refine g_ild (pc := 26) (n := 6) (f := (z1.2 2)) C h.1 1 (mW_c1 _ _ _) hin dX5_send_26 ?_
      refine lv_if_le (pc := 27) (tgt := 34) hx hb dX5_send_27 (by decide) (fun c9 => ?_) (fun c9 => ?_)
      · have hf := ifT c9 hf
        refine lv_iconst (pc := 34) (v := 0) hx hb dX5_send_34 (by decide) ?_
        refine lv_iconst (pc := 35) (v := 1) hx hb dX5_send_35 (by decide) ?_
        refine call_VUs (pc := 36) (As := [.int (f_X5_isEnvelope σ x1), .int (0 : Int32), .int (1 : Int32)]) (rest := []) C h (k_X5_goes z1.2 (f_X5_isEnvelope σ x1) (0 : Int32) (1 : Int32) rfl) cw_X5_123 0 (mW_c0 _ _ _) rfl (mW_fst _ _ _ _) rfl rfl hl.1 (Nat.le_of_ble_eq_true rfl) dX5_send_36 ⟨Nat.le_of_ble_eq_true rfl, Nat.le_of_ble_eq_true rfl⟩ rfl rfl ⟨Nat.le_of_ble_eq_true rfl, Nat.le_of_ble_eq_true rfl⟩ (fun H locs h => ?_)
        refine W.eq (g2 := F0 m 39 ls [.int (f_X5_goes z1.2 (f_X5_isEnvelope σ x1) (0 : Int32) (1 : Int32)).1]) rfl ?_
        refine lv_if_ne (pc := 39) (tgt := 44) hx hb dX5_send_39 (by decide) (fun c9 => ?_) (fun c9 => ?_)
        · have hf := ifF c9 hf
          refine lv_aload_n (pc := 44) hx hb dX5_send_44 rfl (lv_at hl 1 rfl) ?_
          refine lv_iload_n (pc := 45) hx hb dX5_send_45 rfl (lv_at hl 2 rfl) ?_
          refine lv_iconst (pc := 46) (v := 0) hx hb dX5_send_46 (by decide) ?_
          refine lv_iconst (pc := 47) (v := -1) hx hb dX5_send_47 (by decide) ?_
          refine lv_iconst (pc := 48) (v := -1) hx hb dX5_send_48 (by decide) ?_
          obtain ⟨z2, hc2, hf⟩ := bdS hf
          refine call_VUs (pc := 49) (As := [.int x1, .int (0 : Int32), .int (-1 : Int32), .int (-1 : Int32)]) (rest := []) C h (k_X5_notes (f_X5_goes z1.2 (f_X5_isEnvelope σ x1) (0 : Int32) (1 : Int32)).2 x1 (0 : Int32) (-1 : Int32) (-1 : Int32) hc2) cw_X5_116 0 (mW_c0 _ _ _) rfl (mW_fst _ _ _ _) rfl rfl hl.1 (Nat.le_of_ble_eq_true rfl) dX5_send_49 ⟨Nat.le_of_ble_eq_true rfl, Nat.le_of_ble_eq_true rfl⟩ rfl rfl ⟨Nat.le_of_ble_eq_true rfl, Nat.le_of_ble_eq_true rfl⟩ (fun H locs h => ?_)
          refine W.eq (g2 := F0 m 52 ls []) rfl ?_
          refine lv_aload_n (pc := 52) hx hb dX5_send_52 rfl (lv_at hl 1 rfl) ?_
          refine lv_iload_n (pc := 53) hx hb dX5_send_53 rfl (lv_at hl 2 rfl) ?_
          obtain ⟨z3, hc3, hf⟩ := bdS hf
          refine call_VUs (pc := 54) (As := [.int x1]) (rest := []) C h (k_X5_looks z2 x1 hc3) cw_X5_109 0 (mW_c0 _ _ _) rfl (mW_fst _ _ _ _) rfl rfl hl.1 (Nat.le_of_ble_eq_true rfl) dX5_send_54 ⟨Nat.le_of_ble_eq_true rfl, Nat.le_of_ble_eq_true rfl⟩ rfl rfl ⟨Nat.le_of_ble_eq_true rfl, Nat.le_of_ble_eq_true rfl⟩ (fun H locs h => ?_)
          refine W.eq (g2 := F0 m 57 ls []) rfl ?_
          refine lv_aload_n (pc := 57) hx hb dX5_send_57 rfl (lv_at hl 1 rfl) ?_
          refine call_VRs (pc := 58) (As := []) (rest := []) C h (k_X5_open z3 rfl) cw_X5_137 0 (mW_c0 _ _ _) rfl rfl rfl hl.1 (Nat.le_of_ble_eq_true rfl) dX5_send_58 ⟨Nat.le_of_ble_eq_true rfl, Nat.le_of_ble_eq_true rfl⟩ rfl rfl ⟨Nat.le_of_ble_eq_true rfl, Nat.le_of_ble_eq_true rfl⟩ (fun H locs h => ?_)
          refine W.eq (g2 := F0 m 61 ls [.int (f_X5_open z3)]) rfl ?_
          obtain ⟨z4, hc4, hf⟩ := bdS hf
          refine call_SR (pc := 61) (As := [.int (f_X5_open z3)]) (rest := []) (wc := []) C h (k_X5_many (f_X5_open z3) hc4) cw_X5_120 [] rfl rfl rfl rfl hl.1 (Nat.le_of_ble_eq_true rfl) dX5_send_61 ⟨Nat.le_of_ble_eq_true rfl, Nat.le_of_ble_eq_true rfl⟩ rfl rfl ⟨Nat.le_of_ble_eq_true rfl, Nat.le_of_ble_eq_true rfl⟩ (fun H locs h => ?_)
          refine W.eq (g2 := F0 m 64 ls [.int z4]) rfl ?_
          have hf : (some (z4, z3)) = some z := hf
          cases hf
          exact ret_iU (pc := 64) C hr h dX5_send_64
        · have hf := ifT c9 hf
          refine lv_iconst (pc := 42) (v := 0) hx hb dX5_send_42 (by decide) ?_
          have hf : (some ((0 : Int32), (f_X5_goes z1.2 (f_X5_isEnvelope σ x1) (0 : Int32) (1 : Int32)).2)) = some z := hf
          cases hf
          exact ret_iU (pc := 43) C hr h dX5_send_43
      · have hf := ifF c9 hf
        refine lv_iconst (pc := 30) (v := 1) hx hb dX5_send_30 (by decide) ?_
        refine lv_goto (pc := 31) (tgt := 35) hx hb dX5_send_31 (by decide) ?_
        refine lv_iconst (pc := 35) (v := 1) hx hb dX5_send_35 (by decide) ?_
        refine call_VUs (pc := 36) (As := [.int (f_X5_isEnvelope σ x1), .int (1 : Int32), .int (1 : Int32)]) (rest := []) C h (k_X5_goes z1.2 (f_X5_isEnvelope σ x1) (1 : Int32) (1 : Int32) rfl) cw_X5_123 0 (mW_c0 _ _ _) rfl (mW_fst _ _ _ _) rfl rfl hl.1 (Nat.le_of_ble_eq_true rfl) dX5_send_36 ⟨Nat.le_of_ble_eq_true rfl, Nat.le_of_ble_eq_true rfl⟩ rfl rfl ⟨Nat.le_of_ble_eq_true rfl, Nat.le_of_ble_eq_true rfl⟩ (fun H locs h => ?_)
        refine W.eq (g2 := F0 m 39 ls [.int (f_X5_goes z1.2 (f_X5_isEnvelope σ x1) (1 : Int32) (1 : Int32)).1]) rfl ?_
        refine lv_if_ne (pc := 39) (tgt := 44) hx hb dX5_send_39 (by decide) (fun c9 => ?_) (fun c9 => ?_)
        · have hf := ifF c9 hf
          refine lv_aload_n (pc := 44) hx hb dX5_send_44 rfl (lv_at hl 1 rfl) ?_
          refine lv_iload_n (pc := 45) hx hb dX5_send_45 rfl (lv_at hl 2 rfl) ?_
          refine lv_iconst (pc := 46) (v := 0) hx hb dX5_send_46 (by decide) ?_
          refine lv_iconst (pc := 47) (v := -1) hx hb dX5_send_47 (by decide) ?_
          refine lv_iconst (pc := 48) (v := -1) hx hb dX5_send_48 (by decide) ?_
          obtain ⟨z2, hc2, hf⟩ := bdS hf
          refine call_VUs (pc := 49) (As := [.int x1, .int (0 : Int32), .int (-1 : Int32), .int (-1 : Int32)]) (rest := []) C h (k_X5_notes (f_X5_goes z1.2 (f_X5_isEnvelope σ x1) (1 : Int32) (1 : Int32)).2 x1 (0 : Int32) (-1 : Int32) (-1 : Int32) hc2) cw_X5_116 0 (mW_c0 _ _ _) rfl (mW_fst _ _ _ _) rfl rfl hl.1 (Nat.le_of_ble_eq_true rfl) dX5_send_49 ⟨Nat.le_of_ble_eq_true rfl, Nat.le_of_ble_eq_true rfl⟩ rfl rfl ⟨Nat.le_of_ble_eq_true rfl, Nat.le_of_ble_eq_true rfl⟩ (fun H locs h => ?_)
          refine W.eq (g2 := F0 m 52 ls []) rfl ?_
          refine lv_aload_n (pc := 52) hx hb dX5_send_52 rfl (lv_at hl 1 rfl) ?_
          refine lv_iload_n (pc := 53) hx hb dX5_send_53 rfl (lv_at hl 2 rfl) ?_
          obtain ⟨z3, hc3, hf⟩ := bdS hf
          refine call_VUs (pc := 54) (As := [.int x1]) (rest := []) C h (k_X5_looks z2 x1 hc3) cw_X5_109 0 (mW_c0 _ _ _) rfl (mW_fst _ _ _ _) rfl rfl hl.1 (Nat.le_of_ble_eq_true rfl) dX5_send_54 ⟨Nat.le_of_ble_eq_true rfl, Nat.le_of_ble_eq_true rfl⟩ rfl rfl ⟨Nat.le_of_ble_eq_true rfl, Nat.le_of_ble_eq_true rfl⟩ (fun H locs h => ?_)
          refine W.eq (g2 := F0 m 57 ls []) rfl ?_
          refine lv_aload_n (pc := 57) hx hb dX5_send_57 rfl (lv_at hl 1 rfl) ?_
          refine call_VRs (pc := 58) (As := []) (rest := []) C h (k_X5_open z3 rfl) cw_X5_137 0 (mW_c0 _ _ _) rfl rfl rfl hl.1 (Nat.le_of_ble_eq_true rfl) dX5_send_58 ⟨Nat.le_of_ble_eq_true rfl, Nat.le_of_ble_eq_true rfl⟩ rfl rfl ⟨Nat.le_of_ble_eq_true rfl, Nat.le_of_ble_eq_true rfl⟩ (fun H locs h => ?_)
          refine W.eq (g2 := F0 m 61 ls [.int (f_X5_open z3)]) rfl ?_
          obtain ⟨z4, hc4, hf⟩ := bdS hf
          refine call_SR (pc := 61) (As := [.int (f_X5_open z3)]) (rest := []) (wc := []) C h (k_X5_many (f_X5_open z3) hc4) cw_X5_120 [] rfl rfl rfl rfl hl.1 (Nat.le_of_ble_eq_true rfl) dX5_send_61 ⟨Nat.le_of_ble_eq_true rfl, Nat.le_of_ble_eq_true rfl⟩ rfl rfl ⟨Nat.le_of_ble_eq_true rfl, Nat.le_of_ble_eq_true rfl⟩ (fun H locs h => ?_)
          refine W.eq (g2 := F0 m 64 ls [.int z4]) rfl ?_
          have hf : (some (z4, z3)) = some z := hf
          cases hf
          exact ret_iU (pc := 64) C hr h dX5_send_64
        · have hf := ifT c9 hf
          refine lv_iconst (pc := 42) (v := 0) hx hb dX5_send_42 (by decide) ?_
          have hf : (some ((0 : Int32), (f_X5_goes z1.2 (f_X5_isEnvelope σ x1) (1 : Int32) (1 : Int32)).2)) = some z := hf
          cases hf
          exact ret_iU (pc := 43) C hr h dX5_send_43
abbrev rm_X5_delegated : Room := { frames := 1, cells := 0, slots := 0, locals := 22 }
def f_X5_delegated (σ : Nat → Nat → Int32) (x1 : Int32) : Option (Int32) := (if inb x1 8 then (if ((σ 12) x1.toNatClampNeg) = (-1 : Int32) then (some (-1 : Int32)) else (if inb x1 8 then (if inb x1 8 then (if (f_X5_in (σ 0 0) ((σ 13) x1.toNatClampNeg) ((σ 14) x1.toNatClampNeg)) = 0 then (some (-1 : Int32)) else (if inb x1 8 then (some ((σ 12) x1.toNatClampNeg)) else none)) else none) else none)) else none)
set_option maxHeartbeats 400000 in
set_option maxRecDepth 100000 in
theorem k_X5_delegated {q : Nat → Nat} {cA : Nat → ClassId} {D : va_G} (σ : Nat → Nat → Int32) (x1 : Int32) {z : Int32} (hf : f_X5_delegated σ x1 = some z) : CtR yX5_delegated cX5_delegated 2 (some .int) rm_X5_delegated [.ref (q 0), .int x1] D cA (mW q cA σ) (some (.int z)) 0 0 := by
  refine ctR_of (by decide) (Nat.le_of_ble_eq_true rfl) ?_
  intro p l e s m below meth c ls C hr hnm h hl
  have C : Cx p s m _ meth c cX5_delegated 2 RX5 D cA := C
  obtain ⟨hx, hb, hml, hown, hts, hK, hlk⟩ := id C
  replace hl : lv_has ls 2 [(0, .ref (q 0)), (1, .int x1)] := hl
  rw [f_X5_delegated] at hf
  refine lv_aload_n (pc := 0) hx hb dX5_delegated_0 rfl (lv_at hl 0 rfl) ?_
  refine g_get (pc := 1) (v := .ref (q 11)) C h.1 0 (mW_c0 _ _ _) fl_X5_40 rfl dX5_delegated_1 ?_
  refine lv_iload_n (pc := 4) hx hb dX5_delegated_4 rfl (lv_at hl 1 rfl) ?_
  obtain ⟨hin, hf⟩ := ifS hf
  refine g_ild (pc := 5) (n := 8) (f := (σ 12)) C h.1 11 (mW_c11 _ _ _) hin dX5_delegated_5 ?_
  refine lv_iconst (pc := 6) (v := -1) hx hb dX5_delegated_6 (by decide) ?_
  refine lv_icmp_eq (pc := 7) (tgt := 41) hx hb dX5_delegated_7 (by decide) (fun c9 => ?_) (fun c9 => ?_)
  · have hf := ifT c9 hf
    refine lv_iconst (pc := 41) (v := -1) hx hb dX5_delegated_41 (by decide) ?_
    have hf : (some (-1 : Int32)) = some z := hf
    cases hf
    exact ret_iR (pc := 42) C hr h dX5_delegated_42
  · have hf := ifF c9 hf
    refine lv_aload_n (pc := 10) hx hb dX5_delegated_10 rfl (lv_at hl 0 rfl) ?_
    refine g_get (pc := 11) (v := .int (σ 0 0)) C h.1 0 (mW_c0 _ _ _) fl_X5_113 rfl dX5_delegated_11 ?_
    refine lv_aload_n (pc := 14) hx hb dX5_delegated_14 rfl (lv_at hl 0 rfl) ?_
    refine g_get (pc := 15) (v := .ref (q 12)) C h.1 0 (mW_c0 _ _ _) fl_X5_43 rfl dX5_delegated_15 ?_
    refine lv_iload_n (pc := 18) hx hb dX5_delegated_18 rfl (lv_at hl 1 rfl) ?_
    obtain ⟨hin, hf⟩ := ifS hf
    refine g_ild (pc := 19) (n := 8) (f := (σ 13)) C h.1 12 (mW_c12 _ _ _) hin dX5_delegated_19 ?_
    refine lv_aload_n (pc := 20) hx hb dX5_delegated_20 rfl (lv_at hl 0 rfl) ?_
    refine g_get (pc := 21) (v := .ref (q 13)) C h.1 0 (mW_c0 _ _ _) fl_X5_46 rfl dX5_delegated_21 ?_
    refine lv_iload_n (pc := 24) hx hb dX5_delegated_24 rfl (lv_at hl 1 rfl) ?_
    obtain ⟨hin, hf⟩ := ifS hf
    refine g_ild (pc := 25) (n := 8) (f := (σ 14)) C h.1 13 (mW_c13 _ _ _) hin dX5_delegated_25 ?_
    refine call_SRR (pc := 26) (As := [.int (σ 0 0), .int ((σ 13) x1.toNatClampNeg), .int ((σ 14) x1.toNatClampNeg)]) (rest := []) (wc := []) C h (k_X5_in (σ 0 0) ((σ 13) x1.toNatClampNeg) ((σ 14) x1.toNatClampNeg) rfl) cw_X5_71 [] rfl rfl rfl rfl hl.1 (Nat.le_of_ble_eq_true rfl) dX5_delegated_26 ⟨Nat.le_of_ble_eq_true rfl, Nat.le_of_ble_eq_true rfl⟩ rfl rfl ⟨Nat.le_of_ble_eq_true rfl, Nat.le_of_ble_eq_true rfl⟩ (fun H locs h => ?_)
    refine W.eq (g2 := F0 m 29 ls [.int (f_X5_in (σ 0 0) ((σ 13) x1.toNatClampNeg) ((σ 14) x1.toNatClampNeg))]) rfl ?_
    refine lv_if_eq (pc := 29) (tgt := 41) hx hb dX5_delegated_29 (by decide) (fun c9 => ?_) (fun c9 => ?_)
    · have hf := ifT c9 hf
      refine lv_iconst (pc := 41) (v := -1) hx hb dX5_delegated_41 (by decide) ?_
      have hf : (some (-1 : Int32)) = some z := hf
      cases hf
      exact ret_iR (pc := 42) C hr h dX5_delegated_42
    · have hf := ifF c9 hf
      refine lv_aload_n (pc := 32) hx hb dX5_delegated_32 rfl (lv_at hl 0 rfl) ?_
      refine g_get (pc := 33) (v := .ref (q 11)) C h.1 0 (mW_c0 _ _ _) fl_X5_40 rfl dX5_delegated_33 ?_
      refine lv_iload_n (pc := 36) hx hb dX5_delegated_36 rfl (lv_at hl 1 rfl) ?_
      obtain ⟨hin, hf⟩ := ifS hf
      refine g_ild (pc := 37) (n := 8) (f := (σ 12)) C h.1 11 (mW_c11 _ _ _) hin dX5_delegated_37 ?_
      refine lv_goto (pc := 38) (tgt := 42) hx hb dX5_delegated_38 (by decide) ?_
      have hf : (some ((σ 12) x1.toNatClampNeg)) = some z := hf
      cases hf
      exact ret_iR (pc := 42) C hr h dX5_delegated_42
abbrev rm_X5_signedToday : Room := { frames := 0, cells := 0, slots := 0, locals := 0 }
def f_X5_signedToday (σ : Nat → Nat → Int32) (x1 : Int32) : Option (Int32) := (if inb x1 8 then (if ((σ 17) x1.toNatClampNeg) = (σ 0 0) then (if inb x1 8 then (some ((σ 16) x1.toNatClampNeg)) else none) else (some (0 : Int32))) else none)
set_option maxHeartbeats 400000 in
set_option maxRecDepth 100000 in
theorem k_X5_signedToday {q : Nat → Nat} {cA : Nat → ClassId} {D : va_G} (σ : Nat → Nat → Int32) (x1 : Int32) {z : Int32} (hf : f_X5_signedToday σ x1 = some z) : CtR yX5_signedToday cX5_signedToday 2 (some .int) rm_X5_signedToday [.ref (q 0), .int x1] D cA (mW q cA σ) (some (.int z)) 0 0 := by
  refine ctR_of (by decide) (Nat.le_of_ble_eq_true rfl) ?_
  intro p l e s m below meth c ls C hr hnm h hl
  have C : Cx p s m _ meth c cX5_signedToday 2 RX5 D cA := C
  obtain ⟨hx, hb, hml, hown, hts, hK, hlk⟩ := id C
  replace hl : lv_has ls 2 [(0, .ref (q 0)), (1, .int x1)] := hl
  rw [f_X5_signedToday] at hf
  refine lv_aload_n (pc := 0) hx hb dX5_signedToday_0 rfl (lv_at hl 0 rfl) ?_
  refine g_get (pc := 1) (v := .ref (q 16)) C h.1 0 (mW_c0 _ _ _) fl_X5_55 rfl dX5_signedToday_1 ?_
  refine lv_iload_n (pc := 4) hx hb dX5_signedToday_4 rfl (lv_at hl 1 rfl) ?_
  obtain ⟨hin, hf⟩ := ifS hf
  refine g_ild (pc := 5) (n := 8) (f := (σ 17)) C h.1 16 (mW_c16 _ _ _) hin dX5_signedToday_5 ?_
  refine lv_aload_n (pc := 6) hx hb dX5_signedToday_6 rfl (lv_at hl 0 rfl) ?_
  refine g_get (pc := 7) (v := .int (σ 0 0)) C h.1 0 (mW_c0 _ _ _) fl_X5_113 rfl dX5_signedToday_7 ?_
  refine lv_icmp_ne (pc := 10) (tgt := 22) hx hb dX5_signedToday_10 (by decide) (fun c9 => ?_) (fun c9 => ?_)
  · have hf := ifF c9 hf
    refine lv_iconst (pc := 22) (v := 0) hx hb dX5_signedToday_22 (by decide) ?_
    have hf : (some (0 : Int32)) = some z := hf
    cases hf
    exact ret_iR (pc := 23) C hr h dX5_signedToday_23
  · have hf := ifT c9 hf
    refine lv_aload_n (pc := 13) hx hb dX5_signedToday_13 rfl (lv_at hl 0 rfl) ?_
    refine g_get (pc := 14) (v := .ref (q 15)) C h.1 0 (mW_c0 _ _ _) fl_X5_52 rfl dX5_signedToday_14 ?_
    refine lv_iload_n (pc := 17) hx hb dX5_signedToday_17 rfl (lv_at hl 1 rfl) ?_
    obtain ⟨hin, hf⟩ := ifS hf
    refine g_ild (pc := 18) (n := 8) (f := (σ 16)) C h.1 15 (mW_c15 _ _ _) hin dX5_signedToday_18 ?_
    refine lv_goto (pc := 19) (tgt := 23) hx hb dX5_signedToday_19 (by decide) ?_
    have hf : (some ((σ 16) x1.toNatClampNeg)) = some z := hf
    cases hf
    exact ret_iR (pc := 23) C hr h dX5_signedToday_23
abbrev rm_X5_why : Room := { frames := 4, cells := 0, slots := 0, locals := 89 }
def f_X5_why (σ : Nat → Nat → Int32) (x1 x2 x3 : Int32) : Option (Int32 × (Nat → Nat → Int32)) := ((f_X5_looks σ x2).bind fun z1 => (if inb (((8 : Int32) * x2) + x3) 48 then (if (z1 18 0) = (1 : Int32) then (if (f_X5_has (f_X5_open z1) x3) = 0 then (if (z1 18 0) = (1 : Int32) then (some ((3 : Int32), z1)) else (some ((2 : Int32), z1))) else (if x1 = ((z1 6) (((8 : Int32) * x2) + x3).toNatClampNeg) then (some ((0 : Int32), z1)) else ((f_X5_delegated z1 ((z1 6) (((8 : Int32) * x2) + x3).toNatClampNeg)).bind fun z2 => (if z2 = x1 then ((f_X5_signedToday z1 ((z1 6) (((8 : Int32) * x2) + x3).toNatClampNeg)).bind fun z3 => (if inb ((z1 6) (((8 : Int32) * x2) + x3).toNatClampNeg) 8 then (if z3 < ((z1 15) ((z1 6) (((8 : Int32) * x2) + x3).toNatClampNeg).toNatClampNeg) then (some ((1 : Int32), z1)) else (some ((5 : Int32), z1))) else none)) else (some ((4 : Int32), z1)))))) else (if (z1 18 0) = (1 : Int32) then (some ((3 : Int32), z1)) else (some ((2 : Int32), z1)))) else none))
set_option maxHeartbeats 400000 in
set_option maxRecDepth 100000 in
theorem k_X5_why {q : Nat → Nat} {cA : Nat → ClassId} {D : va_G} (σ : Nat → Nat → Int32) (x1 x2 x3 : Int32) {z : Int32 × (Nat → Nat → Int32)} (hf : f_X5_why σ x1 x2 x3 = some z) : CtU yX5_why cX5_why 5 (some .int) rm_X5_why [.ref (q 0), .int x1, .int x2, .int x3] D cA (mW q cA σ) (mW q cA z.2) (some (.int z.1)) 0 0 := by
  refine ctU_of (by decide) (Nat.le_of_ble_eq_true rfl) ?_
  intro p l e s m below meth c ls C hr hnm h hl
  have C : Cx p s m _ meth c cX5_why 5 RX5 D cA := C
  obtain ⟨hx, hb, hml, hown, hts, hK, hlk⟩ := id C
  replace hl : lv_has ls 5 [(0, .ref (q 0)), (1, .int x1), (2, .int x2), (3, .int x3)] := hl
  rw [f_X5_why] at hf
  refine lv_aload_n (pc := 0) hx hb dX5_why_0 rfl (lv_at hl 0 rfl) ?_
  refine lv_iload_n (pc := 1) hx hb dX5_why_1 rfl (lv_at hl 2 rfl) ?_
  obtain ⟨z1, hc1, hf⟩ := bdS hf
  refine call_VUs (pc := 2) (As := [.int x2]) (rest := []) C h (k_X5_looks σ x2 hc1) cw_X5_109 0 (mW_c0 _ _ _) rfl (mW_fst _ _ _ _) rfl rfl hl.1 (Nat.le_of_ble_eq_true rfl) dX5_why_2 ⟨Nat.le_of_ble_eq_true rfl, Nat.le_of_ble_eq_true rfl⟩ rfl rfl ⟨Nat.le_of_ble_eq_true rfl, Nat.le_of_ble_eq_true rfl⟩ (fun H locs h => ?_)
  refine W.eq (g2 := F0 m 5 ls []) rfl ?_
  refine lv_aload_n (pc := 5) hx hb dX5_why_5 rfl (lv_at hl 0 rfl) ?_
  refine g_get (pc := 6) (v := .ref (q 5)) C h.1 0 (mW_c0 _ _ _) fl_X5_22 rfl dX5_why_6 ?_
  refine lv_bipush (pc := 9) (v := 8) hx hb dX5_why_9 (by decide) ?_
  refine lv_iload_n (pc := 11) hx hb dX5_why_11 rfl (lv_at hl 2 rfl) ?_
  refine lv_imul (pc := 12) hx hb dX5_why_12 ?_
  refine lv_iload_n (pc := 13) hx hb dX5_why_13 rfl (lv_at hl 3 rfl) ?_
  refine lv_iadd (pc := 14) hx hb dX5_why_14 ?_
  obtain ⟨hin, hf⟩ := ifS hf
  refine g_ild (pc := 15) (n := 48) (f := (z1 6)) C h.1 5 (mW_c5 _ _ _) hin dX5_why_15 ?_
  refine lv_istore (pc := 16) (lv' := [(4, .int ((z1 6) (((8 : Int32) * x2) + x3).toNatClampNeg)), (0, .ref (q 0)), (1, .int x1), (2, .int x2), (3, .int x3)]) hx hb dX5_why_16 hl (by decide) rfl (fun ls hl => ?_)
  refine lv_aload_n (pc := 18) hx hb dX5_why_18 rfl (lv_at hl 1 rfl) ?_
  refine g_get (pc := 19) (v := .int (z1 18 0)) C h.1 0 (mW_c0 _ _ _) fl_X5_92 rfl dX5_why_19 ?_
  refine lv_iconst (pc := 22) (v := 1) hx hb dX5_why_22 (by decide) ?_
  refine lv_icmp_ne (pc := 23) (tgt := 37) hx hb dX5_why_23 (by decide) (fun c9 => ?_) (fun c9 => ?_)
  · have hf := ifF c9 hf
    refine lv_aload_n (pc := 37) hx hb dX5_why_37 rfl (lv_at hl 1 rfl) ?_
    refine g_get (pc := 38) (v := .int (z1 18 0)) C h.1 0 (mW_c0 _ _ _) fl_X5_92 rfl dX5_why_38 ?_
    refine lv_iconst (pc := 41) (v := 1) hx hb dX5_why_41 (by decide) ?_
    refine lv_icmp_eq (pc := 42) (tgt := 49) hx hb dX5_why_42 (by decide) (fun c9 => ?_) (fun c9 => ?_)
    · have hf := ifT c9 hf
      refine lv_iconst (pc := 49) (v := 3) hx hb dX5_why_49 (by decide) ?_
      have hf : (some ((3 : Int32), z1)) = some z := hf
      cases hf
      exact ret_iU (pc := 50) C hr h dX5_why_50
    · have hf := ifF c9 hf
      refine lv_iconst (pc := 45) (v := 2) hx hb dX5_why_45 (by decide) ?_
      refine lv_goto (pc := 46) (tgt := 50) hx hb dX5_why_46 (by decide) ?_
      have hf : (some ((2 : Int32), z1)) = some z := hf
      cases hf
      exact ret_iU (pc := 50) C hr h dX5_why_50
  · have hf := ifT c9 hf
    refine lv_aload_n (pc := 26) hx hb dX5_why_26 rfl (lv_at hl 1 rfl) ?_
    refine call_VRs (pc := 27) (As := []) (rest := []) C h (k_X5_open z1 rfl) cw_X5_137 0 (mW_c0 _ _ _) rfl rfl rfl hl.1 (Nat.le_of_ble_eq_true rfl) dX5_why_27 ⟨Nat.le_of_ble_eq_true rfl, Nat.le_of_ble_eq_true rfl⟩ rfl rfl ⟨Nat.le_of_ble_eq_true rfl, Nat.le_of_ble_eq_true rfl⟩ (fun H locs h => ?_)
    refine W.eq (g2 := F0 m 30 ls [.int (f_X5_open z1)]) rfl ?_
    refine lv_iload_n (pc := 30) hx hb dX5_why_30 rfl (lv_at hl 4 rfl) ?_
    refine call_SR (pc := 31) (As := [.int (f_X5_open z1), .int x3]) (rest := []) (wc := []) C h (k_X5_has (f_X5_open z1) x3 rfl) cw_X5_85 [] rfl rfl rfl rfl hl.1 (Nat.le_of_ble_eq_true rfl) dX5_why_31 ⟨Nat.le_of_ble_eq_true rfl, Nat.le_of_ble_eq_true rfl⟩ rfl rfl ⟨Nat.le_of_ble_eq_true rfl, Nat.le_of_ble_eq_true rfl⟩ (fun H locs h => ?_)
    refine W.eq (g2 := F0 m 34 ls [.int (f_X5_has (f_X5_open z1) x3)]) rfl ?_
    refine lv_if_ne (pc := 34) (tgt := 51) hx hb dX5_why_34 (by decide) (fun c9 => ?_) (fun c9 => ?_)
    · have hf := ifF c9 hf
      refine lv_iload_n (pc := 51) hx hb dX5_why_51 rfl (lv_at hl 2 rfl) ?_
      refine lv_iload (pc := 52) hx hb dX5_why_52 (lv_at hl 0 rfl) ?_
      refine lv_icmp_ne (pc := 54) (tgt := 59) hx hb dX5_why_54 (by decide) (fun c9 => ?_) (fun c9 => ?_)
      · have hf := ifF c9 hf
        refine lv_aload_n (pc := 59) hx hb dX5_why_59 rfl (lv_at hl 1 rfl) ?_
        refine lv_iload (pc := 60) hx hb dX5_why_60 (lv_at hl 0 rfl) ?_
        obtain ⟨z2, hc2, hf⟩ := bdS hf
        refine call_VRs (pc := 62) (As := [.int ((z1 6) (((8 : Int32) * x2) + x3).toNatClampNeg)]) (rest := []) C h (k_X5_delegated z1 ((z1 6) (((8 : Int32) * x2) + x3).toNatClampNeg) hc2) cw_X5_141 0 (mW_c0 _ _ _) rfl rfl rfl hl.1 (Nat.le_of_ble_eq_true rfl) dX5_why_62 ⟨Nat.le_of_ble_eq_true rfl, Nat.le_of_ble_eq_true rfl⟩ rfl rfl ⟨Nat.le_of_ble_eq_true rfl, Nat.le_of_ble_eq_true rfl⟩ (fun H locs h => ?_)
        refine W.eq (g2 := F0 m 65 ls [.int z2]) rfl ?_
        refine lv_iload_n (pc := 65) hx hb dX5_why_65 rfl (lv_at hl 2 rfl) ?_
        refine lv_icmp_eq (pc := 66) (tgt := 73) hx hb dX5_why_66 (by decide) (fun c9 => ?_) (fun c9 => ?_)
        · have hf := ifT c9 hf
          refine lv_aload_n (pc := 73) hx hb dX5_why_73 rfl (lv_at hl 1 rfl) ?_
          refine lv_iload (pc := 74) hx hb dX5_why_74 (lv_at hl 0 rfl) ?_
          obtain ⟨z3, hc3, hf⟩ := bdS hf
          refine call_VRs (pc := 76) (As := [.int ((z1 6) (((8 : Int32) * x2) + x3).toNatClampNeg)]) (rest := []) C h (k_X5_signedToday z1 ((z1 6) (((8 : Int32) * x2) + x3).toNatClampNeg) hc3) cw_X5_144 0 (mW_c0 _ _ _) rfl rfl rfl hl.1 (Nat.le_of_ble_eq_true rfl) dX5_why_76 ⟨Nat.le_of_ble_eq_true rfl, Nat.le_of_ble_eq_true rfl⟩ rfl rfl ⟨Nat.le_of_ble_eq_true rfl, Nat.le_of_ble_eq_true rfl⟩ (fun H locs h => ?_)
          refine W.eq (g2 := F0 m 79 ls [.int z3]) rfl ?_
          refine lv_aload_n (pc := 79) hx hb dX5_why_79 rfl (lv_at hl 1 rfl) ?_
          refine g_get (pc := 80) (v := .ref (q 14)) C h.1 0 (mW_c0 _ _ _) fl_X5_49 rfl dX5_why_80 ?_
          refine lv_iload (pc := 83) hx hb dX5_why_83 (lv_at hl 0 rfl) ?_
          obtain ⟨hin, hf⟩ := ifS hf
          refine g_ild (pc := 85) (n := 8) (f := (z1 15)) C h.1 14 (mW_c14 _ _ _) hin dX5_why_85 ?_
          refine lv_icmp_lt (pc := 86) (tgt := 93) hx hb dX5_why_86 (by decide) (fun c9 => ?_) (fun c9 => ?_)
          · have hf := ifT c9 hf
            refine lv_iconst (pc := 93) (v := 1) hx hb dX5_why_93 (by decide) ?_
            have hf : (some ((1 : Int32), z1)) = some z := hf
            cases hf
            exact ret_iU (pc := 94) C hr h dX5_why_94
          · have hf := ifF c9 hf
            refine lv_iconst (pc := 89) (v := 5) hx hb dX5_why_89 (by decide) ?_
            refine lv_goto (pc := 90) (tgt := 94) hx hb dX5_why_90 (by decide) ?_
            have hf : (some ((5 : Int32), z1)) = some z := hf
            cases hf
            exact ret_iU (pc := 94) C hr h dX5_why_94
        · have hf := ifF c9 hf
          refine lv_iconst (pc := 69) (v := 4) hx hb dX5_why_69 (by decide) ?_
          refine lv_goto (pc := 70) (tgt := 94) hx hb dX5_why_70 (by decide) ?_
          have hf : (some ((4 : Int32), z1)) = some z := hf
          cases hf
          exact ret_iU (pc := 94) C hr h dX5_why_94
      · have hf := ifT c9 hf
        refine lv_iconst (pc := 57) (v := 0) hx hb dX5_why_57 (by decide) ?_
        have hf : (some ((0 : Int32), z1)) = some z := hf
        cases hf
        exact ret_iU (pc := 58) C hr h dX5_why_58
    · have hf := ifT c9 hf
      refine lv_aload_n (pc := 37) hx hb dX5_why_37 rfl (lv_at hl 1 rfl) ?_
      refine g_get (pc := 38) (v := .int (z1 18 0)) C h.1 0 (mW_c0 _ _ _) fl_X5_92 rfl dX5_why_38 ?_
      refine lv_iconst (pc := 41) (v := 1) hx hb dX5_why_41 (by decide) ?_
      refine lv_icmp_eq (pc := 42) (tgt := 49) hx hb dX5_why_42 (by decide) (fun c9 => ?_) (fun c9 => ?_)
      · have hf := ifT c9 hf
        refine lv_iconst (pc := 49) (v := 3) hx hb dX5_why_49 (by decide) ?_
        have hf : (some ((3 : Int32), z1)) = some z := hf
        cases hf
        exact ret_iU (pc := 50) C hr h dX5_why_50
      · have hf := ifF c9 hf
        refine lv_iconst (pc := 45) (v := 2) hx hb dX5_why_45 (by decide) ?_
        refine lv_goto (pc := 46) (tgt := 50) hx hb dX5_why_46 (by decide) ?_
        have hf : (some ((2 : Int32), z1)) = some z := hf
        cases hf
        exact ret_iU (pc := 50) C hr h dX5_why_50
abbrev rm_X5_sign : Room := { frames := 5, cells := 0, slots := 0, locals := 113 }
def f_X5_sign (σ : Nat → Nat → Int32) (x1 x2 x3 : Int32) : Option (Int32 × (Nat → Nat → Int32)) := (if (f_X5_isPerson x1) = 0 then (if (f_X5_goes σ (0 : Int32) (0 : Int32) (1 : Int32)).1 = 0 then (some ((0 : Int32), (f_X5_goes σ (0 : Int32) (0 : Int32) (1 : Int32)).2)) else (if inb (((8 : Int32) * x2) + x3) 48 then (if x1 = (((f_X5_goes σ (0 : Int32) (0 : Int32) (1 : Int32)).2 6) (((8 : Int32) * x2) + x3).toNatClampNeg) then (if x1 = (((f_X5_goes σ (0 : Int32) (0 : Int32) (1 : Int32)).2 6) (((8 : Int32) * x2) + x3).toNatClampNeg) then ((f_X5_notes (f_X5_goes σ (0 : Int32) (0 : Int32) (1 : Int32)).2 x2 (1 : Int32) x1 x3).bind fun z1 => ((f_X5_looks z1 x2).bind fun z2 => ((f_X5_many ((f_X5_open z2) &&& ((f_X5_open (f_X5_goes σ (0 : Int32) (0 : Int32) (1 : Int32)).2) ^^^ (-1 : Int32)))).bind fun z3 => (some (z3, z2))))) else ((f_X5_notes (f_X5_goes σ (0 : Int32) (0 : Int32) (1 : Int32)).2 x2 (2 : Int32) x1 x3).bind fun z1 => ((f_X5_looks z1 x2).bind fun z2 => ((f_X5_many ((f_X5_open z2) &&& ((f_X5_open (f_X5_goes σ (0 : Int32) (0 : Int32) (1 : Int32)).2) ^^^ (-1 : Int32)))).bind fun z3 => (some (z3, z2)))))) else ((f_X5_signedToday (f_X5_goes σ (0 : Int32) (0 : Int32) (1 : Int32)).2 (((f_X5_goes σ (0 : Int32) (0 : Int32) (1 : Int32)).2 6) (((8 : Int32) * x2) + x3).toNatClampNeg)).bind fun z1 => (if inb (((f_X5_goes σ (0 : Int32) (0 : Int32) (1 : Int32)).2 6) (((8 : Int32) * x2) + x3).toNatClampNeg) 8 then (lt (va_up (f_X5_goes σ (0 : Int32) (0 : Int32) (1 : Int32)).2 16 (upd ((f_X5_goes σ (0 : Int32) (0 : Int32) (1 : Int32)).2 16) (((f_X5_goes σ (0 : Int32) (0 : Int32) (1 : Int32)).2 6) (((8 : Int32) * x2) + x3).toNatClampNeg).toNatClampNeg (z1 + (1 : Int32)))) fun t2 => (if inb (((f_X5_goes σ (0 : Int32) (0 : Int32) (1 : Int32)).2 6) (((8 : Int32) * x2) + x3).toNatClampNeg) 8 then (lt (va_up t2 17 (upd (t2 17) (((f_X5_goes σ (0 : Int32) (0 : Int32) (1 : Int32)).2 6) (((8 : Int32) * x2) + x3).toNatClampNeg).toNatClampNeg (t2 0 0))) fun t3 => (if x1 = (((f_X5_goes σ (0 : Int32) (0 : Int32) (1 : Int32)).2 6) (((8 : Int32) * x2) + x3).toNatClampNeg) then ((f_X5_notes t3 x2 (1 : Int32) x1 x3).bind fun z4 => ((f_X5_looks z4 x2).bind fun z5 => ((f_X5_many ((f_X5_open z5) &&& ((f_X5_open (f_X5_goes σ (0 : Int32) (0 : Int32) (1 : Int32)).2) ^^^ (-1 : Int32)))).bind fun z6 => (some (z6, z5))))) else ((f_X5_notes t3 x2 (2 : Int32) x1 x3).bind fun z4 => ((f_X5_looks z4 x2).bind fun z5 => ((f_X5_many ((f_X5_open z5) &&& ((f_X5_open (f_X5_goes σ (0 : Int32) (0 : Int32) (1 : Int32)).2) ^^^ (-1 : Int32)))).bind fun z6 => (some (z6, z5))))))) else none)) else none))) else none)) else ((f_X5_isSlot σ x2 x3).bind fun z1 => (if z1 = 0 then (if (f_X5_goes σ (0 : Int32) (0 : Int32) (1 : Int32)).1 = 0 then (some ((0 : Int32), (f_X5_goes σ (0 : Int32) (0 : Int32) (1 : Int32)).2)) else (if inb (((8 : Int32) * x2) + x3) 48 then (if x1 = (((f_X5_goes σ (0 : Int32) (0 : Int32) (1 : Int32)).2 6) (((8 : Int32) * x2) + x3).toNatClampNeg) then (if x1 = (((f_X5_goes σ (0 : Int32) (0 : Int32) (1 : Int32)).2 6) (((8 : Int32) * x2) + x3).toNatClampNeg) then ((f_X5_notes (f_X5_goes σ (0 : Int32) (0 : Int32) (1 : Int32)).2 x2 (1 : Int32) x1 x3).bind fun z2 => ((f_X5_looks z2 x2).bind fun z3 => ((f_X5_many ((f_X5_open z3) &&& ((f_X5_open (f_X5_goes σ (0 : Int32) (0 : Int32) (1 : Int32)).2) ^^^ (-1 : Int32)))).bind fun z4 => (some (z4, z3))))) else ((f_X5_notes (f_X5_goes σ (0 : Int32) (0 : Int32) (1 : Int32)).2 x2 (2 : Int32) x1 x3).bind fun z2 => ((f_X5_looks z2 x2).bind fun z3 => ((f_X5_many ((f_X5_open z3) &&& ((f_X5_open (f_X5_goes σ (0 : Int32) (0 : Int32) (1 : Int32)).2) ^^^ (-1 : Int32)))).bind fun z4 => (some (z4, z3)))))) else ((f_X5_signedToday (f_X5_goes σ (0 : Int32) (0 : Int32) (1 : Int32)).2 (((f_X5_goes σ (0 : Int32) (0 : Int32) (1 : Int32)).2 6) (((8 : Int32) * x2) + x3).toNatClampNeg)).bind fun z2 => (if inb (((f_X5_goes σ (0 : Int32) (0 : Int32) (1 : Int32)).2 6) (((8 : Int32) * x2) + x3).toNatClampNeg) 8 then (lt (va_up (f_X5_goes σ (0 : Int32) (0 : Int32) (1 : Int32)).2 16 (upd ((f_X5_goes σ (0 : Int32) (0 : Int32) (1 : Int32)).2 16) (((f_X5_goes σ (0 : Int32) (0 : Int32) (1 : Int32)).2 6) (((8 : Int32) * x2) + x3).toNatClampNeg).toNatClampNeg (z2 + (1 : Int32)))) fun t3 => (if inb (((f_X5_goes σ (0 : Int32) (0 : Int32) (1 : Int32)).2 6) (((8 : Int32) * x2) + x3).toNatClampNeg) 8 then (lt (va_up t3 17 (upd (t3 17) (((f_X5_goes σ (0 : Int32) (0 : Int32) (1 : Int32)).2 6) (((8 : Int32) * x2) + x3).toNatClampNeg).toNatClampNeg (t3 0 0))) fun t4 => (if x1 = (((f_X5_goes σ (0 : Int32) (0 : Int32) (1 : Int32)).2 6) (((8 : Int32) * x2) + x3).toNatClampNeg) then ((f_X5_notes t4 x2 (1 : Int32) x1 x3).bind fun z5 => ((f_X5_looks z5 x2).bind fun z6 => ((f_X5_many ((f_X5_open z6) &&& ((f_X5_open (f_X5_goes σ (0 : Int32) (0 : Int32) (1 : Int32)).2) ^^^ (-1 : Int32)))).bind fun z7 => (some (z7, z6))))) else ((f_X5_notes t4 x2 (2 : Int32) x1 x3).bind fun z5 => ((f_X5_looks z5 x2).bind fun z6 => ((f_X5_many ((f_X5_open z6) &&& ((f_X5_open (f_X5_goes σ (0 : Int32) (0 : Int32) (1 : Int32)).2) ^^^ (-1 : Int32)))).bind fun z7 => (some (z7, z6))))))) else none)) else none))) else none)) else ((f_X5_why σ x1 x2 x3).bind fun z2 => (if (2 : Int32) ≤ z2.1 then (if (f_X5_goes z2.2 (1 : Int32) (0 : Int32) (1 : Int32)).1 = 0 then (some ((0 : Int32), (f_X5_goes z2.2 (1 : Int32) (0 : Int32) (1 : Int32)).2)) else (if inb (((8 : Int32) * x2) + x3) 48 then (if x1 = (((f_X5_goes z2.2 (1 : Int32) (0 : Int32) (1 : Int32)).2 6) (((8 : Int32) * x2) + x3).toNatClampNeg) then (if x1 = (((f_X5_goes z2.2 (1 : Int32) (0 : Int32) (1 : Int32)).2 6) (((8 : Int32) * x2) + x3).toNatClampNeg) then ((f_X5_notes (f_X5_goes z2.2 (1 : Int32) (0 : Int32) (1 : Int32)).2 x2 (1 : Int32) x1 x3).bind fun z3 => ((f_X5_looks z3 x2).bind fun z4 => ((f_X5_many ((f_X5_open z4) &&& ((f_X5_open (f_X5_goes z2.2 (1 : Int32) (0 : Int32) (1 : Int32)).2) ^^^ (-1 : Int32)))).bind fun z5 => (some (z5, z4))))) else ((f_X5_notes (f_X5_goes z2.2 (1 : Int32) (0 : Int32) (1 : Int32)).2 x2 (2 : Int32) x1 x3).bind fun z3 => ((f_X5_looks z3 x2).bind fun z4 => ((f_X5_many ((f_X5_open z4) &&& ((f_X5_open (f_X5_goes z2.2 (1 : Int32) (0 : Int32) (1 : Int32)).2) ^^^ (-1 : Int32)))).bind fun z5 => (some (z5, z4)))))) else ((f_X5_signedToday (f_X5_goes z2.2 (1 : Int32) (0 : Int32) (1 : Int32)).2 (((f_X5_goes z2.2 (1 : Int32) (0 : Int32) (1 : Int32)).2 6) (((8 : Int32) * x2) + x3).toNatClampNeg)).bind fun z3 => (if inb (((f_X5_goes z2.2 (1 : Int32) (0 : Int32) (1 : Int32)).2 6) (((8 : Int32) * x2) + x3).toNatClampNeg) 8 then (lt (va_up (f_X5_goes z2.2 (1 : Int32) (0 : Int32) (1 : Int32)).2 16 (upd ((f_X5_goes z2.2 (1 : Int32) (0 : Int32) (1 : Int32)).2 16) (((f_X5_goes z2.2 (1 : Int32) (0 : Int32) (1 : Int32)).2 6) (((8 : Int32) * x2) + x3).toNatClampNeg).toNatClampNeg (z3 + (1 : Int32)))) fun t4 => (if inb (((f_X5_goes z2.2 (1 : Int32) (0 : Int32) (1 : Int32)).2 6) (((8 : Int32) * x2) + x3).toNatClampNeg) 8 then (lt (va_up t4 17 (upd (t4 17) (((f_X5_goes z2.2 (1 : Int32) (0 : Int32) (1 : Int32)).2 6) (((8 : Int32) * x2) + x3).toNatClampNeg).toNatClampNeg (t4 0 0))) fun t5 => (if x1 = (((f_X5_goes z2.2 (1 : Int32) (0 : Int32) (1 : Int32)).2 6) (((8 : Int32) * x2) + x3).toNatClampNeg) then ((f_X5_notes t5 x2 (1 : Int32) x1 x3).bind fun z6 => ((f_X5_looks z6 x2).bind fun z7 => ((f_X5_many ((f_X5_open z7) &&& ((f_X5_open (f_X5_goes z2.2 (1 : Int32) (0 : Int32) (1 : Int32)).2) ^^^ (-1 : Int32)))).bind fun z8 => (some (z8, z7))))) else ((f_X5_notes t5 x2 (2 : Int32) x1 x3).bind fun z6 => ((f_X5_looks z6 x2).bind fun z7 => ((f_X5_many ((f_X5_open z7) &&& ((f_X5_open (f_X5_goes z2.2 (1 : Int32) (0 : Int32) (1 : Int32)).2) ^^^ (-1 : Int32)))).bind fun z8 => (some (z8, z7))))))) else none)) else none))) else none)) else (if (f_X5_goes z2.2 (1 : Int32) (1 : Int32) (1 : Int32)).1 = 0 then (some ((0 : Int32), (f_X5_goes z2.2 (1 : Int32) (1 : Int32) (1 : Int32)).2)) else (if inb (((8 : Int32) * x2) + x3) 48 then (if x1 = (((f_X5_goes z2.2 (1 : Int32) (1 : Int32) (1 : Int32)).2 6) (((8 : Int32) * x2) + x3).toNatClampNeg) then (if x1 = (((f_X5_goes z2.2 (1 : Int32) (1 : Int32) (1 : Int32)).2 6) (((8 : Int32) * x2) + x3).toNatClampNeg) then ((f_X5_notes (f_X5_goes z2.2 (1 : Int32) (1 : Int32) (1 : Int32)).2 x2 (1 : Int32) x1 x3).bind fun z3 => ((f_X5_looks z3 x2).bind fun z4 => ((f_X5_many ((f_X5_open z4) &&& ((f_X5_open (f_X5_goes z2.2 (1 : Int32) (1 : Int32) (1 : Int32)).2) ^^^ (-1 : Int32)))).bind fun z5 => (some (z5, z4))))) else ((f_X5_notes (f_X5_goes z2.2 (1 : Int32) (1 : Int32) (1 : Int32)).2 x2 (2 : Int32) x1 x3).bind fun z3 => ((f_X5_looks z3 x2).bind fun z4 => ((f_X5_many ((f_X5_open z4) &&& ((f_X5_open (f_X5_goes z2.2 (1 : Int32) (1 : Int32) (1 : Int32)).2) ^^^ (-1 : Int32)))).bind fun z5 => (some (z5, z4)))))) else ((f_X5_signedToday (f_X5_goes z2.2 (1 : Int32) (1 : Int32) (1 : Int32)).2 (((f_X5_goes z2.2 (1 : Int32) (1 : Int32) (1 : Int32)).2 6) (((8 : Int32) * x2) + x3).toNatClampNeg)).bind fun z3 => (if inb (((f_X5_goes z2.2 (1 : Int32) (1 : Int32) (1 : Int32)).2 6) (((8 : Int32) * x2) + x3).toNatClampNeg) 8 then (lt (va_up (f_X5_goes z2.2 (1 : Int32) (1 : Int32) (1 : Int32)).2 16 (upd ((f_X5_goes z2.2 (1 : Int32) (1 : Int32) (1 : Int32)).2 16) (((f_X5_goes z2.2 (1 : Int32) (1 : Int32) (1 : Int32)).2 6) (((8 : Int32) * x2) + x3).toNatClampNeg).toNatClampNeg (z3 + (1 : Int32)))) fun t4 => (if inb (((f_X5_goes z2.2 (1 : Int32) (1 : Int32) (1 : Int32)).2 6) (((8 : Int32) * x2) + x3).toNatClampNeg) 8 then (lt (va_up t4 17 (upd (t4 17) (((f_X5_goes z2.2 (1 : Int32) (1 : Int32) (1 : Int32)).2 6) (((8 : Int32) * x2) + x3).toNatClampNeg).toNatClampNeg (t4 0 0))) fun t5 => (if x1 = (((f_X5_goes z2.2 (1 : Int32) (1 : Int32) (1 : Int32)).2 6) (((8 : Int32) * x2) + x3).toNatClampNeg) then ((f_X5_notes t5 x2 (1 : Int32) x1 x3).bind fun z6 => ((f_X5_looks z6 x2).bind fun z7 => ((f_X5_many ((f_X5_open z7) &&& ((f_X5_open (f_X5_goes z2.2 (1 : Int32) (1 : Int32) (1 : Int32)).2) ^^^ (-1 : Int32)))).bind fun z8 => (some (z8, z7))))) else ((f_X5_notes t5 x2 (2 : Int32) x1 x3).bind fun z6 => ((f_X5_looks z6 x2).bind fun z7 => ((f_X5_many ((f_X5_open z7) &&& ((f_X5_open (f_X5_goes z2.2 (1 : Int32) (1 : Int32) (1 : Int32)).2) ^^^ (-1 : Int32)))).bind fun z8 => (some (z8, z7))))))) else none)) else none))) else none)))))))
set_option maxHeartbeats 400000 in
set_option maxRecDepth 100000 in
theorem k_X5_sign {q : Nat → Nat} {cA : Nat → ClassId} {D : va_G} (σ : Nat → Nat → Int32) (x1 x2 x3 : Int32) {z : Int32 × (Nat → Nat → Int32)} (hf : f_X5_sign σ x1 x2 x3 = some z) : CtU yX5_sign cX5_sign 7 (some .int) rm_X5_sign [.ref (q 0), .int x1, .int x2, .int x3] D cA (mW q cA σ) (mW q cA z.2) (some (.int z.1)) 0 0 := by
  refine ctU_of (by decide) (Nat.le_of_ble_eq_true rfl) ?_
  intro p l e s m below meth c ls C hr hnm h hl
  have C : Cx p s m _ meth c cX5_sign 7 RX5 D cA := C
  obtain ⟨hx, hb, hml, hown, hts, hK, hlk⟩ := id C
  replace hl : lv_has ls 7 [(0, .ref (q 0)), (1, .int x1), (2, .int x2), (3, .int x3)] := hl
  rw [f_X5_sign] at hf
  refine lv_iload_n (pc := 0) hx hb dX5_sign_0 rfl (lv_at hl 1 rfl) ?_
  refine call_SR (pc := 1) (As := [.int x1]) (rest := []) (wc := []) C h (k_X5_isPerson x1 rfl) cw_X5_127 [] rfl rfl rfl rfl hl.1 (Nat.le_of_ble_eq_true rfl) dX5_sign_1 ⟨Nat.le_of_ble_eq_true rfl, Nat.le_of_ble_eq_true rfl⟩ rfl rfl ⟨Nat.le_of_ble_eq_true rfl, Nat.le_of_ble_eq_true rfl⟩ (fun H locs h => ?_)
  refine W.eq (g2 := F0 m 4 ls [.int (f_X5_isPerson x1)]) rfl ?_
  refine lv_if_eq (pc := 4) (tgt := 20) hx hb dX5_sign_4 (by decide) (fun c9 => ?_) (fun c9 => ?_)
  · have hf := ifT c9 hf
    refine lv_iconst (pc := 20) (v := 0) hx hb dX5_sign_20 (by decide) ?_
    refine lv_istore (pc := 21) (lv' := [(4, .int (0 : Int32)), (0, .ref (q 0)), (1, .int x1), (2, .int x2), (3, .int x3)]) hx hb dX5_sign_21 hl (by decide) rfl (fun ls hl => ?_)
    refine lv_aload_n (pc := 23) hx hb dX5_sign_23 rfl (lv_at hl 1 rfl) ?_
    refine lv_iload (pc := 24) hx hb dX5_sign_24 (lv_at hl 0 rfl) ?_
    refine lv_iload (pc := 26) hx hb dX5_sign_26 (lv_at hl 0 rfl) ?_
    refine lv_if_eq (pc := 28) (tgt := 46) hx hb dX5_sign_28 (by decide) (fun _ => ?_) (fun c9 => absurd c9 (by decide))
    refine lv_iconst (pc := 46) (v := 0) hx hb dX5_sign_46 (by decide) ?_
    refine lv_iconst (pc := 47) (v := 1) hx hb dX5_sign_47 (by decide) ?_
    refine call_VUs (pc := 48) (As := [.int (0 : Int32), .int (0 : Int32), .int (1 : Int32)]) (rest := []) C h (k_X5_goes σ (0 : Int32) (0 : Int32) (1 : Int32) rfl) cw_X5_123 0 (mW_c0 _ _ _) rfl (mW_fst _ _ _ _) rfl rfl hl.1 (Nat.le_of_ble_eq_true rfl) dX5_sign_48 ⟨Nat.le_of_ble_eq_true rfl, Nat.le_of_ble_eq_true rfl⟩ rfl rfl ⟨Nat.le_of_ble_eq_true rfl, Nat.le_of_ble_eq_true rfl⟩ (fun H locs h => ?_)
    refine W.eq (g2 := F0 m 51 ls [.int (f_X5_goes σ (0 : Int32) (0 : Int32) (1 : Int32)).1]) rfl ?_
    refine lv_if_ne (pc := 51) (tgt := 56) hx hb dX5_sign_51 (by decide) (fun c9 => ?_) (fun c9 => ?_)
    · have hf := ifF c9 hf
      refine lv_aload_n (pc := 56) hx hb dX5_sign_56 rfl (lv_at hl 1 rfl) ?_
      refine g_get (pc := 57) (v := .ref (q 5)) C h.1 0 (mW_c0 _ _ _) fl_X5_22 rfl dX5_sign_57 ?_
      refine lv_bipush (pc := 60) (v := 8) hx hb dX5_sign_60 (by decide) ?_
      refine lv_iload_n (pc := 62) hx hb dX5_sign_62 rfl (lv_at hl 3 rfl) ?_
      refine lv_imul (pc := 63) hx hb dX5_sign_63 ?_
      refine lv_iload_n (pc := 64) hx hb dX5_sign_64 rfl (lv_at hl 4 rfl) ?_
      refine lv_iadd (pc := 65) hx hb dX5_sign_65 ?_
      obtain ⟨hin, hf⟩ := ifS hf
      refine g_ild (pc := 66) (n := 48) (f := ((f_X5_goes σ (0 : Int32) (0 : Int32) (1 : Int32)).2 6)) C h.1 5 (mW_c5 _ _ _) hin dX5_sign_66 ?_
      refine lv_istore (pc := 67) (lv' := [(5, .int (((f_X5_goes σ (0 : Int32) (0 : Int32) (1 : Int32)).2 6) (((8 : Int32) * x2) + x3).toNatClampNeg)), (4, .int (0 : Int32)), (0, .ref (q 0)), (1, .int x1), (2, .int x2), (3, .int x3)]) hx hb dX5_sign_67 hl (by decide) rfl (fun ls hl => ?_)
      refine lv_aload_n (pc := 69) hx hb dX5_sign_69 rfl (lv_at hl 2 rfl) ?_
      refine call_VRs (pc := 70) (As := []) (rest := []) C h (k_X5_open (f_X5_goes σ (0 : Int32) (0 : Int32) (1 : Int32)).2 rfl) cw_X5_137 0 (mW_c0 _ _ _) rfl rfl rfl hl.1 (Nat.le_of_ble_eq_true rfl) dX5_sign_70 ⟨Nat.le_of_ble_eq_true rfl, Nat.le_of_ble_eq_true rfl⟩ rfl rfl ⟨Nat.le_of_ble_eq_true rfl, Nat.le_of_ble_eq_true rfl⟩ (fun H locs h => ?_)
      refine W.eq (g2 := F0 m 73 ls [.int (f_X5_open (f_X5_goes σ (0 : Int32) (0 : Int32) (1 : Int32)).2)]) rfl ?_
      refine lv_istore (pc := 73) (lv' := [(6, .int (f_X5_open (f_X5_goes σ (0 : Int32) (0 : Int32) (1 : Int32)).2)), (5, .int (((f_X5_goes σ (0 : Int32) (0 : Int32) (1 : Int32)).2 6) (((8 : Int32) * x2) + x3).toNatClampNeg)), (4, .int (0 : Int32)), (0, .ref (q 0)), (1, .int x1), (2, .int x2), (3, .int x3)]) hx hb dX5_sign_73 hl (by decide) rfl (fun ls hl => ?_)
      refine lv_iload_n (pc := 75) hx hb dX5_sign_75 rfl (lv_at hl 4 rfl) ?_
      refine lv_iload (pc := 76) hx hb dX5_sign_76 (lv_at hl 1 rfl) ?_
      refine lv_icmp_eq (pc := 78) (tgt := 107) hx hb dX5_sign_78 (by decide) (fun c9 => ?_) (fun c9 => ?_)
      · have hf := ifT c9 hf
        refine lv_aload_n (pc := 107) hx hb dX5_sign_107 rfl (lv_at hl 3 rfl) ?_
        refine lv_iload_n (pc := 108) hx hb dX5_sign_108 rfl (lv_at hl 5 rfl) ?_
        refine lv_iload_n (pc := 109) hx hb dX5_sign_109 rfl (lv_at hl 4 rfl) ?_
        refine lv_iload (pc := 110) hx hb dX5_sign_110 (lv_at hl 1 rfl) ?_
        refine lv_icmp_ne (pc := 112) (tgt := 119) hx hb dX5_sign_112 (by decide) (fun c9 => ?_) (fun c9 => ?_)
        · have hf := ifF c9 hf
          refine lv_iconst (pc := 119) (v := 2) hx hb dX5_sign_119 (by decide) ?_
          refine lv_iload_n (pc := 120) hx hb dX5_sign_120 rfl (lv_at hl 4 rfl) ?_
          refine lv_iload_n (pc := 121) hx hb dX5_sign_121 rfl (lv_at hl 6 rfl) ?_
          obtain ⟨z1, hc1, hf⟩ := bdS hf
          refine call_VUs (pc := 122) (As := [.int x2, .int (2 : Int32), .int x1, .int x3]) (rest := []) C h (k_X5_notes (f_X5_goes σ (0 : Int32) (0 : Int32) (1 : Int32)).2 x2 (2 : Int32) x1 x3 hc1) cw_X5_116 0 (mW_c0 _ _ _) rfl (mW_fst _ _ _ _) rfl rfl hl.1 (Nat.le_of_ble_eq_true rfl) dX5_sign_122 ⟨Nat.le_of_ble_eq_true rfl, Nat.le_of_ble_eq_true rfl⟩ rfl rfl ⟨Nat.le_of_ble_eq_true rfl, Nat.le_of_ble_eq_true rfl⟩ (fun H locs h => ?_)
          refine W.eq (g2 := F0 m 125 ls []) rfl ?_
          refine lv_aload_n (pc := 125) hx hb dX5_sign_125 rfl (lv_at hl 3 rfl) ?_
          refine lv_iload_n (pc := 126) hx hb dX5_sign_126 rfl (lv_at hl 5 rfl) ?_
          obtain ⟨z2, hc2, hf⟩ := bdS hf
          refine call_VUs (pc := 127) (As := [.int x2]) (rest := []) C h (k_X5_looks z1 x2 hc2) cw_X5_109 0 (mW_c0 _ _ _) rfl (mW_fst _ _ _ _) rfl rfl hl.1 (Nat.le_of_ble_eq_true rfl) dX5_sign_127 ⟨Nat.le_of_ble_eq_true rfl, Nat.le_of_ble_eq_true rfl⟩ rfl rfl ⟨Nat.le_of_ble_eq_true rfl, Nat.le_of_ble_eq_true rfl⟩ (fun H locs h => ?_)
          refine W.eq (g2 := F0 m 130 ls []) rfl ?_
          refine lv_aload_n (pc := 130) hx hb dX5_sign_130 rfl (lv_at hl 3 rfl) ?_
          refine call_VRs (pc := 131) (As := []) (rest := []) C h (k_X5_open z2 rfl) cw_X5_137 0 (mW_c0 _ _ _) rfl rfl rfl hl.1 (Nat.le_of_ble_eq_true rfl) dX5_sign_131 ⟨Nat.le_of_ble_eq_true rfl, Nat.le_of_ble_eq_true rfl⟩ rfl rfl ⟨Nat.le_of_ble_eq_true rfl, Nat.le_of_ble_eq_true rfl⟩ (fun H locs h => ?_)
          refine W.eq (g2 := F0 m 134 ls [.int (f_X5_open z2)]) rfl ?_
          refine lv_iload (pc := 134) hx hb dX5_sign_134 (lv_at hl 0 rfl) ?_
          refine lv_iconst (pc := 136) (v := -1) hx hb dX5_sign_136 (by decide) ?_
          refine lv_ixor (pc := 137) hx hb dX5_sign_137 ?_
          refine lv_iand (pc := 138) hx hb dX5_sign_138 ?_
          obtain ⟨z3, hc3, hf⟩ := bdS hf
          refine call_SR (pc := 139) (As := [.int ((f_X5_open z2) &&& ((f_X5_open (f_X5_goes σ (0 : Int32) (0 : Int32) (1 : Int32)).2) ^^^ (-1 : Int32)))]) (rest := []) (wc := []) C h (k_X5_many ((f_X5_open z2) &&& ((f_X5_open (f_X5_goes σ (0 : Int32) (0 : Int32) (1 : Int32)).2) ^^^ (-1 : Int32))) hc3) cw_X5_120 [] rfl rfl rfl rfl hl.1 (Nat.le_of_ble_eq_true rfl) dX5_sign_139 ⟨Nat.le_of_ble_eq_true rfl, Nat.le_of_ble_eq_true rfl⟩ rfl rfl ⟨Nat.le_of_ble_eq_true rfl, Nat.le_of_ble_eq_true rfl⟩ (fun H locs h => ?_)
          refine W.eq (g2 := F0 m 142 ls [.int z3]) rfl ?_
          have hf : (some (z3, z2)) = some z := hf
          cases hf
          exact ret_iU (pc := 142) C hr h dX5_sign_142
        · have hf := ifT c9 hf
          refine lv_iconst (pc := 115) (v := 1) hx hb dX5_sign_115 (by decide) ?_
          refine lv_goto (pc := 116) (tgt := 120) hx hb dX5_sign_116 (by decide) ?_
          refine lv_iload_n (pc := 120) hx hb dX5_sign_120 rfl (lv_at hl 4 rfl) ?_
          refine lv_iload_n (pc := 121) hx hb dX5_sign_121 rfl (lv_at hl 6 rfl) ?_
          obtain ⟨z1, hc1, hf⟩ := bdS hf
          refine call_VUs (pc := 122) (As := [.int x2, .int (1 : Int32), .int x1, .int x3]) (rest := []) C h (k_X5_notes (f_X5_goes σ (0 : Int32) (0 : Int32) (1 : Int32)).2 x2 (1 : Int32) x1 x3 hc1) cw_X5_116 0 (mW_c0 _ _ _) rfl (mW_fst _ _ _ _) rfl rfl hl.1 (Nat.le_of_ble_eq_true rfl) dX5_sign_122 ⟨Nat.le_of_ble_eq_true rfl, Nat.le_of_ble_eq_true rfl⟩ rfl rfl ⟨Nat.le_of_ble_eq_true rfl, Nat.le_of_ble_eq_true rfl⟩ (fun H locs h => ?_)
          refine W.eq (g2 := F0 m 125 ls []) rfl ?_
          refine lv_aload_n (pc := 125) hx hb dX5_sign_125 rfl (lv_at hl 3 rfl) ?_
          refine lv_iload_n (pc := 126) hx hb dX5_sign_126 rfl (lv_at hl 5 rfl) ?_
          obtain ⟨z2, hc2, hf⟩ := bdS hf
          refine call_VUs (pc := 127) (As := [.int x2]) (rest := []) C h (k_X5_looks z1 x2 hc2) cw_X5_109 0 (mW_c0 _ _ _) rfl (mW_fst _ _ _ _) rfl rfl hl.1 (Nat.le_of_ble_eq_true rfl) dX5_sign_127 ⟨Nat.le_of_ble_eq_true rfl, Nat.le_of_ble_eq_true rfl⟩ rfl rfl ⟨Nat.le_of_ble_eq_true rfl, Nat.le_of_ble_eq_true rfl⟩ (fun H locs h => ?_)
          refine W.eq (g2 := F0 m 130 ls []) rfl ?_
          refine lv_aload_n (pc := 130) hx hb dX5_sign_130 rfl (lv_at hl 3 rfl) ?_
          refine call_VRs (pc := 131) (As := []) (rest := []) C h (k_X5_open z2 rfl) cw_X5_137 0 (mW_c0 _ _ _) rfl rfl rfl hl.1 (Nat.le_of_ble_eq_true rfl) dX5_sign_131 ⟨Nat.le_of_ble_eq_true rfl, Nat.le_of_ble_eq_true rfl⟩ rfl rfl ⟨Nat.le_of_ble_eq_true rfl, Nat.le_of_ble_eq_true rfl⟩ (fun H locs h => ?_)
          refine W.eq (g2 := F0 m 134 ls [.int (f_X5_open z2)]) rfl ?_
          refine lv_iload (pc := 134) hx hb dX5_sign_134 (lv_at hl 0 rfl) ?_
          refine lv_iconst (pc := 136) (v := -1) hx hb dX5_sign_136 (by decide) ?_
          refine lv_ixor (pc := 137) hx hb dX5_sign_137 ?_
          refine lv_iand (pc := 138) hx hb dX5_sign_138 ?_
          obtain ⟨z3, hc3, hf⟩ := bdS hf
          refine call_SR (pc := 139) (As := [.int ((f_X5_open z2) &&& ((f_X5_open (f_X5_goes σ (0 : Int32) (0 : Int32) (1 : Int32)).2) ^^^ (-1 : Int32)))]) (rest := []) (wc := []) C h (k_X5_many ((f_X5_open z2) &&& ((f_X5_open (f_X5_goes σ (0 : Int32) (0 : Int32) (1 : Int32)).2) ^^^ (-1 : Int32))) hc3) cw_X5_120 [] rfl rfl rfl rfl hl.1 (Nat.le_of_ble_eq_true rfl) dX5_sign_139 ⟨Nat.le_of_ble_eq_true rfl, Nat.le_of_ble_eq_true rfl⟩ rfl rfl ⟨Nat.le_of_ble_eq_true rfl, Nat.le_of_ble_eq_true rfl⟩ (fun H locs h => ?_)
          refine W.eq (g2 := F0 m 142 ls [.int z3]) rfl ?_
          have hf : (some (z3, z2)) = some z := hf
          cases hf
          exact ret_iU (pc := 142) C hr h dX5_sign_142
      · have hf := ifF c9 hf
        refine lv_aload_n (pc := 81) hx hb dX5_sign_81 rfl (lv_at hl 3 rfl) ?_
        refine g_get (pc := 82) (v := .ref (q 15)) C h.1 0 (mW_c0 _ _ _) fl_X5_52 rfl dX5_sign_82 ?_
        refine lv_iload (pc := 85) hx hb dX5_sign_85 (lv_at hl 1 rfl) ?_
        refine lv_aload_n (pc := 87) hx hb dX5_sign_87 rfl (lv_at hl 3 rfl) ?_
        refine lv_iload (pc := 88) hx hb dX5_sign_88 (lv_at hl 1 rfl) ?_
        obtain ⟨z1, hc1, hf⟩ := bdS hf
        refine call_VRs (pc := 90) (As := [.int (((f_X5_goes σ (0 : Int32) (0 : Int32) (1 : Int32)).2 6) (((8 : Int32) * x2) + x3).toNatClampNeg)]) (rest := [.int (((f_X5_goes σ (0 : Int32) (0 : Int32) (1 : Int32)).2 6) (((8 : Int32) * x2) + x3).toNatClampNeg), .ref (q 15)]) C h (k_X5_signedToday (f_X5_goes σ (0 : Int32) (0 : Int32) (1 : Int32)).2 (((f_X5_goes σ (0 : Int32) (0 : Int32) (1 : Int32)).2 6) (((8 : Int32) * x2) + x3).toNatClampNeg) hc1) cw_X5_144 0 (mW_c0 _ _ _) rfl rfl rfl hl.1 (Nat.le_of_ble_eq_true rfl) dX5_sign_90 ⟨Nat.le_of_ble_eq_true rfl, Nat.le_of_ble_eq_true rfl⟩ rfl rfl ⟨Nat.le_of_ble_eq_true rfl, Nat.le_of_ble_eq_true rfl⟩ (fun H locs h => ?_)
        refine W.eq (g2 := F0 m 93 ls [.int z1, .int (((f_X5_goes σ (0 : Int32) (0 : Int32) (1 : Int32)).2 6) (((8 : Int32) * x2) + x3).toNatClampNeg), .ref (q 15)]) rfl ?_
        refine lv_iconst (pc := 93) (v := 1) hx hb dX5_sign_93 (by decide) ?_
        refine lv_iadd (pc := 94) hx hb dX5_sign_94 ?_
        obtain ⟨hin, hf⟩ := ifS hf
        obtain ⟨t2, et2, hf⟩ := ltS hf
        refine g_ist (pc := 95) (n := 8) (f := ((f_X5_goes σ (0 : Int32) (0 : Int32) (1 : Int32)).2 16)) (ws' := (mW q cA t2)) C h 15 (mW_c15 _ _ _) hin ((mW_w15 _ _ _ _).trans (congrArg (mW q cA) et2.symm)) dX5_sign_95 (fun H locs h => ?_)
        refine lv_aload_n (pc := 96) hx hb dX5_sign_96 rfl (lv_at hl 3 rfl) ?_
        refine g_get (pc := 97) (v := .ref (q 16)) C h.1 0 (mW_c0 _ _ _) fl_X5_55 rfl dX5_sign_97 ?_
        refine lv_iload (pc := 100) hx hb dX5_sign_100 (lv_at hl 1 rfl) ?_
        refine lv_aload_n (pc := 102) hx hb dX5_sign_102 rfl (lv_at hl 3 rfl) ?_
        refine g_get (pc := 103) (v := .int (t2 0 0)) C h.1 0 (mW_c0 _ _ _) fl_X5_113 rfl dX5_sign_103 ?_
        obtain ⟨hin, hf⟩ := ifS hf
        obtain ⟨t3, et3, hf⟩ := ltS hf
        refine g_ist (pc := 106) (n := 8) (f := (t2 17)) (ws' := (mW q cA t3)) C h 16 (mW_c16 _ _ _) hin ((mW_w16 _ _ _ _).trans (congrArg (mW q cA) et3.symm)) dX5_sign_106 (fun H locs h => ?_)
        refine lv_aload_n (pc := 107) hx hb dX5_sign_107 rfl (lv_at hl 3 rfl) ?_
        refine lv_iload_n (pc := 108) hx hb dX5_sign_108 rfl (lv_at hl 5 rfl) ?_
        refine lv_iload_n (pc := 109) hx hb dX5_sign_109 rfl (lv_at hl 4 rfl) ?_
        refine lv_iload (pc := 110) hx hb dX5_sign_110 (lv_at hl 1 rfl) ?_
        refine lv_icmp_ne (pc := 112) (tgt := 119) hx hb dX5_sign_112 (by decide) (fun c9 => ?_) (fun c9 => ?_)
        · have hf := ifF c9 hf
          refine lv_iconst (pc := 119) (v := 2) hx hb dX5_sign_119 (by decide) ?_
          refine lv_iload_n (pc := 120) hx hb dX5_sign_120 rfl (lv_at hl 4 rfl) ?_
          refine lv_iload_n (pc := 121) hx hb dX5_sign_121 rfl (lv_at hl 6 rfl) ?_
          obtain ⟨z4, hc4, hf⟩ := bdS hf
          refine call_VUs (pc := 122) (As := [.int x2, .int (2 : Int32), .int x1, .int x3]) (rest := []) C h (k_X5_notes t3 x2 (2 : Int32) x1 x3 hc4) cw_X5_116 0 (mW_c0 _ _ _) rfl (mW_fst _ _ _ _) rfl rfl hl.1 (Nat.le_of_ble_eq_true rfl) dX5_sign_122 ⟨Nat.le_of_ble_eq_true rfl, Nat.le_of_ble_eq_true rfl⟩ rfl rfl ⟨Nat.le_of_ble_eq_true rfl, Nat.le_of_ble_eq_true rfl⟩ (fun H locs h => ?_)
          refine W.eq (g2 := F0 m 125 ls []) rfl ?_
          refine lv_aload_n (pc := 125) hx hb dX5_sign_125 rfl (lv_at hl 3 rfl) ?_
          refine lv_iload_n (pc := 126) hx hb dX5_sign_126 rfl (lv_at hl 5 rfl) ?_
          obtain ⟨z5, hc5, hf⟩ := bdS hf
          refine call_VUs (pc := 127) (As := [.int x2]) (rest := []) C h (k_X5_looks z4 x2 hc5) cw_X5_109 0 (mW_c0 _ _ _) rfl (mW_fst _ _ _ _) rfl rfl hl.1 (Nat.le_of_ble_eq_true rfl) dX5_sign_127 ⟨Nat.le_of_ble_eq_true rfl, Nat.le_of_ble_eq_true rfl⟩ rfl rfl ⟨Nat.le_of_ble_eq_true rfl, Nat.le_of_ble_eq_true rfl⟩ (fun H locs h => ?_)
          refine W.eq (g2 := F0 m 130 ls []) rfl ?_
          refine lv_aload_n (pc := 130) hx hb dX5_sign_130 rfl (lv_at hl 3 rfl) ?_
          refine call_VRs (pc := 131) (As := []) (rest := []) C h (k_X5_open z5 rfl) cw_X5_137 0 (mW_c0 _ _ _) rfl rfl rfl hl.1 (Nat.le_of_ble_eq_true rfl) dX5_sign_131 ⟨Nat.le_of_ble_eq_true rfl, Nat.le_of_ble_eq_true rfl⟩ rfl rfl ⟨Nat.le_of_ble_eq_true rfl, Nat.le_of_ble_eq_true rfl⟩ (fun H locs h => ?_)
          refine W.eq (g2 := F0 m 134 ls [.int (f_X5_open z5)]) rfl ?_
          refine lv_iload (pc := 134) hx hb dX5_sign_134 (lv_at hl 0 rfl) ?_
          refine lv_iconst (pc := 136) (v := -1) hx hb dX5_sign_136 (by decide) ?_
          refine lv_ixor (pc := 137) hx hb dX5_sign_137 ?_
          refine lv_iand (pc := 138) hx hb dX5_sign_138 ?_
          obtain ⟨z6, hc6, hf⟩ := bdS hf
          refine call_SR (pc := 139) (As := [.int ((f_X5_open z5) &&& ((f_X5_open (f_X5_goes σ (0 : Int32) (0 : Int32) (1 : Int32)).2) ^^^ (-1 : Int32)))]) (rest := []) (wc := []) C h (k_X5_many ((f_X5_open z5) &&& ((f_X5_open (f_X5_goes σ (0 : Int32) (0 : Int32) (1 : Int32)).2) ^^^ (-1 : Int32))) hc6) cw_X5_120 [] rfl rfl rfl rfl hl.1 (Nat.le_of_ble_eq_true rfl) dX5_sign_139 ⟨Nat.le_of_ble_eq_true rfl, Nat.le_of_ble_eq_true rfl⟩ rfl rfl ⟨Nat.le_of_ble_eq_true rfl, Nat.le_of_ble_eq_true rfl⟩ (fun H locs h => ?_)
          refine W.eq (g2 := F0 m 142 ls [.int z6]) rfl ?_
          have hf : (some (z6, z5)) = some z := hf
          cases hf
          exact ret_iU (pc := 142) C hr h dX5_sign_142
        · have hf := ifT c9 hf
          refine lv_iconst (pc := 115) (v := 1) hx hb dX5_sign_115 (by decide) ?_
          refine lv_goto (pc := 116) (tgt := 120) hx hb dX5_sign_116 (by decide) ?_
          refine lv_iload_n (pc := 120) hx hb dX5_sign_120 rfl (lv_at hl 4 rfl) ?_
          refine lv_iload_n (pc := 121) hx hb dX5_sign_121 rfl (lv_at hl 6 rfl) ?_
          obtain ⟨z4, hc4, hf⟩ := bdS hf
          refine call_VUs (pc := 122) (As := [.int x2, .int (1 : Int32), .int x1, .int x3]) (rest := []) C h (k_X5_notes t3 x2 (1 : Int32) x1 x3 hc4) cw_X5_116 0 (mW_c0 _ _ _) rfl (mW_fst _ _ _ _) rfl rfl hl.1 (Nat.le_of_ble_eq_true rfl) dX5_sign_122 ⟨Nat.le_of_ble_eq_true rfl, Nat.le_of_ble_eq_true rfl⟩ rfl rfl ⟨Nat.le_of_ble_eq_true rfl, Nat.le_of_ble_eq_true rfl⟩ (fun H locs h => ?_)
          refine W.eq (g2 := F0 m 125 ls []) rfl ?_
          refine lv_aload_n (pc := 125) hx hb dX5_sign_125 rfl (lv_at hl 3 rfl) ?_
          refine lv_iload_n (pc := 126) hx hb dX5_sign_126 rfl (lv_at hl 5 rfl) ?_
          obtain ⟨z5, hc5, hf⟩ := bdS hf
          refine call_VUs (pc := 127) (As := [.int x2]) (rest := []) C h (k_X5_looks z4 x2 hc5) cw_X5_109 0 (mW_c0 _ _ _) rfl (mW_fst _ _ _ _) rfl rfl hl.1 (Nat.le_of_ble_eq_true rfl) dX5_sign_127 ⟨Nat.le_of_ble_eq_true rfl, Nat.le_of_ble_eq_true rfl⟩ rfl rfl ⟨Nat.le_of_ble_eq_true rfl, Nat.le_of_ble_eq_true rfl⟩ (fun H locs h => ?_)
          refine W.eq (g2 := F0 m 130 ls []) rfl ?_
          refine lv_aload_n (pc := 130) hx hb dX5_sign_130 rfl (lv_at hl 3 rfl) ?_
          refine call_VRs (pc := 131) (As := []) (rest := []) C h (k_X5_open z5 rfl) cw_X5_137 0 (mW_c0 _ _ _) rfl rfl rfl hl.1 (Nat.le_of_ble_eq_true rfl) dX5_sign_131 ⟨Nat.le_of_ble_eq_true rfl, Nat.le_of_ble_eq_true rfl⟩ rfl rfl ⟨Nat.le_of_ble_eq_true rfl, Nat.le_of_ble_eq_true rfl⟩ (fun H locs h => ?_)
          refine W.eq (g2 := F0 m 134 ls [.int (f_X5_open z5)]) rfl ?_
          refine lv_iload (pc := 134) hx hb dX5_sign_134 (lv_at hl 0 rfl) ?_
          refine lv_iconst (pc := 136) (v := -1) hx hb dX5_sign_136 (by decide) ?_
          refine lv_ixor (pc := 137) hx hb dX5_sign_137 ?_
          refine lv_iand (pc := 138) hx hb dX5_sign_138 ?_
          obtain ⟨z6, hc6, hf⟩ := bdS hf
          refine call_SR (pc := 139) (As := [.int ((f_X5_open z5) &&& ((f_X5_open (f_X5_goes σ (0 : Int32) (0 : Int32) (1 : Int32)).2) ^^^ (-1 : Int32)))]) (rest := []) (wc := []) C h (k_X5_many ((f_X5_open z5) &&& ((f_X5_open (f_X5_goes σ (0 : Int32) (0 : Int32) (1 : Int32)).2) ^^^ (-1 : Int32))) hc6) cw_X5_120 [] rfl rfl rfl rfl hl.1 (Nat.le_of_ble_eq_true rfl) dX5_sign_139 ⟨Nat.le_of_ble_eq_true rfl, Nat.le_of_ble_eq_true rfl⟩ rfl rfl ⟨Nat.le_of_ble_eq_true rfl, Nat.le_of_ble_eq_true rfl⟩ (fun H locs h => ?_)
          refine W.eq (g2 := F0 m 142 ls [.int z6]) rfl ?_
          have hf : (some (z6, z5)) = some z := hf
          cases hf
          exact ret_iU (pc := 142) C hr h dX5_sign_142
    · have hf := ifT c9 hf
      refine lv_iconst (pc := 54) (v := 0) hx hb dX5_sign_54 (by decide) ?_
      have hf : (some ((0 : Int32), (f_X5_goes σ (0 : Int32) (0 : Int32) (1 : Int32)).2)) = some z := hf
      cases hf
      exact ret_iU (pc := 55) C hr h dX5_sign_55
  · have hf := ifF c9 hf
    refine lv_aload_n (pc := 7) hx hb dX5_sign_7 rfl (lv_at hl 0 rfl) ?_
    refine lv_iload_n (pc := 8) hx hb dX5_sign_8 rfl (lv_at hl 2 rfl) ?_
    refine lv_iload_n (pc := 9) hx hb dX5_sign_9 rfl (lv_at hl 3 rfl) ?_
    obtain ⟨z1, hc1, hf⟩ := bdS hf
    refine call_VRs (pc := 10) (As := [.int x2, .int x3]) (rest := []) C h (k_X5_isSlot σ x2 x3 hc1) cw_X5_147 0 (mW_c0 _ _ _) rfl rfl rfl hl.1 (Nat.le_of_ble_eq_true rfl) dX5_sign_10 ⟨Nat.le_of_ble_eq_true rfl, Nat.le_of_ble_eq_true rfl⟩ rfl rfl ⟨Nat.le_of_ble_eq_true rfl, Nat.le_of_ble_eq_true rfl⟩ (fun H locs h => ?_)
    refine W.eq (g2 := F0 m 13 ls [.int z1]) rfl ?_
    refine lv_if_eq (pc := 13) (tgt := 20) hx hb dX5_sign_13 (by decide) (fun c9 => ?_) (fun c9 => ?_)
    · have hf := ifT c9 hf
      refine lv_iconst (pc := 20) (v := 0) hx hb dX5_sign_20 (by decide) ?_
      refine lv_istore (pc := 21) (lv' := [(4, .int (0 : Int32)), (0, .ref (q 0)), (1, .int x1), (2, .int x2), (3, .int x3)]) hx hb dX5_sign_21 hl (by decide) rfl (fun ls hl => ?_)
      refine lv_aload_n (pc := 23) hx hb dX5_sign_23 rfl (lv_at hl 1 rfl) ?_
      refine lv_iload (pc := 24) hx hb dX5_sign_24 (lv_at hl 0 rfl) ?_
      refine lv_iload (pc := 26) hx hb dX5_sign_26 (lv_at hl 0 rfl) ?_
      refine lv_if_eq (pc := 28) (tgt := 46) hx hb dX5_sign_28 (by decide) (fun _ => ?_) (fun c9 => absurd c9 (by decide))
      refine lv_iconst (pc := 46) (v := 0) hx hb dX5_sign_46 (by decide) ?_
      refine lv_iconst (pc := 47) (v := 1) hx hb dX5_sign_47 (by decide) ?_
      refine call_VUs (pc := 48) (As := [.int (0 : Int32), .int (0 : Int32), .int (1 : Int32)]) (rest := []) C h (k_X5_goes σ (0 : Int32) (0 : Int32) (1 : Int32) rfl) cw_X5_123 0 (mW_c0 _ _ _) rfl (mW_fst _ _ _ _) rfl rfl hl.1 (Nat.le_of_ble_eq_true rfl) dX5_sign_48 ⟨Nat.le_of_ble_eq_true rfl, Nat.le_of_ble_eq_true rfl⟩ rfl rfl ⟨Nat.le_of_ble_eq_true rfl, Nat.le_of_ble_eq_true rfl⟩ (fun H locs h => ?_)
      refine W.eq (g2 := F0 m 51 ls [.int (f_X5_goes σ (0 : Int32) (0 : Int32) (1 : Int32)).1]) rfl ?_
      refine lv_if_ne (pc := 51) (tgt := 56) hx hb dX5_sign_51 (by decide) (fun c9 => ?_) (fun c9 => ?_)
      · have hf := ifF c9 hf
        refine lv_aload_n (pc := 56) hx hb dX5_sign_56 rfl (lv_at hl 1 rfl) ?_
        refine g_get (pc := 57) (v := .ref (q 5)) C h.1 0 (mW_c0 _ _ _) fl_X5_22 rfl dX5_sign_57 ?_
        refine lv_bipush (pc := 60) (v := 8) hx hb dX5_sign_60 (by decide) ?_
        refine lv_iload_n (pc := 62) hx hb dX5_sign_62 rfl (lv_at hl 3 rfl) ?_
        refine lv_imul (pc := 63) hx hb dX5_sign_63 ?_
        refine lv_iload_n (pc := 64) hx hb dX5_sign_64 rfl (lv_at hl 4 rfl) ?_
        refine lv_iadd (pc := 65) hx hb dX5_sign_65 ?_
        obtain ⟨hin, hf⟩ := ifS hf
        refine g_ild (pc := 66) (n := 48) (f := ((f_X5_goes σ (0 : Int32) (0 : Int32) (1 : Int32)).2 6)) C h.1 5 (mW_c5 _ _ _) hin dX5_sign_66 ?_
        refine lv_istore (pc := 67) (lv' := [(5, .int (((f_X5_goes σ (0 : Int32) (0 : Int32) (1 : Int32)).2 6) (((8 : Int32) * x2) + x3).toNatClampNeg)), (4, .int (0 : Int32)), (0, .ref (q 0)), (1, .int x1), (2, .int x2), (3, .int x3)]) hx hb dX5_sign_67 hl (by decide) rfl (fun ls hl => ?_)
        refine lv_aload_n (pc := 69) hx hb dX5_sign_69 rfl (lv_at hl 2 rfl) ?_
        refine call_VRs (pc := 70) (As := []) (rest := []) C h (k_X5_open (f_X5_goes σ (0 : Int32) (0 : Int32) (1 : Int32)).2 rfl) cw_X5_137 0 (mW_c0 _ _ _) rfl rfl rfl hl.1 (Nat.le_of_ble_eq_true rfl) dX5_sign_70 ⟨Nat.le_of_ble_eq_true rfl, Nat.le_of_ble_eq_true rfl⟩ rfl rfl ⟨Nat.le_of_ble_eq_true rfl, Nat.le_of_ble_eq_true rfl⟩ (fun H locs h => ?_)
        refine W.eq (g2 := F0 m 73 ls [.int (f_X5_open (f_X5_goes σ (0 : Int32) (0 : Int32) (1 : Int32)).2)]) rfl ?_
        refine lv_istore (pc := 73) (lv' := [(6, .int (f_X5_open (f_X5_goes σ (0 : Int32) (0 : Int32) (1 : Int32)).2)), (5, .int (((f_X5_goes σ (0 : Int32) (0 : Int32) (1 : Int32)).2 6) (((8 : Int32) * x2) + x3).toNatClampNeg)), (4, .int (0 : Int32)), (0, .ref (q 0)), (1, .int x1), (2, .int x2), (3, .int x3)]) hx hb dX5_sign_73 hl (by decide) rfl (fun ls hl => ?_)
        refine lv_iload_n (pc := 75) hx hb dX5_sign_75 rfl (lv_at hl 4 rfl) ?_
        refine lv_iload (pc := 76) hx hb dX5_sign_76 (lv_at hl 1 rfl) ?_
        refine lv_icmp_eq (pc := 78) (tgt := 107) hx hb dX5_sign_78 (by decide) (fun c9 => ?_) (fun c9 => ?_)
        · have hf := ifT c9 hf
          refine lv_aload_n (pc := 107) hx hb dX5_sign_107 rfl (lv_at hl 3 rfl) ?_
          refine lv_iload_n (pc := 108) hx hb dX5_sign_108 rfl (lv_at hl 5 rfl) ?_
          refine lv_iload_n (pc := 109) hx hb dX5_sign_109 rfl (lv_at hl 4 rfl) ?_
          refine lv_iload (pc := 110) hx hb dX5_sign_110 (lv_at hl 1 rfl) ?_
          refine lv_icmp_ne (pc := 112) (tgt := 119) hx hb dX5_sign_112 (by decide) (fun c9 => ?_) (fun c9 => ?_)
          · have hf := ifF c9 hf
            refine lv_iconst (pc := 119) (v := 2) hx hb dX5_sign_119 (by decide) ?_
            refine lv_iload_n (pc := 120) hx hb dX5_sign_120 rfl (lv_at hl 4 rfl) ?_
            refine lv_iload_n (pc := 121) hx hb dX5_sign_121 rfl (lv_at hl 6 rfl) ?_
            obtain ⟨z2, hc2, hf⟩ := bdS hf
            refine call_VUs (pc := 122) (As := [.int x2, .int (2 : Int32), .int x1, .int x3]) (rest := []) C h (k_X5_notes (f_X5_goes σ (0 : Int32) (0 : Int32) (1 : Int32)).2 x2 (2 : Int32) x1 x3 hc2) cw_X5_116 0 (mW_c0 _ _ _) rfl (mW_fst _ _ _ _) rfl rfl hl.1 (Nat.le_of_ble_eq_true rfl) dX5_sign_122 ⟨Nat.le_of_ble_eq_true rfl, Nat.le_of_ble_eq_true rfl⟩ rfl rfl ⟨Nat.le_of_ble_eq_true rfl, Nat.le_of_ble_eq_true rfl⟩ (fun H locs h => ?_)
            refine W.eq (g2 := F0 m 125 ls []) rfl ?_
            refine lv_aload_n (pc := 125) hx hb dX5_sign_125 rfl (lv_at hl 3 rfl) ?_
            refine lv_iload_n (pc := 126) hx hb dX5_sign_126 rfl (lv_at hl 5 rfl) ?_
            obtain ⟨z3, hc3, hf⟩ := bdS hf
            refine call_VUs (pc := 127) (As := [.int x2]) (rest := []) C h (k_X5_looks z2 x2 hc3) cw_X5_109 0 (mW_c0 _ _ _) rfl (mW_fst _ _ _ _) rfl rfl hl.1 (Nat.le_of_ble_eq_true rfl) dX5_sign_127 ⟨Nat.le_of_ble_eq_true rfl, Nat.le_of_ble_eq_true rfl⟩ rfl rfl ⟨Nat.le_of_ble_eq_true rfl, Nat.le_of_ble_eq_true rfl⟩ (fun H locs h => ?_)
            refine W.eq (g2 := F0 m 130 ls []) rfl ?_
            refine lv_aload_n (pc := 130) hx hb dX5_sign_130 rfl (lv_at hl 3 rfl) ?_
            refine call_VRs (pc := 131) (As := []) (rest := []) C h (k_X5_open z3 rfl) cw_X5_137 0 (mW_c0 _ _ _) rfl rfl rfl hl.1 (Nat.le_of_ble_eq_true rfl) dX5_sign_131 ⟨Nat.le_of_ble_eq_true rfl, Nat.le_of_ble_eq_true rfl⟩ rfl rfl ⟨Nat.le_of_ble_eq_true rfl, Nat.le_of_ble_eq_true rfl⟩ (fun H locs h => ?_)
            refine W.eq (g2 := F0 m 134 ls [.int (f_X5_open z3)]) rfl ?_
            refine lv_iload (pc := 134) hx hb dX5_sign_134 (lv_at hl 0 rfl) ?_
            refine lv_iconst (pc := 136) (v := -1) hx hb dX5_sign_136 (by decide) ?_
            refine lv_ixor (pc := 137) hx hb dX5_sign_137 ?_
            refine lv_iand (pc := 138) hx hb dX5_sign_138 ?_
            obtain ⟨z4, hc4, hf⟩ := bdS hf
            refine call_SR (pc := 139) (As := [.int ((f_X5_open z3) &&& ((f_X5_open (f_X5_goes σ (0 : Int32) (0 : Int32) (1 : Int32)).2) ^^^ (-1 : Int32)))]) (rest := []) (wc := []) C h (k_X5_many ((f_X5_open z3) &&& ((f_X5_open (f_X5_goes σ (0 : Int32) (0 : Int32) (1 : Int32)).2) ^^^ (-1 : Int32))) hc4) cw_X5_120 [] rfl rfl rfl rfl hl.1 (Nat.le_of_ble_eq_true rfl) dX5_sign_139 ⟨Nat.le_of_ble_eq_true rfl, Nat.le_of_ble_eq_true rfl⟩ rfl rfl ⟨Nat.le_of_ble_eq_true rfl, Nat.le_of_ble_eq_true rfl⟩ (fun H locs h => ?_)
            refine W.eq (g2 := F0 m 142 ls [.int z4]) rfl ?_
            have hf : (some (z4, z3)) = some z := hf
            cases hf
            exact ret_iU (pc := 142) C hr h dX5_sign_142
          · have hf := ifT c9 hf
            refine lv_iconst (pc := 115) (v := 1) hx hb dX5_sign_115 (by decide) ?_
            refine lv_goto (pc := 116) (tgt := 120) hx hb dX5_sign_116 (by decide) ?_
            refine lv_iload_n (pc := 120) hx hb dX5_sign_120 rfl (lv_at hl 4 rfl) ?_
            refine lv_iload_n (pc := 121) hx hb dX5_sign_121 rfl (lv_at hl 6 rfl) ?_
            obtain ⟨z2, hc2, hf⟩ := bdS hf
            refine call_VUs (pc := 122) (As := [.int x2, .int (1 : Int32), .int x1, .int x3]) (rest := []) C h (k_X5_notes (f_X5_goes σ (0 : Int32) (0 : Int32) (1 : Int32)).2 x2 (1 : Int32) x1 x3 hc2) cw_X5_116 0 (mW_c0 _ _ _) rfl (mW_fst _ _ _ _) rfl rfl hl.1 (Nat.le_of_ble_eq_true rfl) dX5_sign_122 ⟨Nat.le_of_ble_eq_true rfl, Nat.le_of_ble_eq_true rfl⟩ rfl rfl ⟨Nat.le_of_ble_eq_true rfl, Nat.le_of_ble_eq_true rfl⟩ (fun H locs h => ?_)
            refine W.eq (g2 := F0 m 125 ls []) rfl ?_
            refine lv_aload_n (pc := 125) hx hb dX5_sign_125 rfl (lv_at hl 3 rfl) ?_
            refine lv_iload_n (pc := 126) hx hb dX5_sign_126 rfl (lv_at hl 5 rfl) ?_
            obtain ⟨z3, hc3, hf⟩ := bdS hf
            refine call_VUs (pc := 127) (As := [.int x2]) (rest := []) C h (k_X5_looks z2 x2 hc3) cw_X5_109 0 (mW_c0 _ _ _) rfl (mW_fst _ _ _ _) rfl rfl hl.1 (Nat.le_of_ble_eq_true rfl) dX5_sign_127 ⟨Nat.le_of_ble_eq_true rfl, Nat.le_of_ble_eq_true rfl⟩ rfl rfl ⟨Nat.le_of_ble_eq_true rfl, Nat.le_of_ble_eq_true rfl⟩ (fun H locs h => ?_)
            refine W.eq (g2 := F0 m 130 ls []) rfl ?_
            refine lv_aload_n (pc := 130) hx hb dX5_sign_130 rfl (lv_at hl 3 rfl) ?_
            refine call_VRs (pc := 131) (As := []) (rest := []) C h (k_X5_open z3 rfl) cw_X5_137 0 (mW_c0 _ _ _) rfl rfl rfl hl.1 (Nat.le_of_ble_eq_true rfl) dX5_sign_131 ⟨Nat.le_of_ble_eq_true rfl, Nat.le_of_ble_eq_true rfl⟩ rfl rfl ⟨Nat.le_of_ble_eq_true rfl, Nat.le_of_ble_eq_true rfl⟩ (fun H locs h => ?_)
            refine W.eq (g2 := F0 m 134 ls [.int (f_X5_open z3)]) rfl ?_
            refine lv_iload (pc := 134) hx hb dX5_sign_134 (lv_at hl 0 rfl) ?_
            refine lv_iconst (pc := 136) (v := -1) hx hb dX5_sign_136 (by decide) ?_
            refine lv_ixor (pc := 137) hx hb dX5_sign_137 ?_
            refine lv_iand (pc := 138) hx hb dX5_sign_138 ?_
            obtain ⟨z4, hc4, hf⟩ := bdS hf
            refine call_SR (pc := 139) (As := [.int ((f_X5_open z3) &&& ((f_X5_open (f_X5_goes σ (0 : Int32) (0 : Int32) (1 : Int32)).2) ^^^ (-1 : Int32)))]) (rest := []) (wc := []) C h (k_X5_many ((f_X5_open z3) &&& ((f_X5_open (f_X5_goes σ (0 : Int32) (0 : Int32) (1 : Int32)).2) ^^^ (-1 : Int32))) hc4) cw_X5_120 [] rfl rfl rfl rfl hl.1 (Nat.le_of_ble_eq_true rfl) dX5_sign_139 ⟨Nat.le_of_ble_eq_true rfl, Nat.le_of_ble_eq_true rfl⟩ rfl rfl ⟨Nat.le_of_ble_eq_true rfl, Nat.le_of_ble_eq_true rfl⟩ (fun H locs h => ?_)
            refine W.eq (g2 := F0 m 142 ls [.int z4]) rfl ?_
            have hf : (some (z4, z3)) = some z := hf
            cases hf
            exact ret_iU (pc := 142) C hr h dX5_sign_142
        · have hf := ifF c9 hf
          refine lv_aload_n (pc := 81) hx hb dX5_sign_81 rfl (lv_at hl 3 rfl) ?_
          refine g_get (pc := 82) (v := .ref (q 15)) C h.1 0 (mW_c0 _ _ _) fl_X5_52 rfl dX5_sign_82 ?_
          refine lv_iload (pc := 85) hx hb dX5_sign_85 (lv_at hl 1 rfl) ?_
          refine lv_aload_n (pc := 87) hx hb dX5_sign_87 rfl (lv_at hl 3 rfl) ?_
          refine lv_iload (pc := 88) hx hb dX5_sign_88 (lv_at hl 1 rfl) ?_
          obtain ⟨z2, hc2, hf⟩ := bdS hf
          refine call_VRs (pc := 90) (As := [.int (((f_X5_goes σ (0 : Int32) (0 : Int32) (1 : Int32)).2 6) (((8 : Int32) * x2) + x3).toNatClampNeg)]) (rest := [.int (((f_X5_goes σ (0 : Int32) (0 : Int32) (1 : Int32)).2 6) (((8 : Int32) * x2) + x3).toNatClampNeg), .ref (q 15)]) C h (k_X5_signedToday (f_X5_goes σ (0 : Int32) (0 : Int32) (1 : Int32)).2 (((f_X5_goes σ (0 : Int32) (0 : Int32) (1 : Int32)).2 6) (((8 : Int32) * x2) + x3).toNatClampNeg) hc2) cw_X5_144 0 (mW_c0 _ _ _) rfl rfl rfl hl.1 (Nat.le_of_ble_eq_true rfl) dX5_sign_90 ⟨Nat.le_of_ble_eq_true rfl, Nat.le_of_ble_eq_true rfl⟩ rfl rfl ⟨Nat.le_of_ble_eq_true rfl, Nat.le_of_ble_eq_true rfl⟩ (fun H locs h => ?_)
          refine W.eq (g2 := F0 m 93 ls [.int z2, .int (((f_X5_goes σ (0 : Int32) (0 : Int32) (1 : Int32)).2 6) (((8 : Int32) * x2) + x3).toNatClampNeg), .ref (q 15)]) rfl ?_
          refine lv_iconst (pc := 93) (v := 1) hx hb dX5_sign_93 (by decide) ?_
          refine lv_iadd (pc := 94) hx hb dX5_sign_94 ?_
          obtain ⟨hin, hf⟩ := ifS hf
          obtain ⟨t3, et3, hf⟩ := ltS hf
          refine g_ist (pc := 95) (n := 8) (f := ((f_X5_goes σ (0 : Int32) (0 : Int32) (1 : Int32)).2 16)) (ws' := (mW q cA t3)) C h 15 (mW_c15 _ _ _) hin ((mW_w15 _ _ _ _).trans (congrArg (mW q cA) et3.symm)) dX5_sign_95 (fun H locs h => ?_)
          refine lv_aload_n (pc := 96) hx hb dX5_sign_96 rfl (lv_at hl 3 rfl) ?_
          refine g_get (pc := 97) (v := .ref (q 16)) C h.1 0 (mW_c0 _ _ _) fl_X5_55 rfl dX5_sign_97 ?_
          refine lv_iload (pc := 100) hx hb dX5_sign_100 (lv_at hl 1 rfl) ?_
          refine lv_aload_n (pc := 102) hx hb dX5_sign_102 rfl (lv_at hl 3 rfl) ?_
          refine g_get (pc := 103) (v := .int (t3 0 0)) C h.1 0 (mW_c0 _ _ _) fl_X5_113 rfl dX5_sign_103 ?_
          obtain ⟨hin, hf⟩ := ifS hf
          obtain ⟨t4, et4, hf⟩ := ltS hf
          refine g_ist (pc := 106) (n := 8) (f := (t3 17)) (ws' := (mW q cA t4)) C h 16 (mW_c16 _ _ _) hin ((mW_w16 _ _ _ _).trans (congrArg (mW q cA) et4.symm)) dX5_sign_106 (fun H locs h => ?_)
          refine lv_aload_n (pc := 107) hx hb dX5_sign_107 rfl (lv_at hl 3 rfl) ?_
          refine lv_iload_n (pc := 108) hx hb dX5_sign_108 rfl (lv_at hl 5 rfl) ?_
          refine lv_iload_n (pc := 109) hx hb dX5_sign_109 rfl (lv_at hl 4 rfl) ?_
          refine lv_iload (pc := 110) hx hb dX5_sign_110 (lv_at hl 1 rfl) ?_
          refine lv_icmp_ne (pc := 112) (tgt := 119) hx hb dX5_sign_112 (by decide) (fun c9 => ?_) (fun c9 => ?_)
          · have hf := ifF c9 hf
            refine lv_iconst (pc := 119) (v := 2) hx hb dX5_sign_119 (by decide) ?_
            refine lv_iload_n (pc := 120) hx hb dX5_sign_120 rfl (lv_at hl 4 rfl) ?_
            refine lv_iload_n (pc := 121) hx hb dX5_sign_121 rfl (lv_at hl 6 rfl) ?_
            obtain ⟨z5, hc5, hf⟩ := bdS hf
            refine call_VUs (pc := 122) (As := [.int x2, .int (2 : Int32), .int x1, .int x3]) (rest := []) C h (k_X5_notes t4 x2 (2 : Int32) x1 x3 hc5) cw_X5_116 0 (mW_c0 _ _ _) rfl (mW_fst _ _ _ _) rfl rfl hl.1 (Nat.le_of_ble_eq_true rfl) dX5_sign_122 ⟨Nat.le_of_ble_eq_true rfl, Nat.le_of_ble_eq_true rfl⟩ rfl rfl ⟨Nat.le_of_ble_eq_true rfl, Nat.le_of_ble_eq_true rfl⟩ (fun H locs h => ?_)
            refine W.eq (g2 := F0 m 125 ls []) rfl ?_
            refine lv_aload_n (pc := 125) hx hb dX5_sign_125 rfl (lv_at hl 3 rfl) ?_
            refine lv_iload_n (pc := 126) hx hb dX5_sign_126 rfl (lv_at hl 5 rfl) ?_
            obtain ⟨z6, hc6, hf⟩ := bdS hf
            refine call_VUs (pc := 127) (As := [.int x2]) (rest := []) C h (k_X5_looks z5 x2 hc6) cw_X5_109 0 (mW_c0 _ _ _) rfl (mW_fst _ _ _ _) rfl rfl hl.1 (Nat.le_of_ble_eq_true rfl) dX5_sign_127 ⟨Nat.le_of_ble_eq_true rfl, Nat.le_of_ble_eq_true rfl⟩ rfl rfl ⟨Nat.le_of_ble_eq_true rfl, Nat.le_of_ble_eq_true rfl⟩ (fun H locs h => ?_)
            refine W.eq (g2 := F0 m 130 ls []) rfl ?_
            refine lv_aload_n (pc := 130) hx hb dX5_sign_130 rfl (lv_at hl 3 rfl) ?_
            refine call_VRs (pc := 131) (As := []) (rest := []) C h (k_X5_open z6 rfl) cw_X5_137 0 (mW_c0 _ _ _) rfl rfl rfl hl.1 (Nat.le_of_ble_eq_true rfl) dX5_sign_131 ⟨Nat.le_of_ble_eq_true rfl, Nat.le_of_ble_eq_true rfl⟩ rfl rfl ⟨Nat.le_of_ble_eq_true rfl, Nat.le_of_ble_eq_true rfl⟩ (fun H locs h => ?_)
            refine W.eq (g2 := F0 m 134 ls [.int (f_X5_open z6)]) rfl ?_
            refine lv_iload (pc := 134) hx hb dX5_sign_134 (lv_at hl 0 rfl) ?_
            refine lv_iconst (pc := 136) (v := -1) hx hb dX5_sign_136 (by decide) ?_
            refine lv_ixor (pc := 137) hx hb dX5_sign_137 ?_
            refine lv_iand (pc := 138) hx hb dX5_sign_138 ?_
            obtain ⟨z7, hc7, hf⟩ := bdS hf
            refine call_SR (pc := 139) (As := [.int ((f_X5_open z6) &&& ((f_X5_open (f_X5_goes σ (0 : Int32) (0 : Int32) (1 : Int32)).2) ^^^ (-1 : Int32)))]) (rest := []) (wc := []) C h (k_X5_many ((f_X5_open z6) &&& ((f_X5_open (f_X5_goes σ (0 : Int32) (0 : Int32) (1 : Int32)).2) ^^^ (-1 : Int32))) hc7) cw_X5_120 [] rfl rfl rfl rfl hl.1 (Nat.le_of_ble_eq_true rfl) dX5_sign_139 ⟨Nat.le_of_ble_eq_true rfl, Nat.le_of_ble_eq_true rfl⟩ rfl rfl ⟨Nat.le_of_ble_eq_true rfl, Nat.le_of_ble_eq_true rfl⟩ (fun H locs h => ?_)
            refine W.eq (g2 := F0 m 142 ls [.int z7]) rfl ?_
            have hf : (some (z7, z6)) = some z := hf
            cases hf
            exact ret_iU (pc := 142) C hr h dX5_sign_142
          · have hf := ifT c9 hf
            refine lv_iconst (pc := 115) (v := 1) hx hb dX5_sign_115 (by decide) ?_
            refine lv_goto (pc := 116) (tgt := 120) hx hb dX5_sign_116 (by decide) ?_
            refine lv_iload_n (pc := 120) hx hb dX5_sign_120 rfl (lv_at hl 4 rfl) ?_
            refine lv_iload_n (pc := 121) hx hb dX5_sign_121 rfl (lv_at hl 6 rfl) ?_
            obtain ⟨z5, hc5, hf⟩ := bdS hf
            refine call_VUs (pc := 122) (As := [.int x2, .int (1 : Int32), .int x1, .int x3]) (rest := []) C h (k_X5_notes t4 x2 (1 : Int32) x1 x3 hc5) cw_X5_116 0 (mW_c0 _ _ _) rfl (mW_fst _ _ _ _) rfl rfl hl.1 (Nat.le_of_ble_eq_true rfl) dX5_sign_122 ⟨Nat.le_of_ble_eq_true rfl, Nat.le_of_ble_eq_true rfl⟩ rfl rfl ⟨Nat.le_of_ble_eq_true rfl, Nat.le_of_ble_eq_true rfl⟩ (fun H locs h => ?_)
            refine W.eq (g2 := F0 m 125 ls []) rfl ?_
            refine lv_aload_n (pc := 125) hx hb dX5_sign_125 rfl (lv_at hl 3 rfl) ?_
            refine lv_iload_n (pc := 126) hx hb dX5_sign_126 rfl (lv_at hl 5 rfl) ?_
            obtain ⟨z6, hc6, hf⟩ := bdS hf
            refine call_VUs (pc := 127) (As := [.int x2]) (rest := []) C h (k_X5_looks z5 x2 hc6) cw_X5_109 0 (mW_c0 _ _ _) rfl (mW_fst _ _ _ _) rfl rfl hl.1 (Nat.le_of_ble_eq_true rfl) dX5_sign_127 ⟨Nat.le_of_ble_eq_true rfl, Nat.le_of_ble_eq_true rfl⟩ rfl rfl ⟨Nat.le_of_ble_eq_true rfl, Nat.le_of_ble_eq_true rfl⟩ (fun H locs h => ?_)
            refine W.eq (g2 := F0 m 130 ls []) rfl ?_
            refine lv_aload_n (pc := 130) hx hb dX5_sign_130 rfl (lv_at hl 3 rfl) ?_
            refine call_VRs (pc := 131) (As := []) (rest := []) C h (k_X5_open z6 rfl) cw_X5_137 0 (mW_c0 _ _ _) rfl rfl rfl hl.1 (Nat.le_of_ble_eq_true rfl) dX5_sign_131 ⟨Nat.le_of_ble_eq_true rfl, Nat.le_of_ble_eq_true rfl⟩ rfl rfl ⟨Nat.le_of_ble_eq_true rfl, Nat.le_of_ble_eq_true rfl⟩ (fun H locs h => ?_)
            refine W.eq (g2 := F0 m 134 ls [.int (f_X5_open z6)]) rfl ?_
            refine lv_iload (pc := 134) hx hb dX5_sign_134 (lv_at hl 0 rfl) ?_
            refine lv_iconst (pc := 136) (v := -1) hx hb dX5_sign_136 (by decide) ?_
            refine lv_ixor (pc := 137) hx hb dX5_sign_137 ?_
            refine lv_iand (pc := 138) hx hb dX5_sign_138 ?_
            obtain ⟨z7, hc7, hf⟩ := bdS hf
            refine call_SR (pc := 139) (As := [.int ((f_X5_open z6) &&& ((f_X5_open (f_X5_goes σ (0 : Int32) (0 : Int32) (1 : Int32)).2) ^^^ (-1 : Int32)))]) (rest := []) (wc := []) C h (k_X5_many ((f_X5_open z6) &&& ((f_X5_open (f_X5_goes σ (0 : Int32) (0 : Int32) (1 : Int32)).2) ^^^ (-1 : Int32))) hc7) cw_X5_120 [] rfl rfl rfl rfl hl.1 (Nat.le_of_ble_eq_true rfl) dX5_sign_139 ⟨Nat.le_of_ble_eq_true rfl, Nat.le_of_ble_eq_true rfl⟩ rfl rfl ⟨Nat.le_of_ble_eq_true rfl, Nat.le_of_ble_eq_true rfl⟩ (fun H locs h => ?_)
            refine W.eq (g2 := F0 m 142 ls [.int z7]) rfl ?_
            have hf : (some (z7, z6)) = some z := hf
            cases hf
            exact ret_iU (pc := 142) C hr h dX5_sign_142
      · have hf := ifT c9 hf
        refine lv_iconst (pc := 54) (v := 0) hx hb dX5_sign_54 (by decide) ?_
        have hf : (some ((0 : Int32), (f_X5_goes σ (0 : Int32) (0 : Int32) (1 : Int32)).2)) = some z := hf
        cases hf
        exact ret_iU (pc := 55) C hr h dX5_sign_55
    · have hf := ifF c9 hf
      refine lv_iconst (pc := 16) (v := 1) hx hb dX5_sign_16 (by decide) ?_
      refine lv_goto (pc := 17) (tgt := 21) hx hb dX5_sign_17 (by decide) ?_
      refine lv_istore (pc := 21) (lv' := [(4, .int (1 : Int32)), (0, .ref (q 0)), (1, .int x1), (2, .int x2), (3, .int x3)]) hx hb dX5_sign_21 hl (by decide) rfl (fun ls hl => ?_)
      refine lv_aload_n (pc := 23) hx hb dX5_sign_23 rfl (lv_at hl 1 rfl) ?_
      refine lv_iload (pc := 24) hx hb dX5_sign_24 (lv_at hl 0 rfl) ?_
      refine lv_iload (pc := 26) hx hb dX5_sign_26 (lv_at hl 0 rfl) ?_
      refine lv_if_eq (pc := 28) (tgt := 46) hx hb dX5_sign_28 (by decide) (fun c9 => absurd c9 (by decide)) (fun _ => ?_)
      refine lv_aload_n (pc := 31) hx hb dX5_sign_31 rfl (lv_at hl 1 rfl) ?_
      refine lv_iload_n (pc := 32) hx hb dX5_sign_32 rfl (lv_at hl 2 rfl) ?_
      refine lv_iload_n (pc := 33) hx hb dX5_sign_33 rfl (lv_at hl 3 rfl) ?_
      refine lv_iload_n (pc := 34) hx hb dX5_sign_34 rfl (lv_at hl 4 rfl) ?_
      obtain ⟨z2, hc2, hf⟩ := bdS hf
      refine call_VUs (pc := 35) (As := [.int x1, .int x2, .int x3]) (rest := [.int (1 : Int32), .ref (q 0)]) C h (k_X5_why σ x1 x2 x3 hc2) cw_X5_150 0 (mW_c0 _ _ _) rfl (mW_fst _ _ _ _) rfl rfl hl.1 (Nat.le_of_ble_eq_true rfl) dX5_sign_35 ⟨Nat.le_of_ble_eq_true rfl, Nat.le_of_ble_eq_true rfl⟩ rfl rfl ⟨Nat.le_of_ble_eq_true rfl, Nat.le_of_ble_eq_true rfl⟩ (fun H locs h => ?_)
      refine W.eq (g2 := F0 m 38 ls [.int z2.1, .int (1 : Int32), .ref (q 0)]) rfl ?_
      refine lv_iconst (pc := 38) (v := 2) hx hb dX5_sign_38 (by decide) ?_
      refine lv_icmp_ge (pc := 39) (tgt := 46) hx hb dX5_sign_39 (by decide) (fun c9 => ?_) (fun c9 => ?_)
      · have hf := ifT c9 hf
        refine lv_iconst (pc := 46) (v := 0) hx hb dX5_sign_46 (by decide) ?_
        refine lv_iconst (pc := 47) (v := 1) hx hb dX5_sign_47 (by decide) ?_
        refine call_VUs (pc := 48) (As := [.int (1 : Int32), .int (0 : Int32), .int (1 : Int32)]) (rest := []) C h (k_X5_goes z2.2 (1 : Int32) (0 : Int32) (1 : Int32) rfl) cw_X5_123 0 (mW_c0 _ _ _) rfl (mW_fst _ _ _ _) rfl rfl hl.1 (Nat.le_of_ble_eq_true rfl) dX5_sign_48 ⟨Nat.le_of_ble_eq_true rfl, Nat.le_of_ble_eq_true rfl⟩ rfl rfl ⟨Nat.le_of_ble_eq_true rfl, Nat.le_of_ble_eq_true rfl⟩ (fun H locs h => ?_)
        refine W.eq (g2 := F0 m 51 ls [.int (f_X5_goes z2.2 (1 : Int32) (0 : Int32) (1 : Int32)).1]) rfl ?_
        refine lv_if_ne (pc := 51) (tgt := 56) hx hb dX5_sign_51 (by decide) (fun c9 => ?_) (fun c9 => ?_)
        · have hf := ifF c9 hf
          refine lv_aload_n (pc := 56) hx hb dX5_sign_56 rfl (lv_at hl 1 rfl) ?_
          refine g_get (pc := 57) (v := .ref (q 5)) C h.1 0 (mW_c0 _ _ _) fl_X5_22 rfl dX5_sign_57 ?_
          refine lv_bipush (pc := 60) (v := 8) hx hb dX5_sign_60 (by decide) ?_
          refine lv_iload_n (pc := 62) hx hb dX5_sign_62 rfl (lv_at hl 3 rfl) ?_
          refine lv_imul (pc := 63) hx hb dX5_sign_63 ?_
          refine lv_iload_n (pc := 64) hx hb dX5_sign_64 rfl (lv_at hl 4 rfl) ?_
          refine lv_iadd (pc := 65) hx hb dX5_sign_65 ?_
          obtain ⟨hin, hf⟩ := ifS hf
          refine g_ild (pc := 66) (n := 48) (f := ((f_X5_goes z2.2 (1 : Int32) (0 : Int32) (1 : Int32)).2 6)) C h.1 5 (mW_c5 _ _ _) hin dX5_sign_66 ?_
          refine lv_istore (pc := 67) (lv' := [(5, .int (((f_X5_goes z2.2 (1 : Int32) (0 : Int32) (1 : Int32)).2 6) (((8 : Int32) * x2) + x3).toNatClampNeg)), (4, .int (1 : Int32)), (0, .ref (q 0)), (1, .int x1), (2, .int x2), (3, .int x3)]) hx hb dX5_sign_67 hl (by decide) rfl (fun ls hl => ?_)
          refine lv_aload_n (pc := 69) hx hb dX5_sign_69 rfl (lv_at hl 2 rfl) ?_
          refine call_VRs (pc := 70) (As := []) (rest := []) C h (k_X5_open (f_X5_goes z2.2 (1 : Int32) (0 : Int32) (1 : Int32)).2 rfl) cw_X5_137 0 (mW_c0 _ _ _) rfl rfl rfl hl.1 (Nat.le_of_ble_eq_true rfl) dX5_sign_70 ⟨Nat.le_of_ble_eq_true rfl, Nat.le_of_ble_eq_true rfl⟩ rfl rfl ⟨Nat.le_of_ble_eq_true rfl, Nat.le_of_ble_eq_true rfl⟩ (fun H locs h => ?_)
          refine W.eq (g2 := F0 m 73 ls [.int (f_X5_open (f_X5_goes z2.2 (1 : Int32) (0 : Int32) (1 : Int32)).2)]) rfl ?_
          refine lv_istore (pc := 73) (lv' := [(6, .int (f_X5_open (f_X5_goes z2.2 (1 : Int32) (0 : Int32) (1 : Int32)).2)), (5, .int (((f_X5_goes z2.2 (1 : Int32) (0 : Int32) (1 : Int32)).2 6) (((8 : Int32) * x2) + x3).toNatClampNeg)), (4, .int (1 : Int32)), (0, .ref (q 0)), (1, .int x1), (2, .int x2), (3, .int x3)]) hx hb dX5_sign_73 hl (by decide) rfl (fun ls hl => ?_)
          refine lv_iload_n (pc := 75) hx hb dX5_sign_75 rfl (lv_at hl 4 rfl) ?_
          refine lv_iload (pc := 76) hx hb dX5_sign_76 (lv_at hl 1 rfl) ?_
          refine lv_icmp_eq (pc := 78) (tgt := 107) hx hb dX5_sign_78 (by decide) (fun c9 => ?_) (fun c9 => ?_)
          · have hf := ifT c9 hf
            refine lv_aload_n (pc := 107) hx hb dX5_sign_107 rfl (lv_at hl 3 rfl) ?_
            refine lv_iload_n (pc := 108) hx hb dX5_sign_108 rfl (lv_at hl 5 rfl) ?_
            refine lv_iload_n (pc := 109) hx hb dX5_sign_109 rfl (lv_at hl 4 rfl) ?_
            refine lv_iload (pc := 110) hx hb dX5_sign_110 (lv_at hl 1 rfl) ?_
            refine lv_icmp_ne (pc := 112) (tgt := 119) hx hb dX5_sign_112 (by decide) (fun c9 => ?_) (fun c9 => ?_)
            · have hf := ifF c9 hf
              refine lv_iconst (pc := 119) (v := 2) hx hb dX5_sign_119 (by decide) ?_
              refine lv_iload_n (pc := 120) hx hb dX5_sign_120 rfl (lv_at hl 4 rfl) ?_
              refine lv_iload_n (pc := 121) hx hb dX5_sign_121 rfl (lv_at hl 6 rfl) ?_
              obtain ⟨z3, hc3, hf⟩ := bdS hf
              refine call_VUs (pc := 122) (As := [.int x2, .int (2 : Int32), .int x1, .int x3]) (rest := []) C h (k_X5_notes (f_X5_goes z2.2 (1 : Int32) (0 : Int32) (1 : Int32)).2 x2 (2 : Int32) x1 x3 hc3) cw_X5_116 0 (mW_c0 _ _ _) rfl (mW_fst _ _ _ _) rfl rfl hl.1 (Nat.le_of_ble_eq_true rfl) dX5_sign_122 ⟨Nat.le_of_ble_eq_true rfl, Nat.le_of_ble_eq_true rfl⟩ rfl rfl ⟨Nat.le_of_ble_eq_true rfl, Nat.le_of_ble_eq_true rfl⟩ (fun H locs h => ?_)
              refine W.eq (g2 := F0 m 125 ls []) rfl ?_
              refine lv_aload_n (pc := 125) hx hb dX5_sign_125 rfl (lv_at hl 3 rfl) ?_
              refine lv_iload_n (pc := 126) hx hb dX5_sign_126 rfl (lv_at hl 5 rfl) ?_
              obtain ⟨z4, hc4, hf⟩ := bdS hf
              refine call_VUs (pc := 127) (As := [.int x2]) (rest := []) C h (k_X5_looks z3 x2 hc4) cw_X5_109 0 (mW_c0 _ _ _) rfl (mW_fst _ _ _ _) rfl rfl hl.1 (Nat.le_of_ble_eq_true rfl) dX5_sign_127 ⟨Nat.le_of_ble_eq_true rfl, Nat.le_of_ble_eq_true rfl⟩ rfl rfl ⟨Nat.le_of_ble_eq_true rfl, Nat.le_of_ble_eq_true rfl⟩ (fun H locs h => ?_)
              refine W.eq (g2 := F0 m 130 ls []) rfl ?_
              refine lv_aload_n (pc := 130) hx hb dX5_sign_130 rfl (lv_at hl 3 rfl) ?_
              refine call_VRs (pc := 131) (As := []) (rest := []) C h (k_X5_open z4 rfl) cw_X5_137 0 (mW_c0 _ _ _) rfl rfl rfl hl.1 (Nat.le_of_ble_eq_true rfl) dX5_sign_131 ⟨Nat.le_of_ble_eq_true rfl, Nat.le_of_ble_eq_true rfl⟩ rfl rfl ⟨Nat.le_of_ble_eq_true rfl, Nat.le_of_ble_eq_true rfl⟩ (fun H locs h => ?_)
              refine W.eq (g2 := F0 m 134 ls [.int (f_X5_open z4)]) rfl ?_
              refine lv_iload (pc := 134) hx hb dX5_sign_134 (lv_at hl 0 rfl) ?_
              refine lv_iconst (pc := 136) (v := -1) hx hb dX5_sign_136 (by decide) ?_
              refine lv_ixor (pc := 137) hx hb dX5_sign_137 ?_
              refine lv_iand (pc := 138) hx hb dX5_sign_138 ?_
              obtain ⟨z5, hc5, hf⟩ := bdS hf
              refine call_SR (pc := 139) (As := [.int ((f_X5_open z4) &&& ((f_X5_open (f_X5_goes z2.2 (1 : Int32) (0 : Int32) (1 : Int32)).2) ^^^ (-1 : Int32)))]) (rest := []) (wc := []) C h (k_X5_many ((f_X5_open z4) &&& ((f_X5_open (f_X5_goes z2.2 (1 : Int32) (0 : Int32) (1 : Int32)).2) ^^^ (-1 : Int32))) hc5) cw_X5_120 [] rfl rfl rfl rfl hl.1 (Nat.le_of_ble_eq_true rfl) dX5_sign_139 ⟨Nat.le_of_ble_eq_true rfl, Nat.le_of_ble_eq_true rfl⟩ rfl rfl ⟨Nat.le_of_ble_eq_true rfl, Nat.le_of_ble_eq_true rfl⟩ (fun H locs h => ?_)
              refine W.eq (g2 := F0 m 142 ls [.int z5]) rfl ?_
              have hf : (some (z5, z4)) = some z := hf
              cases hf
              exact ret_iU (pc := 142) C hr h dX5_sign_142
            · have hf := ifT c9 hf
              refine lv_iconst (pc := 115) (v := 1) hx hb dX5_sign_115 (by decide) ?_
              refine lv_goto (pc := 116) (tgt := 120) hx hb dX5_sign_116 (by decide) ?_
              refine lv_iload_n (pc := 120) hx hb dX5_sign_120 rfl (lv_at hl 4 rfl) ?_
              refine lv_iload_n (pc := 121) hx hb dX5_sign_121 rfl (lv_at hl 6 rfl) ?_
              obtain ⟨z3, hc3, hf⟩ := bdS hf
              refine call_VUs (pc := 122) (As := [.int x2, .int (1 : Int32), .int x1, .int x3]) (rest := []) C h (k_X5_notes (f_X5_goes z2.2 (1 : Int32) (0 : Int32) (1 : Int32)).2 x2 (1 : Int32) x1 x3 hc3) cw_X5_116 0 (mW_c0 _ _ _) rfl (mW_fst _ _ _ _) rfl rfl hl.1 (Nat.le_of_ble_eq_true rfl) dX5_sign_122 ⟨Nat.le_of_ble_eq_true rfl, Nat.le_of_ble_eq_true rfl⟩ rfl rfl ⟨Nat.le_of_ble_eq_true rfl, Nat.le_of_ble_eq_true rfl⟩ (fun H locs h => ?_)
              refine W.eq (g2 := F0 m 125 ls []) rfl ?_
              refine lv_aload_n (pc := 125) hx hb dX5_sign_125 rfl (lv_at hl 3 rfl) ?_
              refine lv_iload_n (pc := 126) hx hb dX5_sign_126 rfl (lv_at hl 5 rfl) ?_
              obtain ⟨z4, hc4, hf⟩ := bdS hf
              refine call_VUs (pc := 127) (As := [.int x2]) (rest := []) C h (k_X5_looks z3 x2 hc4) cw_X5_109 0 (mW_c0 _ _ _) rfl (mW_fst _ _ _ _) rfl rfl hl.1 (Nat.le_of_ble_eq_true rfl) dX5_sign_127 ⟨Nat.le_of_ble_eq_true rfl, Nat.le_of_ble_eq_true rfl⟩ rfl rfl ⟨Nat.le_of_ble_eq_true rfl, Nat.le_of_ble_eq_true rfl⟩ (fun H locs h => ?_)
              refine W.eq (g2 := F0 m 130 ls []) rfl ?_
              refine lv_aload_n (pc := 130) hx hb dX5_sign_130 rfl (lv_at hl 3 rfl) ?_
              refine call_VRs (pc := 131) (As := []) (rest := []) C h (k_X5_open z4 rfl) cw_X5_137 0 (mW_c0 _ _ _) rfl rfl rfl hl.1 (Nat.le_of_ble_eq_true rfl) dX5_sign_131 ⟨Nat.le_of_ble_eq_true rfl, Nat.le_of_ble_eq_true rfl⟩ rfl rfl ⟨Nat.le_of_ble_eq_true rfl, Nat.le_of_ble_eq_true rfl⟩ (fun H locs h => ?_)
              refine W.eq (g2 := F0 m 134 ls [.int (f_X5_open z4)]) rfl ?_
              refine lv_iload (pc := 134) hx hb dX5_sign_134 (lv_at hl 0 rfl) ?_
              refine lv_iconst (pc := 136) (v := -1) hx hb dX5_sign_136 (by decide) ?_
              refine lv_ixor (pc := 137) hx hb dX5_sign_137 ?_
              refine lv_iand (pc := 138) hx hb dX5_sign_138 ?_
              obtain ⟨z5, hc5, hf⟩ := bdS hf
              refine call_SR (pc := 139) (As := [.int ((f_X5_open z4) &&& ((f_X5_open (f_X5_goes z2.2 (1 : Int32) (0 : Int32) (1 : Int32)).2) ^^^ (-1 : Int32)))]) (rest := []) (wc := []) C h (k_X5_many ((f_X5_open z4) &&& ((f_X5_open (f_X5_goes z2.2 (1 : Int32) (0 : Int32) (1 : Int32)).2) ^^^ (-1 : Int32))) hc5) cw_X5_120 [] rfl rfl rfl rfl hl.1 (Nat.le_of_ble_eq_true rfl) dX5_sign_139 ⟨Nat.le_of_ble_eq_true rfl, Nat.le_of_ble_eq_true rfl⟩ rfl rfl ⟨Nat.le_of_ble_eq_true rfl, Nat.le_of_ble_eq_true rfl⟩ (fun H locs h => ?_)
              refine W.eq (g2 := F0 m 142 ls [.int z5]) rfl ?_
              have hf : (some (z5, z4)) = some z := hf
              cases hf
              exact ret_iU (pc := 142) C hr h dX5_sign_142
          · have hf := ifF c9 hf
            refine lv_aload_n (pc := 81) hx hb dX5_sign_81 rfl (lv_at hl 3 rfl) ?_
            refine g_get (pc := 82) (v := .ref (q 15)) C h.1 0 (mW_c0 _ _ _) fl_X5_52 rfl dX5_sign_82 ?_
            refine lv_iload (pc := 85) hx hb dX5_sign_85 (lv_at hl 1 rfl) ?_
            refine lv_aload_n (pc := 87) hx hb dX5_sign_87 rfl (lv_at hl 3 rfl) ?_
            refine lv_iload (pc := 88) hx hb dX5_sign_88 (lv_at hl 1 rfl) ?_
            obtain ⟨z3, hc3, hf⟩ := bdS hf
            refine call_VRs (pc := 90) (As := [.int (((f_X5_goes z2.2 (1 : Int32) (0 : Int32) (1 : Int32)).2 6) (((8 : Int32) * x2) + x3).toNatClampNeg)]) (rest := [.int (((f_X5_goes z2.2 (1 : Int32) (0 : Int32) (1 : Int32)).2 6) (((8 : Int32) * x2) + x3).toNatClampNeg), .ref (q 15)]) C h (k_X5_signedToday (f_X5_goes z2.2 (1 : Int32) (0 : Int32) (1 : Int32)).2 (((f_X5_goes z2.2 (1 : Int32) (0 : Int32) (1 : Int32)).2 6) (((8 : Int32) * x2) + x3).toNatClampNeg) hc3) cw_X5_144 0 (mW_c0 _ _ _) rfl rfl rfl hl.1 (Nat.le_of_ble_eq_true rfl) dX5_sign_90 ⟨Nat.le_of_ble_eq_true rfl, Nat.le_of_ble_eq_true rfl⟩ rfl rfl ⟨Nat.le_of_ble_eq_true rfl, Nat.le_of_ble_eq_true rfl⟩ (fun H locs h => ?_)
            refine W.eq (g2 := F0 m 93 ls [.int z3, .int (((f_X5_goes z2.2 (1 : Int32) (0 : Int32) (1 : Int32)).2 6) (((8 : Int32) * x2) + x3).toNatClampNeg), .ref (q 15)]) rfl ?_
            refine lv_iconst (pc := 93) (v := 1) hx hb dX5_sign_93 (by decide) ?_
            refine lv_iadd (pc := 94) hx hb dX5_sign_94 ?_
            obtain ⟨hin, hf⟩ := ifS hf
            obtain ⟨t4, et4, hf⟩ := ltS hf
            refine g_ist (pc := 95) (n := 8) (f := ((f_X5_goes z2.2 (1 : Int32) (0 : Int32) (1 : Int32)).2 16)) (ws' := (mW q cA t4)) C h 15 (mW_c15 _ _ _) hin ((mW_w15 _ _ _ _).trans (congrArg (mW q cA) et4.symm)) dX5_sign_95 (fun H locs h => ?_)
            refine lv_aload_n (pc := 96) hx hb dX5_sign_96 rfl (lv_at hl 3 rfl) ?_
            refine g_get (pc := 97) (v := .ref (q 16)) C h.1 0 (mW_c0 _ _ _) fl_X5_55 rfl dX5_sign_97 ?_
            refine lv_iload (pc := 100) hx hb dX5_sign_100 (lv_at hl 1 rfl) ?_
            refine lv_aload_n (pc := 102) hx hb dX5_sign_102 rfl (lv_at hl 3 rfl) ?_
            refine g_get (pc := 103) (v := .int (t4 0 0)) C h.1 0 (mW_c0 _ _ _) fl_X5_113 rfl dX5_sign_103 ?_
            obtain ⟨hin, hf⟩ := ifS hf
            obtain ⟨t5, et5, hf⟩ := ltS hf
            refine g_ist (pc := 106) (n := 8) (f := (t4 17)) (ws' := (mW q cA t5)) C h 16 (mW_c16 _ _ _) hin ((mW_w16 _ _ _ _).trans (congrArg (mW q cA) et5.symm)) dX5_sign_106 (fun H locs h => ?_)
            refine lv_aload_n (pc := 107) hx hb dX5_sign_107 rfl (lv_at hl 3 rfl) ?_
            refine lv_iload_n (pc := 108) hx hb dX5_sign_108 rfl (lv_at hl 5 rfl) ?_
            refine lv_iload_n (pc := 109) hx hb dX5_sign_109 rfl (lv_at hl 4 rfl) ?_
            refine lv_iload (pc := 110) hx hb dX5_sign_110 (lv_at hl 1 rfl) ?_
            refine lv_icmp_ne (pc := 112) (tgt := 119) hx hb dX5_sign_112 (by decide) (fun c9 => ?_) (fun c9 => ?_)
            · have hf := ifF c9 hf
              refine lv_iconst (pc := 119) (v := 2) hx hb dX5_sign_119 (by decide) ?_
              refine lv_iload_n (pc := 120) hx hb dX5_sign_120 rfl (lv_at hl 4 rfl) ?_
              refine lv_iload_n (pc := 121) hx hb dX5_sign_121 rfl (lv_at hl 6 rfl) ?_
              obtain ⟨z6, hc6, hf⟩ := bdS hf
              refine call_VUs (pc := 122) (As := [.int x2, .int (2 : Int32), .int x1, .int x3]) (rest := []) C h (k_X5_notes t5 x2 (2 : Int32) x1 x3 hc6) cw_X5_116 0 (mW_c0 _ _ _) rfl (mW_fst _ _ _ _) rfl rfl hl.1 (Nat.le_of_ble_eq_true rfl) dX5_sign_122 ⟨Nat.le_of_ble_eq_true rfl, Nat.le_of_ble_eq_true rfl⟩ rfl rfl ⟨Nat.le_of_ble_eq_true rfl, Nat.le_of_ble_eq_true rfl⟩ (fun H locs h => ?_)
              refine W.eq (g2 := F0 m 125 ls []) rfl ?_
              refine lv_aload_n (pc := 125) hx hb dX5_sign_125 rfl (lv_at hl 3 rfl) ?_
              refine lv_iload_n (pc := 126) hx hb dX5_sign_126 rfl (lv_at hl 5 rfl) ?_
              obtain ⟨z7, hc7, hf⟩ := bdS hf
              refine call_VUs (pc := 127) (As := [.int x2]) (rest := []) C h (k_X5_looks z6 x2 hc7) cw_X5_109 0 (mW_c0 _ _ _) rfl (mW_fst _ _ _ _) rfl rfl hl.1 (Nat.le_of_ble_eq_true rfl) dX5_sign_127 ⟨Nat.le_of_ble_eq_true rfl, Nat.le_of_ble_eq_true rfl⟩ rfl rfl ⟨Nat.le_of_ble_eq_true rfl, Nat.le_of_ble_eq_true rfl⟩ (fun H locs h => ?_)
              refine W.eq (g2 := F0 m 130 ls []) rfl ?_
              refine lv_aload_n (pc := 130) hx hb dX5_sign_130 rfl (lv_at hl 3 rfl) ?_
              refine call_VRs (pc := 131) (As := []) (rest := []) C h (k_X5_open z7 rfl) cw_X5_137 0 (mW_c0 _ _ _) rfl rfl rfl hl.1 (Nat.le_of_ble_eq_true rfl) dX5_sign_131 ⟨Nat.le_of_ble_eq_true rfl, Nat.le_of_ble_eq_true rfl⟩ rfl rfl ⟨Nat.le_of_ble_eq_true rfl, Nat.le_of_ble_eq_true rfl⟩ (fun H locs h => ?_)
              refine W.eq (g2 := F0 m 134 ls [.int (f_X5_open z7)]) rfl ?_
              refine lv_iload (pc := 134) hx hb dX5_sign_134 (lv_at hl 0 rfl) ?_
              refine lv_iconst (pc := 136) (v := -1) hx hb dX5_sign_136 (by decide) ?_
              refine lv_ixor (pc := 137) hx hb dX5_sign_137 ?_
              refine lv_iand (pc := 138) hx hb dX5_sign_138 ?_
              obtain ⟨z8, hc8, hf⟩ := bdS hf
              refine call_SR (pc := 139) (As := [.int ((f_X5_open z7) &&& ((f_X5_open (f_X5_goes z2.2 (1 : Int32) (0 : Int32) (1 : Int32)).2) ^^^ (-1 : Int32)))]) (rest := []) (wc := []) C h (k_X5_many ((f_X5_open z7) &&& ((f_X5_open (f_X5_goes z2.2 (1 : Int32) (0 : Int32) (1 : Int32)).2) ^^^ (-1 : Int32))) hc8) cw_X5_120 [] rfl rfl rfl rfl hl.1 (Nat.le_of_ble_eq_true rfl) dX5_sign_139 ⟨Nat.le_of_ble_eq_true rfl, Nat.le_of_ble_eq_true rfl⟩ rfl rfl ⟨Nat.le_of_ble_eq_true rfl, Nat.le_of_ble_eq_true rfl⟩ (fun H locs h => ?_)
              refine W.eq (g2 := F0 m 142 ls [.int z8]) rfl ?_
              have hf : (some (z8, z7)) = some z := hf
              cases hf
              exact ret_iU (pc := 142) C hr h dX5_sign_142
            · have hf := ifT c9 hf
              refine lv_iconst (pc := 115) (v := 1) hx hb dX5_sign_115 (by decide) ?_
              refine lv_goto (pc := 116) (tgt := 120) hx hb dX5_sign_116 (by decide) ?_
              refine lv_iload_n (pc := 120) hx hb dX5_sign_120 rfl (lv_at hl 4 rfl) ?_
              refine lv_iload_n (pc := 121) hx hb dX5_sign_121 rfl (lv_at hl 6 rfl) ?_
              obtain ⟨z6, hc6, hf⟩ := bdS hf
              refine call_VUs (pc := 122) (As := [.int x2, .int (1 : Int32), .int x1, .int x3]) (rest := []) C h (k_X5_notes t5 x2 (1 : Int32) x1 x3 hc6) cw_X5_116 0 (mW_c0 _ _ _) rfl (mW_fst _ _ _ _) rfl rfl hl.1 (Nat.le_of_ble_eq_true rfl) dX5_sign_122 ⟨Nat.le_of_ble_eq_true rfl, Nat.le_of_ble_eq_true rfl⟩ rfl rfl ⟨Nat.le_of_ble_eq_true rfl, Nat.le_of_ble_eq_true rfl⟩ (fun H locs h => ?_)
              refine W.eq (g2 := F0 m 125 ls []) rfl ?_
              refine lv_aload_n (pc := 125) hx hb dX5_sign_125 rfl (lv_at hl 3 rfl) ?_
              refine lv_iload_n (pc := 126) hx hb dX5_sign_126 rfl (lv_at hl 5 rfl) ?_
              obtain ⟨z7, hc7, hf⟩ := bdS hf
              refine call_VUs (pc := 127) (As := [.int x2]) (rest := []) C h (k_X5_looks z6 x2 hc7) cw_X5_109 0 (mW_c0 _ _ _) rfl (mW_fst _ _ _ _) rfl rfl hl.1 (Nat.le_of_ble_eq_true rfl) dX5_sign_127 ⟨Nat.le_of_ble_eq_true rfl, Nat.le_of_ble_eq_true rfl⟩ rfl rfl ⟨Nat.le_of_ble_eq_true rfl, Nat.le_of_ble_eq_true rfl⟩ (fun H locs h => ?_)
              refine W.eq (g2 := F0 m 130 ls []) rfl ?_
              refine lv_aload_n (pc := 130) hx hb dX5_sign_130 rfl (lv_at hl 3 rfl) ?_
              refine call_VRs (pc := 131) (As := []) (rest := []) C h (k_X5_open z7 rfl) cw_X5_137 0 (mW_c0 _ _ _) rfl rfl rfl hl.1 (Nat.le_of_ble_eq_true rfl) dX5_sign_131 ⟨Nat.le_of_ble_eq_true rfl, Nat.le_of_ble_eq_true rfl⟩ rfl rfl ⟨Nat.le_of_ble_eq_true rfl, Nat.le_of_ble_eq_true rfl⟩ (fun H locs h => ?_)
              refine W.eq (g2 := F0 m 134 ls [.int (f_X5_open z7)]) rfl ?_
              refine lv_iload (pc := 134) hx hb dX5_sign_134 (lv_at hl 0 rfl) ?_
              refine lv_iconst (pc := 136) (v := -1) hx hb dX5_sign_136 (by decide) ?_
              refine lv_ixor (pc := 137) hx hb dX5_sign_137 ?_
              refine lv_iand (pc := 138) hx hb dX5_sign_138 ?_
              obtain ⟨z8, hc8, hf⟩ := bdS hf
              refine call_SR (pc := 139) (As := [.int ((f_X5_open z7) &&& ((f_X5_open (f_X5_goes z2.2 (1 : Int32) (0 : Int32) (1 : Int32)).2) ^^^ (-1 : Int32)))]) (rest := []) (wc := []) C h (k_X5_many ((f_X5_open z7) &&& ((f_X5_open (f_X5_goes z2.2 (1 : Int32) (0 : Int32) (1 : Int32)).2) ^^^ (-1 : Int32))) hc8) cw_X5_120 [] rfl rfl rfl rfl hl.1 (Nat.le_of_ble_eq_true rfl) dX5_sign_139 ⟨Nat.le_of_ble_eq_true rfl, Nat.le_of_ble_eq_true rfl⟩ rfl rfl ⟨Nat.le_of_ble_eq_true rfl, Nat.le_of_ble_eq_true rfl⟩ (fun H locs h => ?_)
              refine W.eq (g2 := F0 m 142 ls [.int z8]) rfl ?_
              have hf : (some (z8, z7)) = some z := hf
              cases hf
              exact ret_iU (pc := 142) C hr h dX5_sign_142
        · have hf := ifT c9 hf
          refine lv_iconst (pc := 54) (v := 0) hx hb dX5_sign_54 (by decide) ?_
          have hf : (some ((0 : Int32), (f_X5_goes z2.2 (1 : Int32) (0 : Int32) (1 : Int32)).2)) = some z := hf
          cases hf
          exact ret_iU (pc := 55) C hr h dX5_sign_55
      · have hf := ifF c9 hf
        refine lv_iconst (pc := 42) (v := 1) hx hb dX5_sign_42 (by decide) ?_
        refine lv_goto (pc := 43) (tgt := 47) hx hb dX5_sign_43 (by decide) ?_
        refine lv_iconst (pc := 47) (v := 1) hx hb dX5_sign_47 (by decide) ?_
        refine call_VUs (pc := 48) (As := [.int (1 : Int32), .int (1 : Int32), .int (1 : Int32)]) (rest := []) C h (k_X5_goes z2.2 (1 : Int32) (1 : Int32) (1 : Int32) rfl) cw_X5_123 0 (mW_c0 _ _ _) rfl (mW_fst _ _ _ _) rfl rfl hl.1 (Nat.le_of_ble_eq_true rfl) dX5_sign_48 ⟨Nat.le_of_ble_eq_true rfl, Nat.le_of_ble_eq_true rfl⟩ rfl rfl ⟨Nat.le_of_ble_eq_true rfl, Nat.le_of_ble_eq_true rfl⟩ (fun H locs h => ?_)
        refine W.eq (g2 := F0 m 51 ls [.int (f_X5_goes z2.2 (1 : Int32) (1 : Int32) (1 : Int32)).1]) rfl ?_
        refine lv_if_ne (pc := 51) (tgt := 56) hx hb dX5_sign_51 (by decide) (fun c9 => ?_) (fun c9 => ?_)
        · have hf := ifF c9 hf
          refine lv_aload_n (pc := 56) hx hb dX5_sign_56 rfl (lv_at hl 1 rfl) ?_
          refine g_get (pc := 57) (v := .ref (q 5)) C h.1 0 (mW_c0 _ _ _) fl_X5_22 rfl dX5_sign_57 ?_
          refine lv_bipush (pc := 60) (v := 8) hx hb dX5_sign_60 (by decide) ?_
          refine lv_iload_n (pc := 62) hx hb dX5_sign_62 rfl (lv_at hl 3 rfl) ?_
          refine lv_imul (pc := 63) hx hb dX5_sign_63 ?_
          refine lv_iload_n (pc := 64) hx hb dX5_sign_64 rfl (lv_at hl 4 rfl) ?_
          refine lv_iadd (pc := 65) hx hb dX5_sign_65 ?_
          obtain ⟨hin, hf⟩ := ifS hf
          refine g_ild (pc := 66) (n := 48) (f := ((f_X5_goes z2.2 (1 : Int32) (1 : Int32) (1 : Int32)).2 6)) C h.1 5 (mW_c5 _ _ _) hin dX5_sign_66 ?_
          refine lv_istore (pc := 67) (lv' := [(5, .int (((f_X5_goes z2.2 (1 : Int32) (1 : Int32) (1 : Int32)).2 6) (((8 : Int32) * x2) + x3).toNatClampNeg)), (4, .int (1 : Int32)), (0, .ref (q 0)), (1, .int x1), (2, .int x2), (3, .int x3)]) hx hb dX5_sign_67 hl (by decide) rfl (fun ls hl => ?_)
          refine lv_aload_n (pc := 69) hx hb dX5_sign_69 rfl (lv_at hl 2 rfl) ?_
          refine call_VRs (pc := 70) (As := []) (rest := []) C h (k_X5_open (f_X5_goes z2.2 (1 : Int32) (1 : Int32) (1 : Int32)).2 rfl) cw_X5_137 0 (mW_c0 _ _ _) rfl rfl rfl hl.1 (Nat.le_of_ble_eq_true rfl) dX5_sign_70 ⟨Nat.le_of_ble_eq_true rfl, Nat.le_of_ble_eq_true rfl⟩ rfl rfl ⟨Nat.le_of_ble_eq_true rfl, Nat.le_of_ble_eq_true rfl⟩ (fun H locs h => ?_)
          refine W.eq (g2 := F0 m 73 ls [.int (f_X5_open (f_X5_goes z2.2 (1 : Int32) (1 : Int32) (1 : Int32)).2)]) rfl ?_
          refine lv_istore (pc := 73) (lv' := [(6, .int (f_X5_open (f_X5_goes z2.2 (1 : Int32) (1 : Int32) (1 : Int32)).2)), (5, .int (((f_X5_goes z2.2 (1 : Int32) (1 : Int32) (1 : Int32)).2 6) (((8 : Int32) * x2) + x3).toNatClampNeg)), (4, .int (1 : Int32)), (0, .ref (q 0)), (1, .int x1), (2, .int x2), (3, .int x3)]) hx hb dX5_sign_73 hl (by decide) rfl (fun ls hl => ?_)
          refine lv_iload_n (pc := 75) hx hb dX5_sign_75 rfl (lv_at hl 4 rfl) ?_
          refine lv_iload (pc := 76) hx hb dX5_sign_76 (lv_at hl 1 rfl) ?_
          refine lv_icmp_eq (pc := 78) (tgt := 107) hx hb dX5_sign_78 (by decide) (fun c9 => ?_) (fun c9 => ?_)
          · have hf := ifT c9 hf
            refine lv_aload_n (pc := 107) hx hb dX5_sign_107 rfl (lv_at hl 3 rfl) ?_
            refine lv_iload_n (pc := 108) hx hb dX5_sign_108 rfl (lv_at hl 5 rfl) ?_
            refine lv_iload_n (pc := 109) hx hb dX5_sign_109 rfl (lv_at hl 4 rfl) ?_
            refine lv_iload (pc := 110) hx hb dX5_sign_110 (lv_at hl 1 rfl) ?_
            refine lv_icmp_ne (pc := 112) (tgt := 119) hx hb dX5_sign_112 (by decide) (fun c9 => ?_) (fun c9 => ?_)
            · have hf := ifF c9 hf
              refine lv_iconst (pc := 119) (v := 2) hx hb dX5_sign_119 (by decide) ?_
              refine lv_iload_n (pc := 120) hx hb dX5_sign_120 rfl (lv_at hl 4 rfl) ?_
              refine lv_iload_n (pc := 121) hx hb dX5_sign_121 rfl (lv_at hl 6 rfl) ?_
              obtain ⟨z3, hc3, hf⟩ := bdS hf
              refine call_VUs (pc := 122) (As := [.int x2, .int (2 : Int32), .int x1, .int x3]) (rest := []) C h (k_X5_notes (f_X5_goes z2.2 (1 : Int32) (1 : Int32) (1 : Int32)).2 x2 (2 : Int32) x1 x3 hc3) cw_X5_116 0 (mW_c0 _ _ _) rfl (mW_fst _ _ _ _) rfl rfl hl.1 (Nat.le_of_ble_eq_true rfl) dX5_sign_122 ⟨Nat.le_of_ble_eq_true rfl, Nat.le_of_ble_eq_true rfl⟩ rfl rfl ⟨Nat.le_of_ble_eq_true rfl, Nat.le_of_ble_eq_true rfl⟩ (fun H locs h => ?_)
              refine W.eq (g2 := F0 m 125 ls []) rfl ?_
              refine lv_aload_n (pc := 125) hx hb dX5_sign_125 rfl (lv_at hl 3 rfl) ?_
              refine lv_iload_n (pc := 126) hx hb dX5_sign_126 rfl (lv_at hl 5 rfl) ?_
              obtain ⟨z4, hc4, hf⟩ := bdS hf
              refine call_VUs (pc := 127) (As := [.int x2]) (rest := []) C h (k_X5_looks z3 x2 hc4) cw_X5_109 0 (mW_c0 _ _ _) rfl (mW_fst _ _ _ _) rfl rfl hl.1 (Nat.le_of_ble_eq_true rfl) dX5_sign_127 ⟨Nat.le_of_ble_eq_true rfl, Nat.le_of_ble_eq_true rfl⟩ rfl rfl ⟨Nat.le_of_ble_eq_true rfl, Nat.le_of_ble_eq_true rfl⟩ (fun H locs h => ?_)
              refine W.eq (g2 := F0 m 130 ls []) rfl ?_
              refine lv_aload_n (pc := 130) hx hb dX5_sign_130 rfl (lv_at hl 3 rfl) ?_
              refine call_VRs (pc := 131) (As := []) (rest := []) C h (k_X5_open z4 rfl) cw_X5_137 0 (mW_c0 _ _ _) rfl rfl rfl hl.1 (Nat.le_of_ble_eq_true rfl) dX5_sign_131 ⟨Nat.le_of_ble_eq_true rfl, Nat.le_of_ble_eq_true rfl⟩ rfl rfl ⟨Nat.le_of_ble_eq_true rfl, Nat.le_of_ble_eq_true rfl⟩ (fun H locs h => ?_)
              refine W.eq (g2 := F0 m 134 ls [.int (f_X5_open z4)]) rfl ?_
              refine lv_iload (pc := 134) hx hb dX5_sign_134 (lv_at hl 0 rfl) ?_
              refine lv_iconst (pc := 136) (v := -1) hx hb dX5_sign_136 (by decide) ?_
              refine lv_ixor (pc := 137) hx hb dX5_sign_137 ?_
              refine lv_iand (pc := 138) hx hb dX5_sign_138 ?_
              obtain ⟨z5, hc5, hf⟩ := bdS hf
              refine call_SR (pc := 139) (As := [.int ((f_X5_open z4) &&& ((f_X5_open (f_X5_goes z2.2 (1 : Int32) (1 : Int32) (1 : Int32)).2) ^^^ (-1 : Int32)))]) (rest := []) (wc := []) C h (k_X5_many ((f_X5_open z4) &&& ((f_X5_open (f_X5_goes z2.2 (1 : Int32) (1 : Int32) (1 : Int32)).2) ^^^ (-1 : Int32))) hc5) cw_X5_120 [] rfl rfl rfl rfl hl.1 (Nat.le_of_ble_eq_true rfl) dX5_sign_139 ⟨Nat.le_of_ble_eq_true rfl, Nat.le_of_ble_eq_true rfl⟩ rfl rfl ⟨Nat.le_of_ble_eq_true rfl, Nat.le_of_ble_eq_true rfl⟩ (fun H locs h => ?_)
              refine W.eq (g2 := F0 m 142 ls [.int z5]) rfl ?_
              have hf : (some (z5, z4)) = some z := hf
              cases hf
              exact ret_iU (pc := 142) C hr h dX5_sign_142
            · have hf := ifT c9 hf
              refine lv_iconst (pc := 115) (v := 1) hx hb dX5_sign_115 (by decide) ?_
              refine lv_goto (pc := 116) (tgt := 120) hx hb dX5_sign_116 (by decide) ?_
              refine lv_iload_n (pc := 120) hx hb dX5_sign_120 rfl (lv_at hl 4 rfl) ?_
              refine lv_iload_n (pc := 121) hx hb dX5_sign_121 rfl (lv_at hl 6 rfl) ?_
              obtain ⟨z3, hc3, hf⟩ := bdS hf
              refine call_VUs (pc := 122) (As := [.int x2, .int (1 : Int32), .int x1, .int x3]) (rest := []) C h (k_X5_notes (f_X5_goes z2.2 (1 : Int32) (1 : Int32) (1 : Int32)).2 x2 (1 : Int32) x1 x3 hc3) cw_X5_116 0 (mW_c0 _ _ _) rfl (mW_fst _ _ _ _) rfl rfl hl.1 (Nat.le_of_ble_eq_true rfl) dX5_sign_122 ⟨Nat.le_of_ble_eq_true rfl, Nat.le_of_ble_eq_true rfl⟩ rfl rfl ⟨Nat.le_of_ble_eq_true rfl, Nat.le_of_ble_eq_true rfl⟩ (fun H locs h => ?_)
              refine W.eq (g2 := F0 m 125 ls []) rfl ?_
              refine lv_aload_n (pc := 125) hx hb dX5_sign_125 rfl (lv_at hl 3 rfl) ?_
              refine lv_iload_n (pc := 126) hx hb dX5_sign_126 rfl (lv_at hl 5 rfl) ?_
              obtain ⟨z4, hc4, hf⟩ := bdS hf
              refine call_VUs (pc := 127) (As := [.int x2]) (rest := []) C h (k_X5_looks z3 x2 hc4) cw_X5_109 0 (mW_c0 _ _ _) rfl (mW_fst _ _ _ _) rfl rfl hl.1 (Nat.le_of_ble_eq_true rfl) dX5_sign_127 ⟨Nat.le_of_ble_eq_true rfl, Nat.le_of_ble_eq_true rfl⟩ rfl rfl ⟨Nat.le_of_ble_eq_true rfl, Nat.le_of_ble_eq_true rfl⟩ (fun H locs h => ?_)
              refine W.eq (g2 := F0 m 130 ls []) rfl ?_
              refine lv_aload_n (pc := 130) hx hb dX5_sign_130 rfl (lv_at hl 3 rfl) ?_
              refine call_VRs (pc := 131) (As := []) (rest := []) C h (k_X5_open z4 rfl) cw_X5_137 0 (mW_c0 _ _ _) rfl rfl rfl hl.1 (Nat.le_of_ble_eq_true rfl) dX5_sign_131 ⟨Nat.le_of_ble_eq_true rfl, Nat.le_of_ble_eq_true rfl⟩ rfl rfl ⟨Nat.le_of_ble_eq_true rfl, Nat.le_of_ble_eq_true rfl⟩ (fun H locs h => ?_)
              refine W.eq (g2 := F0 m 134 ls [.int (f_X5_open z4)]) rfl ?_
              refine lv_iload (pc := 134) hx hb dX5_sign_134 (lv_at hl 0 rfl) ?_
              refine lv_iconst (pc := 136) (v := -1) hx hb dX5_sign_136 (by decide) ?_
              refine lv_ixor (pc := 137) hx hb dX5_sign_137 ?_
              refine lv_iand (pc := 138) hx hb dX5_sign_138 ?_
              obtain ⟨z5, hc5, hf⟩ := bdS hf
              refine call_SR (pc := 139) (As := [.int ((f_X5_open z4) &&& ((f_X5_open (f_X5_goes z2.2 (1 : Int32) (1 : Int32) (1 : Int32)).2) ^^^ (-1 : Int32)))]) (rest := []) (wc := []) C h (k_X5_many ((f_X5_open z4) &&& ((f_X5_open (f_X5_goes z2.2 (1 : Int32) (1 : Int32) (1 : Int32)).2) ^^^ (-1 : Int32))) hc5) cw_X5_120 [] rfl rfl rfl rfl hl.1 (Nat.le_of_ble_eq_true rfl) dX5_sign_139 ⟨Nat.le_of_ble_eq_true rfl, Nat.le_of_ble_eq_true rfl⟩ rfl rfl ⟨Nat.le_of_ble_eq_true rfl, Nat.le_of_ble_eq_true rfl⟩ (fun H locs h => ?_)
              refine W.eq (g2 := F0 m 142 ls [.int z5]) rfl ?_
              have hf : (some (z5, z4)) = some z := hf
              cases hf
              exact ret_iU (pc := 142) C hr h dX5_sign_142
          · have hf := ifF c9 hf
            refine lv_aload_n (pc := 81) hx hb dX5_sign_81 rfl (lv_at hl 3 rfl) ?_
            refine g_get (pc := 82) (v := .ref (q 15)) C h.1 0 (mW_c0 _ _ _) fl_X5_52 rfl dX5_sign_82 ?_
            refine lv_iload (pc := 85) hx hb dX5_sign_85 (lv_at hl 1 rfl) ?_
            refine lv_aload_n (pc := 87) hx hb dX5_sign_87 rfl (lv_at hl 3 rfl) ?_
            refine lv_iload (pc := 88) hx hb dX5_sign_88 (lv_at hl 1 rfl) ?_
            obtain ⟨z3, hc3, hf⟩ := bdS hf
            refine call_VRs (pc := 90) (As := [.int (((f_X5_goes z2.2 (1 : Int32) (1 : Int32) (1 : Int32)).2 6) (((8 : Int32) * x2) + x3).toNatClampNeg)]) (rest := [.int (((f_X5_goes z2.2 (1 : Int32) (1 : Int32) (1 : Int32)).2 6) (((8 : Int32) * x2) + x3).toNatClampNeg), .ref (q 15)]) C h (k_X5_signedToday (f_X5_goes z2.2 (1 : Int32) (1 : Int32) (1 : Int32)).2 (((f_X5_goes z2.2 (1 : Int32) (1 : Int32) (1 : Int32)).2 6) (((8 : Int32) * x2) + x3).toNatClampNeg) hc3) cw_X5_144 0 (mW_c0 _ _ _) rfl rfl rfl hl.1 (Nat.le_of_ble_eq_true rfl) dX5_sign_90 ⟨Nat.le_of_ble_eq_true rfl, Nat.le_of_ble_eq_true rfl⟩ rfl rfl ⟨Nat.le_of_ble_eq_true rfl, Nat.le_of_ble_eq_true rfl⟩ (fun H locs h => ?_)
            refine W.eq (g2 := F0 m 93 ls [.int z3, .int (((f_X5_goes z2.2 (1 : Int32) (1 : Int32) (1 : Int32)).2 6) (((8 : Int32) * x2) + x3).toNatClampNeg), .ref (q 15)]) rfl ?_
            refine lv_iconst (pc := 93) (v := 1) hx hb dX5_sign_93 (by decide) ?_
            refine lv_iadd (pc := 94) hx hb dX5_sign_94 ?_
            obtain ⟨hin, hf⟩ := ifS hf
            obtain ⟨t4, et4, hf⟩ := ltS hf
            refine g_ist (pc := 95) (n := 8) (f := ((f_X5_goes z2.2 (1 : Int32) (1 : Int32) (1 : Int32)).2 16)) (ws' := (mW q cA t4)) C h 15 (mW_c15 _ _ _) hin ((mW_w15 _ _ _ _).trans (congrArg (mW q cA) et4.symm)) dX5_sign_95 (fun H locs h => ?_)
            refine lv_aload_n (pc := 96) hx hb dX5_sign_96 rfl (lv_at hl 3 rfl) ?_
            refine g_get (pc := 97) (v := .ref (q 16)) C h.1 0 (mW_c0 _ _ _) fl_X5_55 rfl dX5_sign_97 ?_
            refine lv_iload (pc := 100) hx hb dX5_sign_100 (lv_at hl 1 rfl) ?_
            refine lv_aload_n (pc := 102) hx hb dX5_sign_102 rfl (lv_at hl 3 rfl) ?_
            refine g_get (pc := 103) (v := .int (t4 0 0)) C h.1 0 (mW_c0 _ _ _) fl_X5_113 rfl dX5_sign_103 ?_
            obtain ⟨hin, hf⟩ := ifS hf
            obtain ⟨t5, et5, hf⟩ := ltS hf
            refine g_ist (pc := 106) (n := 8) (f := (t4 17)) (ws' := (mW q cA t5)) C h 16 (mW_c16 _ _ _) hin ((mW_w16 _ _ _ _).trans (congrArg (mW q cA) et5.symm)) dX5_sign_106 (fun H locs h => ?_)
            refine lv_aload_n (pc := 107) hx hb dX5_sign_107 rfl (lv_at hl 3 rfl) ?_
            refine lv_iload_n (pc := 108) hx hb dX5_sign_108 rfl (lv_at hl 5 rfl) ?_
            refine lv_iload_n (pc := 109) hx hb dX5_sign_109 rfl (lv_at hl 4 rfl) ?_
            refine lv_iload (pc := 110) hx hb dX5_sign_110 (lv_at hl 1 rfl) ?_
            refine lv_icmp_ne (pc := 112) (tgt := 119) hx hb dX5_sign_112 (by decide) (fun c9 => ?_) (fun c9 => ?_)
            · have hf := ifF c9 hf
              refine lv_iconst (pc := 119) (v := 2) hx hb dX5_sign_119 (by decide) ?_
              refine lv_iload_n (pc := 120) hx hb dX5_sign_120 rfl (lv_at hl 4 rfl) ?_
              refine lv_iload_n (pc := 121) hx hb dX5_sign_121 rfl (lv_at hl 6 rfl) ?_
              obtain ⟨z6, hc6, hf⟩ := bdS hf
              refine call_VUs (pc := 122) (As := [.int x2, .int (2 : Int32), .int x1, .int x3]) (rest := []) C h (k_X5_notes t5 x2 (2 : Int32) x1 x3 hc6) cw_X5_116 0 (mW_c0 _ _ _) rfl (mW_fst _ _ _ _) rfl rfl hl.1 (Nat.le_of_ble_eq_true rfl) dX5_sign_122 ⟨Nat.le_of_ble_eq_true rfl, Nat.le_of_ble_eq_true rfl⟩ rfl rfl ⟨Nat.le_of_ble_eq_true rfl, Nat.le_of_ble_eq_true rfl⟩ (fun H locs h => ?_)
              refine W.eq (g2 := F0 m 125 ls []) rfl ?_
              refine lv_aload_n (pc := 125) hx hb dX5_sign_125 rfl (lv_at hl 3 rfl) ?_
              refine lv_iload_n (pc := 126) hx hb dX5_sign_126 rfl (lv_at hl 5 rfl) ?_
              obtain ⟨z7, hc7, hf⟩ := bdS hf
              refine call_VUs (pc := 127) (As := [.int x2]) (rest := []) C h (k_X5_looks z6 x2 hc7) cw_X5_109 0 (mW_c0 _ _ _) rfl (mW_fst _ _ _ _) rfl rfl hl.1 (Nat.le_of_ble_eq_true rfl) dX5_sign_127 ⟨Nat.le_of_ble_eq_true rfl, Nat.le_of_ble_eq_true rfl⟩ rfl rfl ⟨Nat.le_of_ble_eq_true rfl, Nat.le_of_ble_eq_true rfl⟩ (fun H locs h => ?_)
              refine W.eq (g2 := F0 m 130 ls []) rfl ?_
              refine lv_aload_n (pc := 130) hx hb dX5_sign_130 rfl (lv_at hl 3 rfl) ?_
              refine call_VRs (pc := 131) (As := []) (rest := []) C h (k_X5_open z7 rfl) cw_X5_137 0 (mW_c0 _ _ _) rfl rfl rfl hl.1 (Nat.le_of_ble_eq_true rfl) dX5_sign_131 ⟨Nat.le_of_ble_eq_true rfl, Nat.le_of_ble_eq_true rfl⟩ rfl rfl ⟨Nat.le_of_ble_eq_true rfl, Nat.le_of_ble_eq_true rfl⟩ (fun H locs h => ?_)
              refine W.eq (g2 := F0 m 134 ls [.int (f_X5_open z7)]) rfl ?_
              refine lv_iload (pc := 134) hx hb dX5_sign_134 (lv_at hl 0 rfl) ?_
              refine lv_iconst (pc := 136) (v := -1) hx hb dX5_sign_136 (by decide) ?_
              refine lv_ixor (pc := 137) hx hb dX5_sign_137 ?_
              refine lv_iand (pc := 138) hx hb dX5_sign_138 ?_
              obtain ⟨z8, hc8, hf⟩ := bdS hf
              refine call_SR (pc := 139) (As := [.int ((f_X5_open z7) &&& ((f_X5_open (f_X5_goes z2.2 (1 : Int32) (1 : Int32) (1 : Int32)).2) ^^^ (-1 : Int32)))]) (rest := []) (wc := []) C h (k_X5_many ((f_X5_open z7) &&& ((f_X5_open (f_X5_goes z2.2 (1 : Int32) (1 : Int32) (1 : Int32)).2) ^^^ (-1 : Int32))) hc8) cw_X5_120 [] rfl rfl rfl rfl hl.1 (Nat.le_of_ble_eq_true rfl) dX5_sign_139 ⟨Nat.le_of_ble_eq_true rfl, Nat.le_of_ble_eq_true rfl⟩ rfl rfl ⟨Nat.le_of_ble_eq_true rfl, Nat.le_of_ble_eq_true rfl⟩ (fun H locs h => ?_)
              refine W.eq (g2 := F0 m 142 ls [.int z8]) rfl ?_
              have hf : (some (z8, z7)) = some z := hf
              cases hf
              exact ret_iU (pc := 142) C hr h dX5_sign_142
            · have hf := ifT c9 hf
              refine lv_iconst (pc := 115) (v := 1) hx hb dX5_sign_115 (by decide) ?_
              refine lv_goto (pc := 116) (tgt := 120) hx hb dX5_sign_116 (by decide) ?_
              refine lv_iload_n (pc := 120) hx hb dX5_sign_120 rfl (lv_at hl 4 rfl) ?_
              refine lv_iload_n (pc := 121) hx hb dX5_sign_121 rfl (lv_at hl 6 rfl) ?_
              obtain ⟨z6, hc6, hf⟩ := bdS hf
              refine call_VUs (pc := 122) (As := [.int x2, .int (1 : Int32), .int x1, .int x3]) (rest := []) C h (k_X5_notes t5 x2 (1 : Int32) x1 x3 hc6) cw_X5_116 0 (mW_c0 _ _ _) rfl (mW_fst _ _ _ _) rfl rfl hl.1 (Nat.le_of_ble_eq_true rfl) dX5_sign_122 ⟨Nat.le_of_ble_eq_true rfl, Nat.le_of_ble_eq_true rfl⟩ rfl rfl ⟨Nat.le_of_ble_eq_true rfl, Nat.le_of_ble_eq_true rfl⟩ (fun H locs h => ?_)
              refine W.eq (g2 := F0 m 125 ls []) rfl ?_
              refine lv_aload_n (pc := 125) hx hb dX5_sign_125 rfl (lv_at hl 3 rfl) ?_
              refine lv_iload_n (pc := 126) hx hb dX5_sign_126 rfl (lv_at hl 5 rfl) ?_
              obtain ⟨z7, hc7, hf⟩ := bdS hf
              refine call_VUs (pc := 127) (As := [.int x2]) (rest := []) C h (k_X5_looks z6 x2 hc7) cw_X5_109 0 (mW_c0 _ _ _) rfl (mW_fst _ _ _ _) rfl rfl hl.1 (Nat.le_of_ble_eq_true rfl) dX5_sign_127 ⟨Nat.le_of_ble_eq_true rfl, Nat.le_of_ble_eq_true rfl⟩ rfl rfl ⟨Nat.le_of_ble_eq_true rfl, Nat.le_of_ble_eq_true rfl⟩ (fun H locs h => ?_)
              refine W.eq (g2 := F0 m 130 ls []) rfl ?_
              refine lv_aload_n (pc := 130) hx hb dX5_sign_130 rfl (lv_at hl 3 rfl) ?_
              refine call_VRs (pc := 131) (As := []) (rest := []) C h (k_X5_open z7 rfl) cw_X5_137 0 (mW_c0 _ _ _) rfl rfl rfl hl.1 (Nat.le_of_ble_eq_true rfl) dX5_sign_131 ⟨Nat.le_of_ble_eq_true rfl, Nat.le_of_ble_eq_true rfl⟩ rfl rfl ⟨Nat.le_of_ble_eq_true rfl, Nat.le_of_ble_eq_true rfl⟩ (fun H locs h => ?_)
              refine W.eq (g2 := F0 m 134 ls [.int (f_X5_open z7)]) rfl ?_
              refine lv_iload (pc := 134) hx hb dX5_sign_134 (lv_at hl 0 rfl) ?_
              refine lv_iconst (pc := 136) (v := -1) hx hb dX5_sign_136 (by decide) ?_
              refine lv_ixor (pc := 137) hx hb dX5_sign_137 ?_
              refine lv_iand (pc := 138) hx hb dX5_sign_138 ?_
              obtain ⟨z8, hc8, hf⟩ := bdS hf
              refine call_SR (pc := 139) (As := [.int ((f_X5_open z7) &&& ((f_X5_open (f_X5_goes z2.2 (1 : Int32) (1 : Int32) (1 : Int32)).2) ^^^ (-1 : Int32)))]) (rest := []) (wc := []) C h (k_X5_many ((f_X5_open z7) &&& ((f_X5_open (f_X5_goes z2.2 (1 : Int32) (1 : Int32) (1 : Int32)).2) ^^^ (-1 : Int32))) hc8) cw_X5_120 [] rfl rfl rfl rfl hl.1 (Nat.le_of_ble_eq_true rfl) dX5_sign_139 ⟨Nat.le_of_ble_eq_true rfl, Nat.le_of_ble_eq_true rfl⟩ rfl rfl ⟨Nat.le_of_ble_eq_true rfl, Nat.le_of_ble_eq_true rfl⟩ (fun H locs h => ?_)
              refine W.eq (g2 := F0 m 142 ls [.int z8]) rfl ?_
              have hf : (some (z8, z7)) = some z := hf
              cases hf
              exact ret_iU (pc := 142) C hr h dX5_sign_142
        · have hf := ifT c9 hf
          refine lv_iconst (pc := 54) (v := 0) hx hb dX5_sign_54 (by decide) ?_
          have hf : (some ((0 : Int32), (f_X5_goes z2.2 (1 : Int32) (1 : Int32) (1 : Int32)).2)) = some z := hf
          cases hf
          exact ret_iU (pc := 55) C hr h dX5_sign_55
abbrev rm_X5_whyNot : Room := { frames := 5, cells := 0, slots := 0, locals := 113 }
def f_X5_whyNot (σ : Nat → Nat → Int32) (x1 x2 x3 : Int32) : Option (Int32 × (Nat → Nat → Int32)) := (if (f_X5_isPerson x1) = 0 then (if (f_X5_goes σ (0 : Int32) (1 : Int32) (1 : Int32)).1 = 0 then (some ((0 : Int32), (f_X5_goes σ (0 : Int32) (1 : Int32) (1 : Int32)).2)) else ((f_X5_why (f_X5_goes σ (0 : Int32) (1 : Int32) (1 : Int32)).2 x1 x2 x3).bind fun z1 => (some (z1.1, z1.2)))) else ((f_X5_isSlot σ x2 x3).bind fun z1 => (if z1 = 0 then (if (f_X5_goes σ (0 : Int32) (1 : Int32) (1 : Int32)).1 = 0 then (some ((0 : Int32), (f_X5_goes σ (0 : Int32) (1 : Int32) (1 : Int32)).2)) else ((f_X5_why (f_X5_goes σ (0 : Int32) (1 : Int32) (1 : Int32)).2 x1 x2 x3).bind fun z2 => (some (z2.1, z2.2)))) else (if (f_X5_goes σ (1 : Int32) (1 : Int32) (1 : Int32)).1 = 0 then (some ((0 : Int32), (f_X5_goes σ (1 : Int32) (1 : Int32) (1 : Int32)).2)) else ((f_X5_why (f_X5_goes σ (1 : Int32) (1 : Int32) (1 : Int32)).2 x1 x2 x3).bind fun z2 => (some (z2.1, z2.2)))))))
set_option maxHeartbeats 400000 in
set_option maxRecDepth 100000 in
theorem k_X5_whyNot {q : Nat → Nat} {cA : Nat → ClassId} {D : va_G} (σ : Nat → Nat → Int32) (x1 x2 x3 : Int32) {z : Int32 × (Nat → Nat → Int32)} (hf : f_X5_whyNot σ x1 x2 x3 = some z) : CtU yX5_whyNot cX5_whyNot 4 (some .int) rm_X5_whyNot [.ref (q 0), .int x1, .int x2, .int x3] D cA (mW q cA σ) (mW q cA z.2) (some (.int z.1)) 0 0 := by
  refine ctU_of (by decide) (Nat.le_of_ble_eq_true rfl) ?_
  intro p l e s m below meth c ls C hr hnm h hl
  have C : Cx p s m _ meth c cX5_whyNot 4 RX5 D cA := C
  obtain ⟨hx, hb, hml, hown, hts, hK, hlk⟩ := id C
  replace hl : lv_has ls 4 [(0, .ref (q 0)), (1, .int x1), (2, .int x2), (3, .int x3)] := hl
  rw [f_X5_whyNot] at hf
  refine lv_aload_n (pc := 0) hx hb dX5_whyNot_0 rfl (lv_at hl 0 rfl) ?_
  refine lv_iload_n (pc := 1) hx hb dX5_whyNot_1 rfl (lv_at hl 1 rfl) ?_
  refine call_SR (pc := 2) (As := [.int x1]) (rest := [.ref (q 0)]) (wc := []) C h (k_X5_isPerson x1 rfl) cw_X5_127 [] rfl rfl rfl rfl hl.1 (Nat.le_of_ble_eq_true rfl) dX5_whyNot_2 ⟨Nat.le_of_ble_eq_true rfl, Nat.le_of_ble_eq_true rfl⟩ rfl rfl ⟨Nat.le_of_ble_eq_true rfl, Nat.le_of_ble_eq_true rfl⟩ (fun H locs h => ?_)
  refine W.eq (g2 := F0 m 5 ls [.int (f_X5_isPerson x1), .ref (q 0)]) rfl ?_
  refine lv_if_eq (pc := 5) (tgt := 21) hx hb dX5_whyNot_5 (by decide) (fun c9 => ?_) (fun c9 => ?_)
  · have hf := ifT c9 hf
    refine lv_iconst (pc := 21) (v := 0) hx hb dX5_whyNot_21 (by decide) ?_
    refine lv_iconst (pc := 22) (v := 1) hx hb dX5_whyNot_22 (by decide) ?_
    refine lv_iconst (pc := 23) (v := 1) hx hb dX5_whyNot_23 (by decide) ?_
    refine call_VUs (pc := 24) (As := [.int (0 : Int32), .int (1 : Int32), .int (1 : Int32)]) (rest := []) C h (k_X5_goes σ (0 : Int32) (1 : Int32) (1 : Int32) rfl) cw_X5_123 0 (mW_c0 _ _ _) rfl (mW_fst _ _ _ _) rfl rfl hl.1 (Nat.le_of_ble_eq_true rfl) dX5_whyNot_24 ⟨Nat.le_of_ble_eq_true rfl, Nat.le_of_ble_eq_true rfl⟩ rfl rfl ⟨Nat.le_of_ble_eq_true rfl, Nat.le_of_ble_eq_true rfl⟩ (fun H locs h => ?_)
    refine W.eq (g2 := F0 m 27 ls [.int (f_X5_goes σ (0 : Int32) (1 : Int32) (1 : Int32)).1]) rfl ?_
    refine lv_if_eq (pc := 27) (tgt := 40) hx hb dX5_whyNot_27 (by decide) (fun c9 => ?_) (fun c9 => ?_)
    · have hf := ifT c9 hf
      refine lv_iconst (pc := 40) (v := 0) hx hb dX5_whyNot_40 (by decide) ?_
      have hf : (some ((0 : Int32), (f_X5_goes σ (0 : Int32) (1 : Int32) (1 : Int32)).2)) = some z := hf
      cases hf
      exact ret_iU (pc := 41) C hr h dX5_whyNot_41
    · have hf := ifF c9 hf
      refine lv_aload_n (pc := 30) hx hb dX5_whyNot_30 rfl (lv_at hl 0 rfl) ?_
      refine lv_iload_n (pc := 31) hx hb dX5_whyNot_31 rfl (lv_at hl 1 rfl) ?_
      refine lv_iload_n (pc := 32) hx hb dX5_whyNot_32 rfl (lv_at hl 2 rfl) ?_
      refine lv_iload_n (pc := 33) hx hb dX5_whyNot_33 rfl (lv_at hl 3 rfl) ?_
      obtain ⟨z1, hc1, hf⟩ := bdS hf
      refine call_VUs (pc := 34) (As := [.int x1, .int x2, .int x3]) (rest := []) C h (k_X5_why (f_X5_goes σ (0 : Int32) (1 : Int32) (1 : Int32)).2 x1 x2 x3 hc1) cw_X5_150 0 (mW_c0 _ _ _) rfl (mW_fst _ _ _ _) rfl rfl hl.1 (Nat.le_of_ble_eq_true rfl) dX5_whyNot_34 ⟨Nat.le_of_ble_eq_true rfl, Nat.le_of_ble_eq_true rfl⟩ rfl rfl ⟨Nat.le_of_ble_eq_true rfl, Nat.le_of_ble_eq_true rfl⟩ (fun H locs h => ?_)
      refine W.eq (g2 := F0 m 37 ls [.int z1.1]) rfl ?_
      refine lv_goto (pc := 37) (tgt := 41) hx hb dX5_whyNot_37 (by decide) ?_
      have hf : (some (z1.1, z1.2)) = some z := hf
      cases hf
      exact ret_iU (pc := 41) C hr h dX5_whyNot_41
  · have hf := ifF c9 hf
    refine lv_aload_n (pc := 8) hx hb dX5_whyNot_8 rfl (lv_at hl 0 rfl) ?_
    refine lv_iload_n (pc := 9) hx hb dX5_whyNot_9 rfl (lv_at hl 2 rfl) ?_
    refine lv_iload_n (pc := 10) hx hb dX5_whyNot_10 rfl (lv_at hl 3 rfl) ?_
    obtain ⟨z1, hc1, hf⟩ := bdS hf
    refine call_VRs (pc := 11) (As := [.int x2, .int x3]) (rest := [.ref (q 0)]) C h (k_X5_isSlot σ x2 x3 hc1) cw_X5_147 0 (mW_c0 _ _ _) rfl rfl rfl hl.1 (Nat.le_of_ble_eq_true rfl) dX5_whyNot_11 ⟨Nat.le_of_ble_eq_true rfl, Nat.le_of_ble_eq_true rfl⟩ rfl rfl ⟨Nat.le_of_ble_eq_true rfl, Nat.le_of_ble_eq_true rfl⟩ (fun H locs h => ?_)
    refine W.eq (g2 := F0 m 14 ls [.int z1, .ref (q 0)]) rfl ?_
    refine lv_if_eq (pc := 14) (tgt := 21) hx hb dX5_whyNot_14 (by decide) (fun c9 => ?_) (fun c9 => ?_)
    · have hf := ifT c9 hf
      refine lv_iconst (pc := 21) (v := 0) hx hb dX5_whyNot_21 (by decide) ?_
      refine lv_iconst (pc := 22) (v := 1) hx hb dX5_whyNot_22 (by decide) ?_
      refine lv_iconst (pc := 23) (v := 1) hx hb dX5_whyNot_23 (by decide) ?_
      refine call_VUs (pc := 24) (As := [.int (0 : Int32), .int (1 : Int32), .int (1 : Int32)]) (rest := []) C h (k_X5_goes σ (0 : Int32) (1 : Int32) (1 : Int32) rfl) cw_X5_123 0 (mW_c0 _ _ _) rfl (mW_fst _ _ _ _) rfl rfl hl.1 (Nat.le_of_ble_eq_true rfl) dX5_whyNot_24 ⟨Nat.le_of_ble_eq_true rfl, Nat.le_of_ble_eq_true rfl⟩ rfl rfl ⟨Nat.le_of_ble_eq_true rfl, Nat.le_of_ble_eq_true rfl⟩ (fun H locs h => ?_)
      refine W.eq (g2 := F0 m 27 ls [.int (f_X5_goes σ (0 : Int32) (1 : Int32) (1 : Int32)).1]) rfl ?_
      refine lv_if_eq (pc := 27) (tgt := 40) hx hb dX5_whyNot_27 (by decide) (fun c9 => ?_) (fun c9 => ?_)
      · have hf := ifT c9 hf
        refine lv_iconst (pc := 40) (v := 0) hx hb dX5_whyNot_40 (by decide) ?_
        have hf : (some ((0 : Int32), (f_X5_goes σ (0 : Int32) (1 : Int32) (1 : Int32)).2)) = some z := hf
        cases hf
        exact ret_iU (pc := 41) C hr h dX5_whyNot_41
      · have hf := ifF c9 hf
        refine lv_aload_n (pc := 30) hx hb dX5_whyNot_30 rfl (lv_at hl 0 rfl) ?_
        refine lv_iload_n (pc := 31) hx hb dX5_whyNot_31 rfl (lv_at hl 1 rfl) ?_
        refine lv_iload_n (pc := 32) hx hb dX5_whyNot_32 rfl (lv_at hl 2 rfl) ?_
        refine lv_iload_n (pc := 33) hx hb dX5_whyNot_33 rfl (lv_at hl 3 rfl) ?_
        obtain ⟨z2, hc2, hf⟩ := bdS hf
        refine call_VUs (pc := 34) (As := [.int x1, .int x2, .int x3]) (rest := []) C h (k_X5_why (f_X5_goes σ (0 : Int32) (1 : Int32) (1 : Int32)).2 x1 x2 x3 hc2) cw_X5_150 0 (mW_c0 _ _ _) rfl (mW_fst _ _ _ _) rfl rfl hl.1 (Nat.le_of_ble_eq_true rfl) dX5_whyNot_34 ⟨Nat.le_of_ble_eq_true rfl, Nat.le_of_ble_eq_true rfl⟩ rfl rfl ⟨Nat.le_of_ble_eq_true rfl, Nat.le_of_ble_eq_true rfl⟩ (fun H locs h => ?_)
        refine W.eq (g2 := F0 m 37 ls [.int z2.1]) rfl ?_
        refine lv_goto (pc := 37) (tgt := 41) hx hb dX5_whyNot_37 (by decide) ?_
        have hf : (some (z2.1, z2.2)) = some z := hf
        cases hf
        exact ret_iU (pc := 41) C hr h dX5_whyNot_41
    · have hf := ifF c9 hf
      refine lv_iconst (pc := 17) (v := 1) hx hb dX5_whyNot_17 (by decide) ?_
      refine lv_goto (pc := 18) (tgt := 22) hx hb dX5_whyNot_18 (by decide) ?_
      refine lv_iconst (pc := 22) (v := 1) hx hb dX5_whyNot_22 (by decide) ?_
      refine lv_iconst (pc := 23) (v := 1) hx hb dX5_whyNot_23 (by decide) ?_
      refine call_VUs (pc := 24) (As := [.int (1 : Int32), .int (1 : Int32), .int (1 : Int32)]) (rest := []) C h (k_X5_goes σ (1 : Int32) (1 : Int32) (1 : Int32) rfl) cw_X5_123 0 (mW_c0 _ _ _) rfl (mW_fst _ _ _ _) rfl rfl hl.1 (Nat.le_of_ble_eq_true rfl) dX5_whyNot_24 ⟨Nat.le_of_ble_eq_true rfl, Nat.le_of_ble_eq_true rfl⟩ rfl rfl ⟨Nat.le_of_ble_eq_true rfl, Nat.le_of_ble_eq_true rfl⟩ (fun H locs h => ?_)
      refine W.eq (g2 := F0 m 27 ls [.int (f_X5_goes σ (1 : Int32) (1 : Int32) (1 : Int32)).1]) rfl ?_
      refine lv_if_eq (pc := 27) (tgt := 40) hx hb dX5_whyNot_27 (by decide) (fun c9 => ?_) (fun c9 => ?_)
      · have hf := ifT c9 hf
        refine lv_iconst (pc := 40) (v := 0) hx hb dX5_whyNot_40 (by decide) ?_
        have hf : (some ((0 : Int32), (f_X5_goes σ (1 : Int32) (1 : Int32) (1 : Int32)).2)) = some z := hf
        cases hf
        exact ret_iU (pc := 41) C hr h dX5_whyNot_41
      · have hf := ifF c9 hf
        refine lv_aload_n (pc := 30) hx hb dX5_whyNot_30 rfl (lv_at hl 0 rfl) ?_
        refine lv_iload_n (pc := 31) hx hb dX5_whyNot_31 rfl (lv_at hl 1 rfl) ?_
        refine lv_iload_n (pc := 32) hx hb dX5_whyNot_32 rfl (lv_at hl 2 rfl) ?_
        refine lv_iload_n (pc := 33) hx hb dX5_whyNot_33 rfl (lv_at hl 3 rfl) ?_
        obtain ⟨z2, hc2, hf⟩ := bdS hf
        refine call_VUs (pc := 34) (As := [.int x1, .int x2, .int x3]) (rest := []) C h (k_X5_why (f_X5_goes σ (1 : Int32) (1 : Int32) (1 : Int32)).2 x1 x2 x3 hc2) cw_X5_150 0 (mW_c0 _ _ _) rfl (mW_fst _ _ _ _) rfl rfl hl.1 (Nat.le_of_ble_eq_true rfl) dX5_whyNot_34 ⟨Nat.le_of_ble_eq_true rfl, Nat.le_of_ble_eq_true rfl⟩ rfl rfl ⟨Nat.le_of_ble_eq_true rfl, Nat.le_of_ble_eq_true rfl⟩ (fun H locs h => ?_)
        refine W.eq (g2 := F0 m 37 ls [.int z2.1]) rfl ?_
        refine lv_goto (pc := 37) (tgt := 41) hx hb dX5_whyNot_37 (by decide) ?_
        have hf : (some (z2.1, z2.2)) = some z := hf
        cases hf
        exact ret_iU (pc := 41) C hr h dX5_whyNot_41
abbrev rm_X5_decline : Room := { frames := 5, cells := 0, slots := 0, locals := 113 }
def f_X5_decline (σ : Nat → Nat → Int32) (x1 x2 x3 : Int32) : Option (Int32 × (Nat → Nat → Int32)) := (if (f_X5_isPerson x1) = 0 then (if (f_X5_goes σ (0 : Int32) (0 : Int32) (1 : Int32)).1 = 0 then (some ((0 : Int32), (f_X5_goes σ (0 : Int32) (0 : Int32) (1 : Int32)).2)) else ((f_X5_closes (f_X5_goes σ (0 : Int32) (0 : Int32) (1 : Int32)).2 x2 (3 : Int32) x1 x3).bind fun z1 => (some (z1.1, z1.2)))) else ((f_X5_isSlot σ x2 x3).bind fun z1 => (if z1 = 0 then (if (f_X5_goes σ (0 : Int32) (0 : Int32) (1 : Int32)).1 = 0 then (some ((0 : Int32), (f_X5_goes σ (0 : Int32) (0 : Int32) (1 : Int32)).2)) else ((f_X5_closes (f_X5_goes σ (0 : Int32) (0 : Int32) (1 : Int32)).2 x2 (3 : Int32) x1 x3).bind fun z2 => (some (z2.1, z2.2)))) else ((f_X5_why σ x1 x2 x3).bind fun z2 => (if z2.1 = 0 then (if (f_X5_goes z2.2 (1 : Int32) (1 : Int32) (1 : Int32)).1 = 0 then (some ((0 : Int32), (f_X5_goes z2.2 (1 : Int32) (1 : Int32) (1 : Int32)).2)) else ((f_X5_closes (f_X5_goes z2.2 (1 : Int32) (1 : Int32) (1 : Int32)).2 x2 (3 : Int32) x1 x3).bind fun z3 => (some (z3.1, z3.2)))) else (if (f_X5_goes z2.2 (1 : Int32) (0 : Int32) (1 : Int32)).1 = 0 then (some ((0 : Int32), (f_X5_goes z2.2 (1 : Int32) (0 : Int32) (1 : Int32)).2)) else ((f_X5_closes (f_X5_goes z2.2 (1 : Int32) (0 : Int32) (1 : Int32)).2 x2 (3 : Int32) x1 x3).bind fun z3 => (some (z3.1, z3.2)))))))))
set_option maxHeartbeats 400000 in
set_option maxRecDepth 100000 in
theorem k_X5_decline {q : Nat → Nat} {cA : Nat → ClassId} {D : va_G} (σ : Nat → Nat → Int32) (x1 x2 x3 : Int32) {z : Int32 × (Nat → Nat → Int32)} (hf : f_X5_decline σ x1 x2 x3 = some z) : CtU yX5_decline cX5_decline 5 (some .int) rm_X5_decline [.ref (q 0), .int x1, .int x2, .int x3] D cA (mW q cA σ) (mW q cA z.2) (some (.int z.1)) 0 0 := by
  refine ctU_of (by decide) (Nat.le_of_ble_eq_true rfl) ?_
  intro p l e s m below meth c ls C hr hnm h hl
  have C : Cx p s m _ meth c cX5_decline 5 RX5 D cA := C
  obtain ⟨hx, hb, hml, hown, hts, hK, hlk⟩ := id C
  replace hl : lv_has ls 5 [(0, .ref (q 0)), (1, .int x1), (2, .int x2), (3, .int x3)] := hl
  rw [f_X5_decline] at hf
  refine lv_iload_n (pc := 0) hx hb dX5_decline_0 rfl (lv_at hl 1 rfl) ?_
  refine call_SR (pc := 1) (As := [.int x1]) (rest := []) (wc := []) C h (k_X5_isPerson x1 rfl) cw_X5_127 [] rfl rfl rfl rfl hl.1 (Nat.le_of_ble_eq_true rfl) dX5_decline_1 ⟨Nat.le_of_ble_eq_true rfl, Nat.le_of_ble_eq_true rfl⟩ rfl rfl ⟨Nat.le_of_ble_eq_true rfl, Nat.le_of_ble_eq_true rfl⟩ (fun H locs h => ?_)
  refine W.eq (g2 := F0 m 4 ls [.int (f_X5_isPerson x1)]) rfl ?_
  refine lv_if_eq (pc := 4) (tgt := 20) hx hb dX5_decline_4 (by decide) (fun c9 => ?_) (fun c9 => ?_)
  · have hf := ifT c9 hf
    refine lv_iconst (pc := 20) (v := 0) hx hb dX5_decline_20 (by decide) ?_
    refine lv_istore (pc := 21) (lv' := [(4, .int (0 : Int32)), (0, .ref (q 0)), (1, .int x1), (2, .int x2), (3, .int x3)]) hx hb dX5_decline_21 hl (by decide) rfl (fun ls hl => ?_)
    refine lv_aload_n (pc := 23) hx hb dX5_decline_23 rfl (lv_at hl 1 rfl) ?_
    refine lv_iload (pc := 24) hx hb dX5_decline_24 (lv_at hl 0 rfl) ?_
    refine lv_iload (pc := 26) hx hb dX5_decline_26 (lv_at hl 0 rfl) ?_
    refine lv_if_eq (pc := 28) (tgt := 45) hx hb dX5_decline_28 (by decide) (fun _ => ?_) (fun c9 => absurd c9 (by decide))
    refine lv_iconst (pc := 45) (v := 0) hx hb dX5_decline_45 (by decide) ?_
    refine lv_iconst (pc := 46) (v := 1) hx hb dX5_decline_46 (by decide) ?_
    refine call_VUs (pc := 47) (As := [.int (0 : Int32), .int (0 : Int32), .int (1 : Int32)]) (rest := []) C h (k_X5_goes σ (0 : Int32) (0 : Int32) (1 : Int32) rfl) cw_X5_123 0 (mW_c0 _ _ _) rfl (mW_fst _ _ _ _) rfl rfl hl.1 (Nat.le_of_ble_eq_true rfl) dX5_decline_47 ⟨Nat.le_of_ble_eq_true rfl, Nat.le_of_ble_eq_true rfl⟩ rfl rfl ⟨Nat.le_of_ble_eq_true rfl, Nat.le_of_ble_eq_true rfl⟩ (fun H locs h => ?_)
    refine W.eq (g2 := F0 m 50 ls [.int (f_X5_goes σ (0 : Int32) (0 : Int32) (1 : Int32)).1]) rfl ?_
    refine lv_if_ne (pc := 50) (tgt := 55) hx hb dX5_decline_50 (by decide) (fun c9 => ?_) (fun c9 => ?_)
    · have hf := ifF c9 hf
      refine lv_aload_n (pc := 55) hx hb dX5_decline_55 rfl (lv_at hl 1 rfl) ?_
      refine lv_iload_n (pc := 56) hx hb dX5_decline_56 rfl (lv_at hl 3 rfl) ?_
      refine lv_iconst (pc := 57) (v := 3) hx hb dX5_decline_57 (by decide) ?_
      refine lv_iload_n (pc := 58) hx hb dX5_decline_58 rfl (lv_at hl 2 rfl) ?_
      refine lv_iload_n (pc := 59) hx hb dX5_decline_59 rfl (lv_at hl 4 rfl) ?_
      obtain ⟨z1, hc1, hf⟩ := bdS hf
      refine call_VUs (pc := 60) (As := [.int x2, .int (3 : Int32), .int x1, .int x3]) (rest := []) C h (k_X5_closes (f_X5_goes σ (0 : Int32) (0 : Int32) (1 : Int32)).2 x2 (3 : Int32) x1 x3 hc1) cw_X5_153 0 (mW_c0 _ _ _) rfl (mW_fst _ _ _ _) rfl rfl hl.1 (Nat.le_of_ble_eq_true rfl) dX5_decline_60 ⟨Nat.le_of_ble_eq_true rfl, Nat.le_of_ble_eq_true rfl⟩ rfl rfl ⟨Nat.le_of_ble_eq_true rfl, Nat.le_of_ble_eq_true rfl⟩ (fun H locs h => ?_)
      refine W.eq (g2 := F0 m 63 ls [.int z1.1]) rfl ?_
      have hf : (some (z1.1, z1.2)) = some z := hf
      cases hf
      exact ret_iU (pc := 63) C hr h dX5_decline_63
    · have hf := ifT c9 hf
      refine lv_iconst (pc := 53) (v := 0) hx hb dX5_decline_53 (by decide) ?_
      have hf : (some ((0 : Int32), (f_X5_goes σ (0 : Int32) (0 : Int32) (1 : Int32)).2)) = some z := hf
      cases hf
      exact ret_iU (pc := 54) C hr h dX5_decline_54
  · have hf := ifF c9 hf
    refine lv_aload_n (pc := 7) hx hb dX5_decline_7 rfl (lv_at hl 0 rfl) ?_
    refine lv_iload_n (pc := 8) hx hb dX5_decline_8 rfl (lv_at hl 2 rfl) ?_
    refine lv_iload_n (pc := 9) hx hb dX5_decline_9 rfl (lv_at hl 3 rfl) ?_
    obtain ⟨z1, hc1, hf⟩ := bdS hf
    refine call_VRs (pc := 10) (As := [.int x2, .int x3]) (rest := []) C h (k_X5_isSlot σ x2 x3 hc1) cw_X5_147 0 (mW_c0 _ _ _) rfl rfl rfl hl.1 (Nat.le_of_ble_eq_true rfl) dX5_decline_10 ⟨Nat.le_of_ble_eq_true rfl, Nat.le_of_ble_eq_true rfl⟩ rfl rfl ⟨Nat.le_of_ble_eq_true rfl, Nat.le_of_ble_eq_true rfl⟩ (fun H locs h => ?_)
    refine W.eq (g2 := F0 m 13 ls [.int z1]) rfl ?_
    refine lv_if_eq (pc := 13) (tgt := 20) hx hb dX5_decline_13 (by decide) (fun c9 => ?_) (fun c9 => ?_)
    · have hf := ifT c9 hf
      refine lv_iconst (pc := 20) (v := 0) hx hb dX5_decline_20 (by decide) ?_
      refine lv_istore (pc := 21) (lv' := [(4, .int (0 : Int32)), (0, .ref (q 0)), (1, .int x1), (2, .int x2), (3, .int x3)]) hx hb dX5_decline_21 hl (by decide) rfl (fun ls hl => ?_)
      refine lv_aload_n (pc := 23) hx hb dX5_decline_23 rfl (lv_at hl 1 rfl) ?_
      refine lv_iload (pc := 24) hx hb dX5_decline_24 (lv_at hl 0 rfl) ?_
      refine lv_iload (pc := 26) hx hb dX5_decline_26 (lv_at hl 0 rfl) ?_
      refine lv_if_eq (pc := 28) (tgt := 45) hx hb dX5_decline_28 (by decide) (fun _ => ?_) (fun c9 => absurd c9 (by decide))
      refine lv_iconst (pc := 45) (v := 0) hx hb dX5_decline_45 (by decide) ?_
      refine lv_iconst (pc := 46) (v := 1) hx hb dX5_decline_46 (by decide) ?_
      refine call_VUs (pc := 47) (As := [.int (0 : Int32), .int (0 : Int32), .int (1 : Int32)]) (rest := []) C h (k_X5_goes σ (0 : Int32) (0 : Int32) (1 : Int32) rfl) cw_X5_123 0 (mW_c0 _ _ _) rfl (mW_fst _ _ _ _) rfl rfl hl.1 (Nat.le_of_ble_eq_true rfl) dX5_decline_47 ⟨Nat.le_of_ble_eq_true rfl, Nat.le_of_ble_eq_true rfl⟩ rfl rfl ⟨Nat.le_of_ble_eq_true rfl, Nat.le_of_ble_eq_true rfl⟩ (fun H locs h => ?_)
      refine W.eq (g2 := F0 m 50 ls [.int (f_X5_goes σ (0 : Int32) (0 : Int32) (1 : Int32)).1]) rfl ?_
      refine lv_if_ne (pc := 50) (tgt := 55) hx hb dX5_decline_50 (by decide) (fun c9 => ?_) (fun c9 => ?_)
      · have hf := ifF c9 hf
        refine lv_aload_n (pc := 55) hx hb dX5_decline_55 rfl (lv_at hl 1 rfl) ?_
        refine lv_iload_n (pc := 56) hx hb dX5_decline_56 rfl (lv_at hl 3 rfl) ?_
        refine lv_iconst (pc := 57) (v := 3) hx hb dX5_decline_57 (by decide) ?_
        refine lv_iload_n (pc := 58) hx hb dX5_decline_58 rfl (lv_at hl 2 rfl) ?_
        refine lv_iload_n (pc := 59) hx hb dX5_decline_59 rfl (lv_at hl 4 rfl) ?_
        obtain ⟨z2, hc2, hf⟩ := bdS hf
        refine call_VUs (pc := 60) (As := [.int x2, .int (3 : Int32), .int x1, .int x3]) (rest := []) C h (k_X5_closes (f_X5_goes σ (0 : Int32) (0 : Int32) (1 : Int32)).2 x2 (3 : Int32) x1 x3 hc2) cw_X5_153 0 (mW_c0 _ _ _) rfl (mW_fst _ _ _ _) rfl rfl hl.1 (Nat.le_of_ble_eq_true rfl) dX5_decline_60 ⟨Nat.le_of_ble_eq_true rfl, Nat.le_of_ble_eq_true rfl⟩ rfl rfl ⟨Nat.le_of_ble_eq_true rfl, Nat.le_of_ble_eq_true rfl⟩ (fun H locs h => ?_)
        refine W.eq (g2 := F0 m 63 ls [.int z2.1]) rfl ?_
        have hf : (some (z2.1, z2.2)) = some z := hf
        cases hf
        exact ret_iU (pc := 63) C hr h dX5_decline_63
      · have hf := ifT c9 hf
        refine lv_iconst (pc := 53) (v := 0) hx hb dX5_decline_53 (by decide) ?_
        have hf : (some ((0 : Int32), (f_X5_goes σ (0 : Int32) (0 : Int32) (1 : Int32)).2)) = some z := hf
        cases hf
        exact ret_iU (pc := 54) C hr h dX5_decline_54
    · have hf := ifF c9 hf
      refine lv_iconst (pc := 16) (v := 1) hx hb dX5_decline_16 (by decide) ?_
      refine lv_goto (pc := 17) (tgt := 21) hx hb dX5_decline_17 (by decide) ?_
      refine lv_istore (pc := 21) (lv' := [(4, .int (1 : Int32)), (0, .ref (q 0)), (1, .int x1), (2, .int x2), (3, .int x3)]) hx hb dX5_decline_21 hl (by decide) rfl (fun ls hl => ?_)
      refine lv_aload_n (pc := 23) hx hb dX5_decline_23 rfl (lv_at hl 1 rfl) ?_
      refine lv_iload (pc := 24) hx hb dX5_decline_24 (lv_at hl 0 rfl) ?_
      refine lv_iload (pc := 26) hx hb dX5_decline_26 (lv_at hl 0 rfl) ?_
      refine lv_if_eq (pc := 28) (tgt := 45) hx hb dX5_decline_28 (by decide) (fun c9 => absurd c9 (by decide)) (fun _ => ?_)
      refine lv_aload_n (pc := 31) hx hb dX5_decline_31 rfl (lv_at hl 1 rfl) ?_
      refine lv_iload_n (pc := 32) hx hb dX5_decline_32 rfl (lv_at hl 2 rfl) ?_
      refine lv_iload_n (pc := 33) hx hb dX5_decline_33 rfl (lv_at hl 3 rfl) ?_
      refine lv_iload_n (pc := 34) hx hb dX5_decline_34 rfl (lv_at hl 4 rfl) ?_
      obtain ⟨z2, hc2, hf⟩ := bdS hf
      refine call_VUs (pc := 35) (As := [.int x1, .int x2, .int x3]) (rest := [.int (1 : Int32), .ref (q 0)]) C h (k_X5_why σ x1 x2 x3 hc2) cw_X5_150 0 (mW_c0 _ _ _) rfl (mW_fst _ _ _ _) rfl rfl hl.1 (Nat.le_of_ble_eq_true rfl) dX5_decline_35 ⟨Nat.le_of_ble_eq_true rfl, Nat.le_of_ble_eq_true rfl⟩ rfl rfl ⟨Nat.le_of_ble_eq_true rfl, Nat.le_of_ble_eq_true rfl⟩ (fun H locs h => ?_)
      refine W.eq (g2 := F0 m 38 ls [.int z2.1, .int (1 : Int32), .ref (q 0)]) rfl ?_
      refine lv_if_ne (pc := 38) (tgt := 45) hx hb dX5_decline_38 (by decide) (fun c9 => ?_) (fun c9 => ?_)
      · have hf := ifF c9 hf
        refine lv_iconst (pc := 45) (v := 0) hx hb dX5_decline_45 (by decide) ?_
        refine lv_iconst (pc := 46) (v := 1) hx hb dX5_decline_46 (by decide) ?_
        refine call_VUs (pc := 47) (As := [.int (1 : Int32), .int (0 : Int32), .int (1 : Int32)]) (rest := []) C h (k_X5_goes z2.2 (1 : Int32) (0 : Int32) (1 : Int32) rfl) cw_X5_123 0 (mW_c0 _ _ _) rfl (mW_fst _ _ _ _) rfl rfl hl.1 (Nat.le_of_ble_eq_true rfl) dX5_decline_47 ⟨Nat.le_of_ble_eq_true rfl, Nat.le_of_ble_eq_true rfl⟩ rfl rfl ⟨Nat.le_of_ble_eq_true rfl, Nat.le_of_ble_eq_true rfl⟩ (fun H locs h => ?_)
        refine W.eq (g2 := F0 m 50 ls [.int (f_X5_goes z2.2 (1 : Int32) (0 : Int32) (1 : Int32)).1]) rfl ?_
        refine lv_if_ne (pc := 50) (tgt := 55) hx hb dX5_decline_50 (by decide) (fun c9 => ?_) (fun c9 => ?_)
        · have hf := ifF c9 hf
          refine lv_aload_n (pc := 55) hx hb dX5_decline_55 rfl (lv_at hl 1 rfl) ?_
          refine lv_iload_n (pc := 56) hx hb dX5_decline_56 rfl (lv_at hl 3 rfl) ?_
          refine lv_iconst (pc := 57) (v := 3) hx hb dX5_decline_57 (by decide) ?_
          refine lv_iload_n (pc := 58) hx hb dX5_decline_58 rfl (lv_at hl 2 rfl) ?_
          refine lv_iload_n (pc := 59) hx hb dX5_decline_59 rfl (lv_at hl 4 rfl) ?_
          obtain ⟨z3, hc3, hf⟩ := bdS hf
          refine call_VUs (pc := 60) (As := [.int x2, .int (3 : Int32), .int x1, .int x3]) (rest := []) C h (k_X5_closes (f_X5_goes z2.2 (1 : Int32) (0 : Int32) (1 : Int32)).2 x2 (3 : Int32) x1 x3 hc3) cw_X5_153 0 (mW_c0 _ _ _) rfl (mW_fst _ _ _ _) rfl rfl hl.1 (Nat.le_of_ble_eq_true rfl) dX5_decline_60 ⟨Nat.le_of_ble_eq_true rfl, Nat.le_of_ble_eq_true rfl⟩ rfl rfl ⟨Nat.le_of_ble_eq_true rfl, Nat.le_of_ble_eq_true rfl⟩ (fun H locs h => ?_)
          refine W.eq (g2 := F0 m 63 ls [.int z3.1]) rfl ?_
          have hf : (some (z3.1, z3.2)) = some z := hf
          cases hf
          exact ret_iU (pc := 63) C hr h dX5_decline_63
        · have hf := ifT c9 hf
          refine lv_iconst (pc := 53) (v := 0) hx hb dX5_decline_53 (by decide) ?_
          have hf : (some ((0 : Int32), (f_X5_goes z2.2 (1 : Int32) (0 : Int32) (1 : Int32)).2)) = some z := hf
          cases hf
          exact ret_iU (pc := 54) C hr h dX5_decline_54
      · have hf := ifT c9 hf
        refine lv_iconst (pc := 41) (v := 1) hx hb dX5_decline_41 (by decide) ?_
        refine lv_goto (pc := 42) (tgt := 46) hx hb dX5_decline_42 (by decide) ?_
        refine lv_iconst (pc := 46) (v := 1) hx hb dX5_decline_46 (by decide) ?_
        refine call_VUs (pc := 47) (As := [.int (1 : Int32), .int (1 : Int32), .int (1 : Int32)]) (rest := []) C h (k_X5_goes z2.2 (1 : Int32) (1 : Int32) (1 : Int32) rfl) cw_X5_123 0 (mW_c0 _ _ _) rfl (mW_fst _ _ _ _) rfl rfl hl.1 (Nat.le_of_ble_eq_true rfl) dX5_decline_47 ⟨Nat.le_of_ble_eq_true rfl, Nat.le_of_ble_eq_true rfl⟩ rfl rfl ⟨Nat.le_of_ble_eq_true rfl, Nat.le_of_ble_eq_true rfl⟩ (fun H locs h => ?_)
        refine W.eq (g2 := F0 m 50 ls [.int (f_X5_goes z2.2 (1 : Int32) (1 : Int32) (1 : Int32)).1]) rfl ?_
        refine lv_if_ne (pc := 50) (tgt := 55) hx hb dX5_decline_50 (by decide) (fun c9 => ?_) (fun c9 => ?_)
        · have hf := ifF c9 hf
          refine lv_aload_n (pc := 55) hx hb dX5_decline_55 rfl (lv_at hl 1 rfl) ?_
          refine lv_iload_n (pc := 56) hx hb dX5_decline_56 rfl (lv_at hl 3 rfl) ?_
          refine lv_iconst (pc := 57) (v := 3) hx hb dX5_decline_57 (by decide) ?_
          refine lv_iload_n (pc := 58) hx hb dX5_decline_58 rfl (lv_at hl 2 rfl) ?_
          refine lv_iload_n (pc := 59) hx hb dX5_decline_59 rfl (lv_at hl 4 rfl) ?_
          obtain ⟨z3, hc3, hf⟩ := bdS hf
          refine call_VUs (pc := 60) (As := [.int x2, .int (3 : Int32), .int x1, .int x3]) (rest := []) C h (k_X5_closes (f_X5_goes z2.2 (1 : Int32) (1 : Int32) (1 : Int32)).2 x2 (3 : Int32) x1 x3 hc3) cw_X5_153 0 (mW_c0 _ _ _) rfl (mW_fst _ _ _ _) rfl rfl hl.1 (Nat.le_of_ble_eq_true rfl) dX5_decline_60 ⟨Nat.le_of_ble_eq_true rfl, Nat.le_of_ble_eq_true rfl⟩ rfl rfl ⟨Nat.le_of_ble_eq_true rfl, Nat.le_of_ble_eq_true rfl⟩ (fun H locs h => ?_)
          refine W.eq (g2 := F0 m 63 ls [.int z3.1]) rfl ?_
          have hf : (some (z3.1, z3.2)) = some z := hf
          cases hf
          exact ret_iU (pc := 63) C hr h dX5_decline_63
        · have hf := ifT c9 hf
          refine lv_iconst (pc := 53) (v := 0) hx hb dX5_decline_53 (by decide) ?_
          have hf : (some ((0 : Int32), (f_X5_goes z2.2 (1 : Int32) (1 : Int32) (1 : Int32)).2)) = some z := hf
          cases hf
          exact ret_iU (pc := 54) C hr h dX5_decline_54
end
