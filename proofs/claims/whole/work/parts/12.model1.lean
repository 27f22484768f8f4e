section
variable {p : Program} {l : Launch} {e : Env} {R : Room} {s : State} {m : MethodId} {args : Array Value} {below : List Frame} {meth : Method} {c : Code} {Q : State → Prop}
variable {D : va_G} {cA : Nat → ClassId} {A : Nat → Prop} {q : Nat → Nat}
abbrev rm_X5_opens : Room := { frames := 1, cells := 0, slots := 0, locals := 21 }
def f_X5_opens_2 : Nat → (Nat → Nat → Int32) → Int32 → Int32 → Int32 → Option ((Nat → Nat → Int32) × Int32)
  | 0, _, _, _, _ => none
  | n + 1, σ, x1, x2, x3 => (if inb x1 6 then (if ((σ 2) x1.toNatClampNeg) ≤ x3 then some (σ, x3) else (if (f_X5_has (σ 20 0) x3) = 0 then (if inb (((8 : Int32) * x1) + x3) 48 then (if (((σ 7) (((8 : Int32) * x1) + x3).toNatClampNeg) &&& ((σ 19 0) ^^^ (-1 : Int32))) = 0 then (if inb x3 8 then (lt (va_up σ 21 (upd (σ 21) x3.toNatClampNeg x2)) fun t1 => (lt (va_up t1 20 (fun _ => ((t1 20 0) ||| ((1 : Int32) <<< (x3 &&& 31))))) fun t2 => (f_X5_opens_2 n t2 x1 x2 (x3 + (1 : Int32))))) else none) else (if inb x3 8 then (if inb x3 8 then (lt (va_up σ 21 (upd (σ 21) x3.toNatClampNeg ((σ 21) x3.toNatClampNeg))) fun t1 => (lt (va_up t1 20 (fun _ => ((t1 20 0) ||| (0 : Int32)))) fun t2 => (f_X5_opens_2 n t2 x1 x2 (x3 + (1 : Int32))))) else none) else none)) else none) else (if inb x3 8 then (if inb x3 8 then (lt (va_up σ 21 (upd (σ 21) x3.toNatClampNeg ((σ 21) x3.toNatClampNeg))) fun t1 => (lt (va_up t1 20 (fun _ => ((t1 20 0) ||| (0 : Int32)))) fun t2 => (f_X5_opens_2 n t2 x1 x2 (x3 + (1 : Int32))))) else none) else none))) else none)
def f_X5_opens (σ : Nat → Nat → Int32) (x1 x2 : Int32) : Option ((Nat → Nat → Int32)) := ((f_X5_opens_2 FU σ x1 x2 (0 : Int32)).bind fun z1 => (some z1.1))
set_option maxHeartbeats 400000 in
set_option maxRecDepth 100000 in
theorem l_X5_opens_2 (C : Cx p s m args meth c cX5_opens 5 RX5 D cA) : ∀ (n : Nat) (σ : Nat → Nat → Int32) (x1 x2 x3 : Int32) (z : (Nat → Nat → Int32) × Int32), f_X5_opens_2 n σ x1 x2 x3 = some z → ∀ (H : Heap) (locs : List Loc) (ls : Array Slot), St D A s.heap (mW q cA σ) H locs → lv_has ls 5 [(0, .ref (q 0)), (1, .int x1), (2, .int x2), (3, .int x3)] → (∀ (H : Heap) (locs : List Loc) (ls : Array Slot), St D A s.heap (mW q cA z.1) H locs → lv_has ls 5 [(0, .ref (q 0)), (1, .int x1), (2, .int x2), (3, .int z.2)] → W p l e rm_X5_opens s m args below meth c H locs 0 0 Q (F0 m 99 ls [])) → W p l e rm_X5_opens s m args below meth c H locs 0 0 Q (F0 m 2 ls []) := by
  obtain ⟨hx, hb, hml, hown, hts, hK, hlk⟩ := id C
  intro n
  induction n with
  | zero => intro σ x1 x2 x3 z hf; rw [f_X5_opens_2] at hf; cases hf
  | succ n ih =>
    intro σ x1 x2 x3 z hf H locs ls h hl kk
    rw [f_X5_opens_2] at hf
    refine lv_iload_n (pc := 2) hx hb dX5_opens_2 rfl (lv_at hl 3 rfl) ?_
    refine lv_aload_n (pc := 3) hx hb dX5_opens_3 rfl (lv_at hl 0 rfl) ?_
    refine g_get (pc := 4) (v := .ref (q 1)) C h.1 0 (mW_c0 _ _ _) fl_X5_7 rfl dX5_opens_4 ?_
    refine lv_iload_n (pc := 7) hx hb dX5_opens_7 rfl (lv_at hl 1 rfl) ?_
    obtain ⟨hin, hf⟩ := ifS hf
    refine g_ild (pc := 8) (n := 6) (f := (σ 2)) C h.1 1 (mW_c1 _ _ _) hin dX5_opens_8 ?_
    refine lv_icmp_ge (pc := 9) (tgt := 99) hx hb dX5_opens_9 (by decide) (fun c9 => ?_) (fun c9 => ?_)
    · have hf := ifT c9 hf
      have hf : some (σ, x3) = some z := hf
      cases hf
      exact kk _ _ _ h (lv_sub hl [0, 1, 2, 3] rfl)
    · have hf := ifF c9 hf
      refine lv_aload_n (pc := 12) hx hb dX5_opens_12 rfl (lv_at hl 0 rfl) ?_
      refine g_get (pc := 13) (v := .int (σ 20 0)) C h.1 0 (mW_c0 _ _ _) fl_X5_82 rfl dX5_opens_13 ?_
      refine lv_iload_n (pc := 16) hx hb dX5_opens_16 rfl (lv_at hl 3 rfl) ?_
      refine call_SR (pc := 17) (As := [.int (σ 20 0), .int x3]) (rest := []) (wc := []) C h (k_X5_has (σ 20 0) x3 rfl) cw_X5_85 [] rfl rfl rfl rfl hl.1 (Nat.le_of_ble_eq_true rfl) dX5_opens_17 ⟨Nat.le_of_ble_eq_true rfl, Nat.le_of_ble_eq_true rfl⟩ rfl rfl ⟨Nat.le_of_ble_eq_true rfl, Nat.le_of_ble_eq_true rfl⟩ (fun H locs h => ?_)
      refine W.eq (g2 := F0 m 20 ls [.int (f_X5_has (σ 20 0) x3)]) rfl ?_
      refine lv_if_ne (pc := 20) (tgt := 48) hx hb dX5_opens_20 (by decide) (fun c9 => ?_) (fun c9 => ?_)
      · have hf := ifF c9 hf
        refine lv_iconst (pc := 48) (v := 0) hx hb dX5_opens_48 (by decide) ?_
        refine lv_istore (pc := 49) (lv' := [(4, .int (0 : Int32)), (0, .ref (q 0)), (1, .int x1), (2, .int x2), (3, .int x3)]) hx hb dX5_opens_49 hl (by decide) rfl (fun ls hl => ?_)
        refine lv_aload_n (pc := 51) hx hb dX5_opens_51 rfl (lv_at hl 1 rfl) ?_
        refine g_get (pc := 52) (v := .ref (q 17)) C h.1 0 (mW_c0 _ _ _) fl_X5_58 rfl dX5_opens_52 ?_
        refine lv_iload_n (pc := 55) hx hb dX5_opens_55 rfl (lv_at hl 4 rfl) ?_
        refine lv_iload (pc := 56) hx hb dX5_opens_56 (lv_at hl 0 rfl) ?_
        refine lv_if_eq (pc := 58) (tgt := 65) hx hb dX5_opens_58 (by decide) (fun _ => ?_) (fun c9 => absurd c9 (by decide))
        refine lv_aload_n (pc := 65) hx hb dX5_opens_65 rfl (lv_at hl 1 rfl) ?_
        refine g_get (pc := 66) (v := .ref (q 17)) C h.1 0 (mW_c0 _ _ _) fl_X5_58 rfl dX5_opens_66 ?_
        refine lv_iload_n (pc := 69) hx hb dX5_opens_69 rfl (lv_at hl 4 rfl) ?_
        obtain ⟨hin, hf⟩ := ifS hf
        refine g_ild (pc := 70) (n := 8) (f := (σ 21)) C h.1 17 (mW_c17 _ _ _) hin dX5_opens_70 ?_
        obtain ⟨hin, hf⟩ := ifS hf
        obtain ⟨t1, et1, hf⟩ := ltS hf
        refine g_ist (pc := 71) (n := 8) (f := (σ 21)) (ws' := (mW q cA t1)) C h 17 (mW_c17 _ _ _) hin ((mW_w17 _ _ _ _).trans (congrArg (mW q cA) et1.symm)) dX5_opens_71 (fun H locs h => ?_)
        refine lv_aload_n (pc := 72) hx hb dX5_opens_72 rfl (lv_at hl 1 rfl) ?_
        refine lv_dup (pc := 73) hx hb dX5_opens_73 rfl ?_
        refine g_get (pc := 74) (v := .int (t1 20 0)) C h.1 0 (mW_c0 _ _ _) fl_X5_82 rfl dX5_opens_74 ?_
        refine lv_iload (pc := 77) hx hb dX5_opens_77 (lv_at hl 0 rfl) ?_
        refine lv_if_eq (pc := 79) (tgt := 88) hx hb dX5_opens_79 (by decide) (fun _ => ?_) (fun c9 => absurd c9 (by decide))
        refine lv_iconst (pc := 88) (v := 0) hx hb dX5_opens_88 (by decide) ?_
        refine lv_ior (pc := 89) hx hb dX5_opens_89 ?_
        obtain ⟨t2, et2, hf⟩ := ltS hf
        refine g_puti (pc := 90) (v := ((t1 20 0) ||| (0 : Int32))) (ws' := (mW q cA t2)) C h 0 (mW_c0 _ _ _) fp_X5_82 (Nat.le_of_ble_eq_true rfl) ((mW_w0_20 _ _ _ _).trans (congrArg (mW q cA) et2.symm)) dX5_opens_90 (fun H locs h => ?_)
        refine lv_iinc (pc := 93) (v := (x3 + (1 : Int32))) (lv' := [(3, .int (x3 + (1 : Int32))), (4, .int (0 : Int32)), (0, .ref (q 0)), (1, .int x1), (2, .int x2)]) hx hb dX5_opens_93 hl (k := 4) rfl rfl (by decide) rfl (fun ls hl => ?_)
        refine lv_goto (pc := 96) (tgt := 2) hx hb dX5_opens_96 (by decide) ?_
        exact ih _ _ _ _ _ hf _ _ _ h (lv_sub hl [2, 3, 4, 0] rfl) kk
      · have hf := ifT c9 hf
        refine lv_aload_n (pc := 23) hx hb dX5_opens_23 rfl (lv_at hl 0 rfl) ?_
        refine g_get (pc := 24) (v := .ref (q 6)) C h.1 0 (mW_c0 _ _ _) fl_X5_25 rfl dX5_opens_24 ?_
        refine lv_bipush (pc := 27) (v := 8) hx hb dX5_opens_27 (by decide) ?_
        refine lv_iload_n (pc := 29) hx hb dX5_opens_29 rfl (lv_at hl 1 rfl) ?_
        refine lv_imul (pc := 30) hx hb dX5_opens_30 ?_
        refine lv_iload_n (pc := 31) hx hb dX5_opens_31 rfl (lv_at hl 3 rfl) ?_
        refine lv_iadd (pc := 32) hx hb dX5_opens_32 ?_
        obtain ⟨hin, hf⟩ := ifS hf
        refine g_ild (pc := 33) (n := 48) (f := (σ 7)) C h.1 6 (mW_c6 _ _ _) hin dX5_opens_33 ?_
        refine lv_aload_n (pc := 34) hx hb dX5_opens_34 rfl (lv_at hl 0 rfl) ?_
        refine g_get (pc := 35) (v := .int (σ 19 0)) C h.1 0 (mW_c0 _ _ _) fl_X5_89 rfl dX5_opens_35 ?_
        refine lv_iconst (pc := 38) (v := -1) hx hb dX5_opens_38 (by decide) ?_
        refine lv_ixor (pc := 39) hx hb dX5_opens_39 ?_
        refine lv_iand (pc := 40) hx hb dX5_opens_40 ?_
        refine lv_if_ne (pc := 41) (tgt := 48) hx hb dX5_opens_41 (by decide) (fun c9 => ?_) (fun c9 => ?_)
        · have hf := ifF c9 hf
          refine lv_iconst (pc := 48) (v := 0) hx hb dX5_opens_48 (by decide) ?_
          refine lv_istore (pc := 49) (lv' := [(4, .int (0 : Int32)), (0, .ref (q 0)), (1, .int x1), (2, .int x2), (3, .int x3)]) hx hb dX5_opens_49 hl (by decide) rfl (fun ls hl => ?_)
          refine lv_aload_n (pc := 51) hx hb dX5_opens_51 rfl (lv_at hl 1 rfl) ?_
          refine g_get (pc := 52) (v := .ref (q 17)) C h.1 0 (mW_c0 _ _ _) fl_X5_58 rfl dX5_opens_52 ?_
          refine lv_iload_n (pc := 55) hx hb dX5_opens_55 rfl (lv_at hl 4 rfl) ?_
          refine lv_iload (pc := 56) hx hb dX5_opens_56 (lv_at hl 0 rfl) ?_
          refine lv_if_eq (pc := 58) (tgt := 65) hx hb dX5_opens_58 (by decide) (fun _ => ?_) (fun c9 => absurd c9 (by decide))
          refine lv_aload_n (pc := 65) hx hb dX5_opens_65 rfl (lv_at hl 1 rfl) ?_
          refine g_get (pc := 66) (v := .ref (q 17)) C h.1 0 (mW_c0 _ _ _) fl_X5_58 rfl dX5_opens_66 ?_
          refine lv_iload_n (pc := 69) hx hb dX5_opens_69 rfl (lv_at hl 4 rfl) ?_
          obtain ⟨hin, hf⟩ := ifS hf
          refine g_ild (pc := 70) (n := 8) (f := (σ 21)) C h.1 17 (mW_c17 _ _ _) hin dX5_opens_70 ?_
          obtain ⟨hin, hf⟩ := ifS hf
          obtain ⟨t1, et1, hf⟩ := ltS hf
          refine g_ist (pc := 71) (n := 8) (f := (σ 21)) (ws' := (mW q cA t1)) C h 17 (mW_c17 _ _ _) hin ((mW_w17 _ _ _ _).trans (congrArg (mW q cA) et1.symm)) dX5_opens_71 (fun H locs h => ?_)
          refine lv_aload_n (pc := 72) hx hb dX5_opens_72 rfl (lv_at hl 1 rfl) ?_
          refine lv_dup (pc := 73) hx hb dX5_opens_73 rfl ?_
          refine g_get (pc := 74) (v := .int (t1 20 0)) C h.1 0 (mW_c0 _ _ _) fl_X5_82 rfl dX5_opens_74 ?_
          refine lv_iload (pc := 77) hx hb dX5_opens_77 (lv_at hl 0 rfl) ?_
          refine lv_if_eq (pc := 79) (tgt := 88) hx hb dX5_opens_79 (by decide) (fun _ => ?_) (fun c9 => absurd c9 (by decide))
          refine lv_iconst (pc := 88) (v := 0) hx hb dX5_opens_88 (by decide) ?_
          refine lv_ior (pc := 89) hx hb dX5_opens_89 ?_
          obtain ⟨t2, et2, hf⟩ := ltS hf
          refine g_puti (pc := 90) (v := ((t1 20 0) ||| (0 : Int32))) (ws' := (mW q cA t2)) C h 0 (mW_c0 _ _ _) fp_X5_82 (Nat.le_of_ble_eq_true rfl) ((mW_w0_20 _ _ _ _).trans (congrArg (mW q cA) et2.symm)) dX5_opens_90 (fun H locs h => ?_)
          refine lv_iinc (pc := 93) (v := (x3 + (1 : Int32))) (lv' := [(3, .int (x3 + (1 : Int32))), (4, .int (0 : Int32)), (0, .ref (q 0)), (1, .int x1), (2, .int x2)]) hx hb dX5_opens_93 hl (k := 4) rfl rfl (by decide) rfl (fun ls hl => ?_)
          refine lv_goto (pc := 96) (tgt := 2) hx hb dX5_opens_96 (by decide) ?_
          exact ih _ _ _ _ _ hf _ _ _ h (lv_sub hl [2, 3, 4, 0] rfl) kk
        · have hf := ifT c9 hf
          refine lv_iconst (pc := 44) (v := 1) hx hb dX5_opens_44 (by decide) ?_
          refine lv_goto (pc := 45) (tgt := 49) hx hb dX5_opens_45 (by decide) ?_
          refine lv_istore (pc := 49) (lv' := [(4, .int (1 : Int32)), (0, .ref (q 0)), (1, .int x1), (2, .int x2), (3, .int x3)]) hx hb dX5_opens_49 hl (by decide) rfl (fun ls hl => ?_)
          refine lv_aload_n (pc := 51) hx hb dX5_opens_51 rfl (lv_at hl 1 rfl) ?_
          refine g_get (pc := 52) (v := .ref (q 17)) C h.1 0 (mW_c0 _ _ _) fl_X5_58 rfl dX5_opens_52 ?_
          refine lv_iload_n (pc := 55) hx hb dX5_opens_55 rfl (lv_at hl 4 rfl) ?_
          refine lv_iload (pc := 56) hx hb dX5_opens_56 (lv_at hl 0 rfl) ?_
          refine lv_if_eq (pc := 58) (tgt := 65) hx hb dX5_opens_58 (by decide) (fun c9 => absurd c9 (by decide)) (fun _ => ?_)
          refine lv_iload_n (pc := 61) hx hb dX5_opens_61 rfl (lv_at hl 3 rfl) ?_
          refine lv_goto (pc := 62) (tgt := 71) hx hb dX5_opens_62 (by decide) ?_
          obtain ⟨hin, hf⟩ := ifS hf
          obtain ⟨t1, et1, hf⟩ := ltS hf
          refine g_ist (pc := 71) (n := 8) (f := (σ 21)) (ws' := (mW q cA t1)) C h 17 (mW_c17 _ _ _) hin ((mW_w17 _ _ _ _).trans (congrArg (mW q cA) et1.symm)) dX5_opens_71 (fun H locs h => ?_)
          refine lv_aload_n (pc := 72) hx hb dX5_opens_72 rfl (lv_at hl 1 rfl) ?_
          refine lv_dup (pc := 73) hx hb dX5_opens_73 rfl ?_
          refine g_get (pc := 74) (v := .int (t1 20 0)) C h.1 0 (mW_c0 _ _ _) fl_X5_82 rfl dX5_opens_74 ?_
          refine lv_iload (pc := 77) hx hb dX5_opens_77 (lv_at hl 0 rfl) ?_
          refine lv_if_eq (pc := 79) (tgt := 88) hx hb dX5_opens_79 (by decide) (fun c9 => absurd c9 (by decide)) (fun _ => ?_)
          refine lv_iconst (pc := 82) (v := 1) hx hb dX5_opens_82 (by decide) ?_
          refine lv_iload_n (pc := 83) hx hb dX5_opens_83 rfl (lv_at hl 4 rfl) ?_
          refine lv_ishl (pc := 84) hx hb dX5_opens_84 ?_
          refine lv_goto (pc := 85) (tgt := 89) hx hb dX5_opens_85 (by decide) ?_
          refine lv_ior (pc := 89) hx hb dX5_opens_89 ?_
          obtain ⟨t2, et2, hf⟩ := ltS hf
          refine g_puti (pc := 90) (v := ((t1 20 0) ||| ((1 : Int32) <<< (x3 &&& 31)))) (ws' := (mW q cA t2)) C h 0 (mW_c0 _ _ _) fp_X5_82 (Nat.le_of_ble_eq_true rfl) ((mW_w0_20 _ _ _ _).trans (congrArg (mW q cA) et2.symm)) dX5_opens_90 (fun H locs h => ?_)
          refine lv_iinc (pc := 93) (v := (x3 + (1 : Int32))) (lv' := [(3, .int (x3 + (1 : Int32))), (4, .int (1 : Int32)), (0, .ref (q 0)), (1, .int x1), (2, .int x2)]) hx hb dX5_opens_93 hl (k := 4) rfl rfl (by decide) rfl (fun ls hl => ?_)
          refine lv_goto (pc := 96) (tgt := 2) hx hb dX5_opens_96 (by decide) ?_
          exact ih _ _ _ _ _ hf _ _ _ h (lv_sub hl [2, 3, 4, 0] rfl) kk
set_option maxHeartbeats 400000 in
set_option maxRecDepth 100000 in
theorem k_X5_opens {q : Nat → Nat} {cA : Nat → ClassId} {D : va_G} (σ : Nat → Nat → Int32) (x1 x2 : Int32) {z : (Nat → Nat → Int32)} (hf : f_X5_opens σ x1 x2 = some z) : CtU yX5_opens cX5_opens 5 none rm_X5_opens [.ref (q 0), .int x1, .int x2] D cA (mW q cA σ) (mW q cA z) none 0 0 := by
  refine ctU_of (by decide) (Nat.le_of_ble_eq_true rfl) ?_
  intro p l e s m below meth c ls C hr hnm h hl
  have C : Cx p s m _ meth c cX5_opens 5 RX5 D cA := C
  obtain ⟨hx, hb, hml, hown, hts, hK, hlk⟩ := id C
  replace hl : lv_has ls 5 [(0, .ref (q 0)), (1, .int x1), (2, .int x2)] := hl
  rw [f_X5_opens] at hf
  refine lv_iconst (pc := 0) (v := 0) hx hb dX5_opens_0 (by decide) ?_
  refine lv_istore_n (pc := 1) (lv' := [(3, .int (0 : Int32)), (0, .ref (q 0)), (1, .int x1), (2, .int x2)]) hx hb dX5_opens_1 rfl hl (by decide) rfl (fun ls hl => ?_)
  obtain ⟨z1, hc1, hf⟩ := bdS hf
  refine l_X5_opens_2 C _ _ _ _ _ _ hc1 _ _ _ h (lv_sub hl [1, 2, 3, 0] rfl) (fun H locs ls h hl => ?_)
  have hf : (some z1.1) = some z := hf
  cases hf
  exact ret_vU (pc := 99) C hr h dX5_opens_99
abbrev rm_X5_ends : Room := { frames := 0, cells := 0, slots := 0, locals := 0 }
def f_X5_ends (x0 : Int32) : Int32 := (if x0 = (3 : Int32) then (3 : Int32) else (if x0 = (4 : Int32) then (4 : Int32) else (5 : Int32)))
set_option maxHeartbeats 400000 in
set_option maxRecDepth 100000 in
theorem k_X5_ends {cA : Nat → ClassId} {D : va_G} (x0 : Int32) {z : Int32} (hf : f_X5_ends x0 = z) : CtR yX5_ends cX5_ends 1 (some .int) rm_X5_ends [.int x0] D cA [] (some (.int z)) 0 0 := by
  refine ctR_of (by decide) (Nat.le_of_ble_eq_true rfl) ?_
  intro p l e s m below meth c ls C hr hnm h hl
  have C : Cx p s m _ meth c cX5_ends 1 RX5 D cA := C
  obtain ⟨hx, hb, hml, hown, hts, hK, hlk⟩ := id C
  replace hl : lv_has ls 1 [(0, .int x0)] := hl
  rw [f_X5_ends] at hf
  refine lv_iload_n (pc := 0) hx hb dX5_ends_0 rfl (lv_at hl 0 rfl) ?_
  refine lv_iconst (pc := 1) (v := 3) hx hb dX5_ends_1 (by decide) ?_
  refine lv_icmp_ne (pc := 2) (tgt := 9) hx hb dX5_ends_2 (by decide) (fun c9 => ?_) (fun c9 => ?_)
  · have hf := ifF c9 hf
    refine lv_iload_n (pc := 9) hx hb dX5_ends_9 rfl (lv_at hl 0 rfl) ?_
    refine lv_iconst (pc := 10) (v := 4) hx hb dX5_ends_10 (by decide) ?_
    refine lv_icmp_ne (pc := 11) (tgt := 18) hx hb dX5_ends_11 (by decide) (fun c9 => ?_) (fun c9 => ?_)
    · have hf := ifF c9 hf
      refine lv_iconst (pc := 18) (v := 5) hx hb dX5_ends_18 (by decide) ?_
      have hf : (5 : Int32) = z := hf
      subst hf
      exact ret_iR (pc := 19) C hr h dX5_ends_19
    · have hf := ifT c9 hf
      refine lv_iconst (pc := 14) (v := 4) hx hb dX5_ends_14 (by decide) ?_
      refine lv_goto (pc := 15) (tgt := 19) hx hb dX5_ends_15 (by decide) ?_
      have hf : (4 : Int32) = z := hf
      subst hf
      exact ret_iR (pc := 19) C hr h dX5_ends_19
  · have hf := ifT c9 hf
    refine lv_iconst (pc := 5) (v := 3) hx hb dX5_ends_5 (by decide) ?_
    refine lv_goto (pc := 6) (tgt := 19) hx hb dX5_ends_6 (by decide) ?_
    have hf : (3 : Int32) = z := hf
    subst hf
    exact ret_iR (pc := 19) C hr h dX5_ends_19
abbrev rm_X5_tells : Room := { frames := 2, cells := 0, slots := 0, locals := 45 }
def f_X5_tells_17 : Nat → (Nat → Nat → Int32) → Int32 → Int32 → Int32 → Option ((Nat → Nat → Int32) × Int32)
  | 0, _, _, _, _ => none
  | n + 1, σ, x1, x2, x3 => (if (8 : Int32) ≤ x3 then some (σ, x3) else (if inb x3 8 then (lt (va_up σ 22 (upd (σ 22) x3.toNatClampNeg (0 : Int32))) fun t4 => (f_X5_tells_17 n t4 x1 x2 (x3 + (1 : Int32)))) else none))
def f_X5_tells_41 : Nat → (Nat → Nat → Int32) → Int32 → Int32 → Int32 → Option ((Nat → Nat → Int32) × Int32)
  | 0, _, _, _, _ => none
  | n + 1, σ, x1, x2, x3 => (if (((50 : Int32) * x1) + x2) ≤ x3 then some (σ, x3) else (if inb x3 300 then (if ((σ 8) x3.toNatClampNeg) = 0 then (lt (va_up σ 18 (fun _ => (1 : Int32))) fun t5 => (if inb x3 300 then ((f_X5_opens t5 x1 ((t5 11) x3.toNatClampNeg)).bind fun z6 => (f_X5_tells_41 n z6 x1 x2 (x3 + (1 : Int32)))) else none)) else (if inb x3 300 then (if ((σ 8) x3.toNatClampNeg) = (1 : Int32) then (if inb x3 300 then (lt (va_up σ 19 (fun _ => ((σ 19 0) ||| ((1 : Int32) <<< (((σ 10) x3.toNatClampNeg) &&& 31))))) fun t5 => (if inb x3 300 then ((f_X5_opens t5 x1 ((t5 11) x3.toNatClampNeg)).bind fun z6 => ((f_X5_all z6 x1).bind fun z7 => (if (z6 19 0) = z7 then (lt (va_up z6 18 (fun _ => (2 : Int32))) fun t8 => (f_X5_tells_41 n t8 x1 x2 (x3 + (1 : Int32)))) else (lt (va_up z6 18 (fun _ => (1 : Int32))) fun t8 => (f_X5_tells_41 n t8 x1 x2 (x3 + (1 : Int32))))))) else none)) else none) else (if inb x3 300 then (if ((σ 8) x3.toNatClampNeg) = (2 : Int32) then (if inb x3 300 then (lt (va_up σ 19 (fun _ => ((σ 19 0) ||| ((1 : Int32) <<< (((σ 10) x3.toNatClampNeg) &&& 31))))) fun t5 => (if inb x3 300 then ((f_X5_opens t5 x1 ((t5 11) x3.toNatClampNeg)).bind fun z6 => ((f_X5_all z6 x1).bind fun z7 => (if (z6 19 0) = z7 then (lt (va_up z6 18 (fun _ => (2 : Int32))) fun t8 => (f_X5_tells_41 n t8 x1 x2 (x3 + (1 : Int32)))) else (lt (va_up z6 18 (fun _ => (1 : Int32))) fun t8 => (f_X5_tells_41 n t8 x1 x2 (x3 + (1 : Int32))))))) else none)) else none) else (if inb x3 300 then (if ((σ 8) x3.toNatClampNeg) = (6 : Int32) then (if inb x3 300 then (if inb ((σ 10) x3.toNatClampNeg) 8 then (if inb ((σ 10) x3.toNatClampNeg) 8 then (lt (va_up σ 22 (upd (σ 22) ((σ 10) x3.toNatClampNeg).toNatClampNeg (((σ 22) ((σ 10) x3.toNatClampNeg).toNatClampNeg) + (1 : Int32)))) fun t5 => (f_X5_tells_41 n t5 x1 x2 (x3 + (1 : Int32)))) else none) else none) else none) else (if inb x3 300 then (lt (va_up σ 18 (fun _ => (f_X5_ends ((σ 8) x3.toNatClampNeg)))) fun t5 => (f_X5_tells_41 n t5 x1 x2 (x3 + (1 : Int32)))) else none)) else none)) else none)) else none)) else none))
def f_X5_tells (σ : Nat → Nat → Int32) (x1 x2 : Int32) : Option ((Nat → Nat → Int32)) := (lt (va_up σ 18 (fun _ => (0 : Int32))) fun t1 => (lt (va_up t1 19 (fun _ => (0 : Int32))) fun t2 => (lt (va_up t2 20 (fun _ => (0 : Int32))) fun t3 => ((f_X5_tells_17 FU t3 x1 x2 (0 : Int32)).bind fun z4 => ((f_X5_tells_41 FU z4.1 x1 x2 ((50 : Int32) * x1)).bind fun z5 => (some z5.1))))))
set_option maxHeartbeats 400000 in
set_option maxRecDepth 100000 in
theorem l_X5_tells_17 (C : Cx p s m args meth c cX5_tells 4 RX5 D cA) : ∀ (n : Nat) (σ : Nat → Nat → Int32) (x1 x2 x3 : Int32) (z : (Nat → Nat → Int32) × Int32), f_X5_tells_17 n σ x1 x2 x3 = some z → ∀ (H : Heap) (locs : List Loc) (ls : Array Slot), St D A s.heap (mW q cA σ) H locs → lv_has ls 4 [(0, .ref (q 0)), (1, .int x1), (2, .int x2), (3, .int x3)] → (∀ (H : Heap) (locs : List Loc) (ls : Array Slot), St D A s.heap (mW q cA z.1) H locs → lv_has ls 4 [(0, .ref (q 0)), (1, .int x1), (2, .int x2), (3, .int z.2)] → W p l e rm_X5_tells s m args below meth c H locs 0 0 Q (F0 m 36 ls [])) → W p l e rm_X5_tells s m args below meth c H locs 0 0 Q (F0 m 17 ls []) := by
  obtain ⟨hx, hb, hml, hown, hts, hK, hlk⟩ := id C
  intro n
  induction n with
  | zero => intro σ x1 x2 x3 z hf; rw [f_X5_tells_17] at hf; cases hf
  | succ n ih =>
    intro σ x1 x2 x3 z hf H locs ls h hl kk
    rw [f_X5_tells_17] at hf
    refine lv_iload_n (pc := 17) hx hb dX5_tells_17 rfl (lv_at hl 3 rfl) ?_
    refine lv_bipush (pc := 18) (v := 8) hx hb dX5_tells_18 (by decide) ?_
    refine lv_icmp_ge (pc := 20) (tgt := 36) hx hb dX5_tells_20 (by decide) (fun c9 => ?_) (fun c9 => ?_)
    · have hf := ifT c9 hf
      have hf : some (σ, x3) = some z := hf
      cases hf
      exact kk _ _ _ h (lv_sub hl [0, 1, 2, 3] rfl)
    · have hf := ifF c9 hf
      refine lv_aload_n (pc := 23) hx hb dX5_tells_23 rfl (lv_at hl 0 rfl) ?_
      refine g_get (pc := 24) (v := .ref (q 18)) C h.1 0 (mW_c0 _ _ _) fl_X5_61 rfl dX5_tells_24 ?_
      refine lv_iload_n (pc := 27) hx hb dX5_tells_27 rfl (lv_at hl 3 rfl) ?_
      refine lv_iconst (pc := 28) (v := 0) hx hb dX5_tells_28 (by decide) ?_
      obtain ⟨hin, hf⟩ := ifS hf
      obtain ⟨t4, et4, hf⟩ := ltS hf
      refine g_ist (pc := 29) (n := 8) (f := (σ 22)) (ws' := (mW q cA t4)) C h 18 (mW_c18 _ _ _) hin ((mW_w18 _ _ _ _).trans (congrArg (mW q cA) et4.symm)) dX5_tells_29 (fun H locs h => ?_)
      refine lv_iinc (pc := 30) (v := (x3 + (1 : Int32))) (lv' := [(3, .int (x3 + (1 : Int32))), (0, .ref (q 0)), (1, .int x1), (2, .int x2)]) hx hb dX5_tells_30 hl (k := 3) rfl rfl (by decide) rfl (fun ls hl => ?_)
      refine lv_goto (pc := 33) (tgt := 17) hx hb dX5_tells_33 (by decide) ?_
      exact ih _ _ _ _ _ hf _ _ _ h (lv_sub hl [1, 2, 3, 0] rfl) kk
set_option maxHeartbeats 400000 in
set_option maxRecDepth 100000 in
theorem l_X5_tells_41 (C : Cx p s m args meth c cX5_tells 4 RX5 D cA) : ∀ (n : Nat) (σ : Nat → Nat → Int32) (x1 x2 x3 : Int32) (z : (Nat → Nat → Int32) × Int32), f_X5_tells_41 n σ x1 x2 x3 = some z → ∀ (H : Heap) (locs : List Loc) (ls : Array Slot), St D A s.heap (mW q cA σ) H locs → lv_has ls 4 [(0, .ref (q 0)), (1, .int x1), (2, .int x2), (3, .int x3)] → (∀ (H : Heap) (locs : List Loc) (ls : Array Slot), St D A s.heap (mW q cA z.1) H locs → lv_has ls 4 [(0, .ref (q 0)), (1, .int x1), (2, .int x2), (3, .int z.2)] → W p l e rm_X5_tells s m args below meth c H locs 0 0 Q (F0 m 199 ls [])) → W p l e rm_X5_tells s m args below meth c H locs 0 0 Q (F0 m 41 ls []) := by
  obtain ⟨hx, hb, hml, hown, hts, hK, hlk⟩ := id C
  intro n
  induction n with
  | zero => intro σ x1 x2 x3 z hf; rw [f_X5_tells_41] at hf; cases hf
  | succ n ih =>
    intro σ x1 x2 x3 z hf H locs ls h hl kk
    rw [f_X5_tells_41] at hf
    refine lv_iload_n (pc := 41) hx hb dX5_tells_41 rfl (lv_at hl 3 rfl) ?_
    refine lv_bipush (pc := 42) (v := 50) hx hb dX5_tells_42 (by decide) ?_
    refine lv_iload_n (pc := 44) hx hb dX5_tells_44 rfl (lv_at hl 1 rfl) ?_
    refine lv_imul (pc := 45) hx hb dX5_tells_45 ?_
    refine lv_iload_n (pc := 46) hx hb dX5_tells_46 rfl (lv_at hl 2 rfl) ?_
    refine lv_iadd (pc := 47) hx hb dX5_tells_47 ?_
    refine lv_icmp_ge (pc := 48) (tgt := 199) hx hb dX5_tells_48 (by decide) (fun c9 => ?_) (fun c9 => ?_)
    · have hf := ifT c9 hf
      have hf : some (σ, x3) = some z := hf
      cases hf
      exact kk _ _ _ h (lv_sub hl [0, 1, 2, 3] rfl)
    · have hf := ifF c9 hf
      refine lv_aload_n (pc := 51) hx hb dX5_tells_51 rfl (lv_at hl 0 rfl) ?_
      refine g_get (pc := 52) (v := .ref (q 7)) C h.1 0 (mW_c0 _ _ _) fl_X5_28 rfl dX5_tells_52 ?_
      refine lv_iload_n (pc := 55) hx hb dX5_tells_55 rfl (lv_at hl 3 rfl) ?_
      obtain ⟨hin, hf⟩ := ifS hf
      refine g_ild (pc := 56) (n := 300) (f := (σ 8)) C h.1 7 (mW_c7 _ _ _) hin dX5_tells_56 ?_
      refine lv_if_ne (pc := 57) (tgt := 79) hx hb dX5_tells_57 (by decide) (fun c9 => ?_) (fun c9 => ?_)
      · have hf := ifF c9 hf
        refine lv_aload_n (pc := 79) hx hb dX5_tells_79 rfl (lv_at hl 0 rfl) ?_
        refine g_get (pc := 80) (v := .ref (q 7)) C h.1 0 (mW_c0 _ _ _) fl_X5_28 rfl dX5_tells_80 ?_
        refine lv_iload_n (pc := 83) hx hb dX5_tells_83 rfl (lv_at hl 3 rfl) ?_
        obtain ⟨hin, hf⟩ := ifS hf
        refine g_ild (pc := 84) (n := 300) (f := (σ 8)) C h.1 7 (mW_c7 _ _ _) hin dX5_tells_84 ?_
        refine lv_iconst (pc := 85) (v := 1) hx hb dX5_tells_85 (by decide) ?_
        refine lv_icmp_eq (pc := 86) (tgt := 99) hx hb dX5_tells_86 (by decide) (fun c9 => ?_) (fun c9 => ?_)
        · have hf := ifT c9 hf
          refine lv_aload_n (pc := 99) hx hb dX5_tells_99 rfl (lv_at hl 0 rfl) ?_
          refine lv_dup (pc := 100) hx hb dX5_tells_100 rfl ?_
          refine g_get (pc := 101) (v := .int (σ 19 0)) C h.1 0 (mW_c0 _ _ _) fl_X5_89 rfl dX5_tells_101 ?_
          refine lv_iconst (pc := 104) (v := 1) hx hb dX5_tells_104 (by decide) ?_
          refine lv_aload_n (pc := 105) hx hb dX5_tells_105 rfl (lv_at hl 0 rfl) ?_
          refine g_get (pc := 106) (v := .ref (q 9)) C h.1 0 (mW_c0 _ _ _) fl_X5_34 rfl dX5_tells_106 ?_
          refine lv_iload_n (pc := 109) hx hb dX5_tells_109 rfl (lv_at hl 3 rfl) ?_
          obtain ⟨hin, hf⟩ := ifS hf
          refine g_ild (pc := 110) (n := 300) (f := (σ 10)) C h.1 9 (mW_c9 _ _ _) hin dX5_tells_110 ?_
          refine lv_ishl (pc := 111) hx hb dX5_tells_111 ?_
          refine lv_ior (pc := 112) hx hb dX5_tells_112 ?_
          obtain ⟨t5, et5, hf⟩ := ltS hf
          refine g_puti (pc := 113) (v := ((σ 19 0) ||| ((1 : Int32) <<< (((σ 10) x3.toNatClampNeg) &&& 31)))) (ws' := (mW q cA t5)) C h 0 (mW_c0 _ _ _) fp_X5_89 (Nat.le_of_ble_eq_true rfl) ((mW_w0_19 _ _ _ _).trans (congrArg (mW q cA) et5.symm)) dX5_tells_113 (fun H locs h => ?_)
          refine lv_aload_n (pc := 116) hx hb dX5_tells_116 rfl (lv_at hl 0 rfl) ?_
          refine lv_iload_n (pc := 117) hx hb dX5_tells_117 rfl (lv_at hl 1 rfl) ?_
          refine lv_aload_n (pc := 118) hx hb dX5_tells_118 rfl (lv_at hl 0 rfl) ?_
          refine g_get (pc := 119) (v := .ref (q 10)) C h.1 0 (mW_c0 _ _ _) fl_X5_37 rfl dX5_tells_119 ?_
          refine lv_iload_n (pc := 122) hx hb dX5_tells_122 rfl (lv_at hl 3 rfl) ?_
          obtain ⟨hin, hf⟩ := ifS hf
          refine g_ild (pc := 123) (n := 300) (f := (t5 11)) C h.1 10 (mW_c10 _ _ _) hin dX5_tells_123 ?_
          obtain ⟨z6, hc6, hf⟩ := bdS hf
          refine call_VUs (pc := 124) (As := [.int x1, .int ((t5 11) x3.toNatClampNeg)]) (rest := []) C h (k_X5_opens t5 x1 ((t5 11) x3.toNatClampNeg) hc6) cw_X5_95 0 (mW_c0 _ _ _) rfl (mW_fst _ _ _ _) rfl rfl hl.1 (Nat.le_of_ble_eq_true rfl) dX5_tells_124 ⟨Nat.le_of_ble_eq_true rfl, Nat.le_of_ble_eq_true rfl⟩ rfl rfl ⟨Nat.le_of_ble_eq_true rfl, Nat.le_of_ble_eq_true rfl⟩ (fun H locs h => ?_)
          refine W.eq (g2 := F0 m 127 ls []) rfl ?_
          refine lv_aload_n (pc := 127) hx hb dX5_tells_127 rfl (lv_at hl 0 rfl) ?_
          refine lv_aload_n (pc := 128) hx hb dX5_tells_128 rfl (lv_at hl 0 rfl) ?_
          refine g_get (pc := 129) (v := .int (z6 19 0)) C h.1 0 (mW_c0 _ _ _) fl_X5_89 rfl dX5_tells_129 ?_
          refine lv_aload_n (pc := 132) hx hb dX5_tells_132 rfl (lv_at hl 0 rfl) ?_
          refine lv_iload_n (pc := 133) hx hb dX5_tells_133 rfl (lv_at hl 1 rfl) ?_
          obtain ⟨z7, hc7, hf⟩ := bdS hf
          refine call_VRs (pc := 134) (As := [.int x1]) (rest := [.int (z6 19 0), .ref (q 0)]) C h (k_X5_all z6 x1 hc7) cw_X5_99 0 (mW_c0 _ _ _) rfl rfl rfl hl.1 (Nat.le_of_ble_eq_true rfl) dX5_tells_134 ⟨Nat.le_of_ble_eq_true rfl, Nat.le_of_ble_eq_true rfl⟩ rfl rfl ⟨Nat.le_of_ble_eq_true rfl, Nat.le_of_ble_eq_true rfl⟩ (fun H locs h => ?_)
          refine W.eq (g2 := F0 m 137 ls [.int z7, .int (z6 19 0), .ref (q 0)]) rfl ?_
          refine lv_icmp_ne (pc := 137) (tgt := 144) hx hb dX5_tells_137 (by decide) (fun c9 => ?_) (fun c9 => ?_)
          · have hf := ifF c9 hf
            refine lv_iconst (pc := 144) (v := 1) hx hb dX5_tells_144 (by decide) ?_
            obtain ⟨t8, et8, hf⟩ := ltS hf
            refine g_puti (pc := 145) (v := (1 : Int32)) (ws' := (mW q cA t8)) C h 0 (mW_c0 _ _ _) fp_X5_92 (Nat.le_of_ble_eq_true rfl) ((mW_w0_18 _ _ _ _).trans (congrArg (mW q cA) et8.symm)) dX5_tells_145 (fun H locs h => ?_)
            refine lv_goto (pc := 148) (tgt := 193) hx hb dX5_tells_148 (by decide) ?_
            refine lv_iinc (pc := 193) (v := (x3 + (1 : Int32))) (lv' := [(3, .int (x3 + (1 : Int32))), (0, .ref (q 0)), (1, .int x1), (2, .int x2)]) hx hb dX5_tells_193 hl (k := 3) rfl rfl (by decide) rfl (fun ls hl => ?_)
            refine lv_goto (pc := 196) (tgt := 41) hx hb dX5_tells_196 (by decide) ?_
            exact ih _ _ _ _ _ hf _ _ _ h (lv_sub hl [1, 2, 3, 0] rfl) kk
          · have hf := ifT c9 hf
            refine lv_iconst (pc := 140) (v := 2) hx hb dX5_tells_140 (by decide) ?_
            refine lv_goto (pc := 141) (tgt := 145) hx hb dX5_tells_141 (by decide) ?_
            obtain ⟨t8, et8, hf⟩ := ltS hf
            refine g_puti (pc := 145) (v := (2 : Int32)) (ws' := (mW q cA t8)) C h 0 (mW_c0 _ _ _) fp_X5_92 (Nat.le_of_ble_eq_true rfl) ((mW_w0_18 _ _ _ _).trans (congrArg (mW q cA) et8.symm)) dX5_tells_145 (fun H locs h => ?_)
            refine lv_goto (pc := 148) (tgt := 193) hx hb dX5_tells_148 (by decide) ?_
            refine lv_iinc (pc := 193) (v := (x3 + (1 : Int32))) (lv' := [(3, .int (x3 + (1 : Int32))), (0, .ref (q 0)), (1, .int x1), (2, .int x2)]) hx hb dX5_tells_193 hl (k := 3) rfl rfl (by decide) rfl (fun ls hl => ?_)
            refine lv_goto (pc := 196) (tgt := 41) hx hb dX5_tells_196 (by decide) ?_
            exact ih _ _ _ _ _ hf _ _ _ h (lv_sub hl [1, 2, 3, 0] rfl) kk
        · have hf := ifF c9 hf
          refine lv_aload_n (pc := 89) hx hb dX5_tells_89 rfl (lv_at hl 0 rfl) ?_
          refine g_get (pc := 90) (v := .ref (q 7)) C h.1 0 (mW_c0 _ _ _) fl_X5_28 rfl dX5_tells_90 ?_
          refine lv_iload_n (pc := 93) hx hb dX5_tells_93 rfl (lv_at hl 3 rfl) ?_
          obtain ⟨hin, hf⟩ := ifS hf
          refine g_ild (pc := 94) (n := 300) (f := (σ 8)) C h.1 7 (mW_c7 _ _ _) hin dX5_tells_94 ?_
          refine lv_iconst (pc := 95) (v := 2) hx hb dX5_tells_95 (by decide) ?_
          refine lv_icmp_ne (pc := 96) (tgt := 151) hx hb dX5_tells_96 (by decide) (fun c9 => ?_) (fun c9 => ?_)
          · have hf := ifF c9 hf
            refine lv_aload_n (pc := 151) hx hb dX5_tells_151 rfl (lv_at hl 0 rfl) ?_
            refine g_get (pc := 152) (v := .ref (q 7)) C h.1 0 (mW_c0 _ _ _) fl_X5_28 rfl dX5_tells_152 ?_
            refine lv_iload_n (pc := 155) hx hb dX5_tells_155 rfl (lv_at hl 3 rfl) ?_
            obtain ⟨hin, hf⟩ := ifS hf
            refine g_ild (pc := 156) (n := 300) (f := (σ 8)) C h.1 7 (mW_c7 _ _ _) hin dX5_tells_156 ?_
            refine lv_bipush (pc := 157) (v := 6) hx hb dX5_tells_157 (by decide) ?_
            refine lv_icmp_ne (pc := 159) (tgt := 180) hx hb dX5_tells_159 (by decide) (fun c9 => ?_) (fun c9 => ?_)
            · have hf := ifF c9 hf
              refine lv_aload_n (pc := 180) hx hb dX5_tells_180 rfl (lv_at hl 0 rfl) ?_
              refine lv_aload_n (pc := 181) hx hb dX5_tells_181 rfl (lv_at hl 0 rfl) ?_
              refine g_get (pc := 182) (v := .ref (q 7)) C h.1 0 (mW_c0 _ _ _) fl_X5_28 rfl dX5_tells_182 ?_
              refine lv_iload_n (pc := 185) hx hb dX5_tells_185 rfl (lv_at hl 3 rfl) ?_
              obtain ⟨hin, hf⟩ := ifS hf
              refine g_ild (pc := 186) (n := 300) (f := (σ 8)) C h.1 7 (mW_c7 _ _ _) hin dX5_tells_186 ?_
              refine call_SR (pc := 187) (As := [.int ((σ 8) x3.toNatClampNeg)]) (rest := [.ref (q 0)]) (wc := []) C h (k_X5_ends ((σ 8) x3.toNatClampNeg) rfl) cw_X5_103 [] rfl rfl rfl rfl hl.1 (Nat.le_of_ble_eq_true rfl) dX5_tells_187 ⟨Nat.le_of_ble_eq_true rfl, Nat.le_of_ble_eq_true rfl⟩ rfl rfl ⟨Nat.le_of_ble_eq_true rfl, Nat.le_of_ble_eq_true rfl⟩ (fun H locs h => ?_)
              refine W.eq (g2 := F0 m 190 ls [.int (f_X5_ends ((σ 8) x3.toNatClampNeg)), .ref (q 0)]) rfl ?_
              obtain ⟨t5, et5, hf⟩ := ltS hf
              refine g_puti (pc := 190) (v := (f_X5_ends ((σ 8) x3.toNatClampNeg))) (ws' := (mW q cA t5)) C h 0 (mW_c0 _ _ _) fp_X5_92 (Nat.le_of_ble_eq_true rfl) ((mW_w0_18 _ _ _ _).trans (congrArg (mW q cA) et5.symm)) dX5_tells_190 (fun H locs h => ?_)
              refine lv_iinc (pc := 193) (v := (x3 + (1 : Int32))) (lv' := [(3, .int (x3 + (1 : Int32))), (0, .ref (q 0)), (1, .int x1), (2, .int x2)]) hx hb dX5_tells_193 hl (k := 3) rfl rfl (by decide) rfl (fun ls hl => ?_)
              refine lv_goto (pc := 196) (tgt := 41) hx hb dX5_tells_196 (by decide) ?_
              exact ih _ _ _ _ _ hf _ _ _ h (lv_sub hl [1, 2, 3, 0] rfl) kk
            · have hf := ifT c9 hf
              refine lv_aload_n (pc := 162) hx hb dX5_tells_162 rfl (lv_at hl 0 rfl) ?_
              refine g_get (pc := 163) (v := .ref (q 18)) C h.1 0 (mW_c0 _ _ _) fl_X5_61 rfl dX5_tells_163 ?_
              refine lv_aload_n (pc := 166) hx hb dX5_tells_166 rfl (lv_at hl 0 rfl) ?_
              refine g_get (pc := 167) (v := .ref (q 9)) C h.1 0 (mW_c0 _ _ _) fl_X5_34 rfl dX5_tells_167 ?_
              refine lv_iload_n (pc := 170) hx hb dX5_tells_170 rfl (lv_at hl 3 rfl) ?_
              obtain ⟨hin, hf⟩ := ifS hf
              refine g_ild (pc := 171) (n := 300) (f := (σ 10)) C h.1 9 (mW_c9 _ _ _) hin dX5_tells_171 ?_
              refine lv_dup2_11 (pc := 172) hx hb dX5_tells_172 rfl rfl ?_
              obtain ⟨hin, hf⟩ := ifS hf
              refine g_ild (pc := 173) (n := 8) (f := (σ 22)) C h.1 18 (mW_c18 _ _ _) hin dX5_tells_173 ?_
              refine lv_iconst (pc := 174) (v := 1) hx hb dX5_tells_174 (by decide) ?_
              refine lv_iadd (pc := 175) hx hb dX5_tells_175 ?_
              obtain ⟨hin, hf⟩ := ifS hf
              obtain ⟨t5, et5, hf⟩ := ltS hf
              refine g_ist (pc := 176) (n := 8) (f := (σ 22)) (ws' := (mW q cA t5)) C h 18 (mW_c18 _ _ _) hin ((mW_w18 _ _ _ _).trans (congrArg (mW q cA) et5.symm)) dX5_tells_176 (fun H locs h => ?_)
              refine lv_goto (pc := 177) (tgt := 193) hx hb dX5_tells_177 (by decide) ?_
              refine lv_iinc (pc := 193) (v := (x3 + (1 : Int32))) (lv' := [(3, .int (x3 + (1 : Int32))), (0, .ref (q 0)), (1, .int x1), (2, .int x2)]) hx hb dX5_tells_193 hl (k := 3) rfl rfl (by decide) rfl (fun ls hl => ?_)
              refine lv_goto (pc := 196) (tgt := 41) hx hb dX5_tells_196 (by decide) ?_
              exact ih _ _ _ _ _ hf _ _ _ h (lv_sub hl [1, 2, 3, 0] rfl) kk
          · have hf := ifT c9 hf
            refine lv_aload_n (pc := 99) hx hb dX5_tells_99 rfl (lv_at hl 0 rfl) ?_
            refine lv_dup (pc := 100) hx hb dX5_tells_100 rfl ?_
            refine g_get (pc := 101) (v := .int (σ 19 0)) C h.1 0 (mW_c0 _ _ _) fl_X5_89 rfl dX5_tells_101 ?_
            refine lv_iconst (pc := 104) (v := 1) hx hb dX5_tells_104 (by decide) ?_
            refine lv_aload_n (pc := 105) hx hb dX5_tells_105 rfl (lv_at hl 0 rfl) ?_
            refine g_get (pc := 106) (v := .ref (q 9)) C h.1 0 (mW_c0 _ _ _) fl_X5_34 rfl dX5_tells_106 ?_
            refine lv_iload_n (pc := 109) hx hb dX5_tells_109 rfl (lv_at hl 3 rfl) ?_
            obtain ⟨hin, hf⟩ := ifS hf
            refine g_ild (pc := 110) (n := 300) (f := (σ 10)) C h.1 9 (mW_c9 _ _ _) hin dX5_tells_110 ?_
            refine lv_ishl (pc := 111) hx hb dX5_tells_111 ?_
            refine lv_ior (pc := 112) hx hb dX5_tells_112 ?_
            obtain ⟨t5, et5, hf⟩ := ltS hf
            refine g_puti (pc := 113) (v := ((σ 19 0) ||| ((1 : Int32) <<< (((σ 10) x3.toNatClampNeg) &&& 31)))) (ws' := (mW q cA t5)) C h 0 (mW_c0 _ _ _) fp_X5_89 (Nat.le_of_ble_eq_true rfl) ((mW_w0_19 _ _ _ _).trans (congrArg (mW q cA) et5.symm)) dX5_tells_113 (fun H locs h => ?_)
            refine lv_aload_n (pc := 116) hx hb dX5_tells_116 rfl (lv_at hl 0 rfl) ?_
            refine lv_iload_n (pc := 117) hx hb dX5_tells_117 rfl (lv_at hl 1 rfl) ?_
            refine lv_aload_n (pc := 118) hx hb dX5_tells_118 rfl (lv_at hl 0 rfl) ?_
            refine g_get (pc := 119) (v := .ref (q 10)) C h.1 0 (mW_c0 _ _ _) fl_X5_37 rfl dX5_tells_119 ?_
            refine lv_iload_n (pc := 122) hx hb dX5_tells_122 rfl (lv_at hl 3 rfl) ?_
            obtain ⟨hin, hf⟩ := ifS hf
            refine g_ild (pc := 123) (n := 300) (f := (t5 11)) C h.1 10 (mW_c10 _ _ _) hin dX5_tells_123 ?_
            obtain ⟨z6, hc6, hf⟩ := bdS hf
            refine call_VUs (pc := 124) (As := [.int x1, .int ((t5 11) x3.toNatClampNeg)]) (rest := []) C h (k_X5_opens t5 x1 ((t5 11) x3.toNatClampNeg) hc6) cw_X5_95 0 (mW_c0 _ _ _) rfl (mW_fst _ _ _ _) rfl rfl hl.1 (Nat.le_of_ble_eq_true rfl) dX5_tells_124 ⟨Nat.le_of_ble_eq_true rfl, Nat.le_of_ble_eq_true rfl⟩ rfl rfl ⟨Nat.le_of_ble_eq_true rfl, Nat.le_of_ble_eq_true rfl⟩ (fun H locs h => ?_)
            refine W.eq (g2 := F0 m 127 ls []) rfl ?_
            refine lv_aload_n (pc := 127) hx hb dX5_tells_127 rfl (lv_at hl 0 rfl) ?_
            refine lv_aload_n (pc := 128) hx hb dX5_tells_128 rfl (lv_at hl 0 rfl) ?_
            refine g_get (pc := 129) (v := .int (z6 19 0)) C h.1 0 (mW_c0 _ _ _) fl_X5_89 rfl dX5_tells_129 ?_
            refine lv_aload_n (pc := 132) hx hb dX5_tells_132 rfl (lv_at hl 0 rfl) ?_
            refine lv_iload_n (pc := 133) hx hb dX5_tells_133 rfl (lv_at hl 1 rfl) ?_
            obtain ⟨z7, hc7, hf⟩ := bdS hf
            refine call_VRs (pc := 134) (As := [.int x1]) (rest := [.int (z6 19 0), .ref (q 0)]) C h (k_X5_all z6 x1 hc7) cw_X5_99 0 (mW_c0 _ _ _) rfl rfl rfl hl.1 (Nat.le_of_ble_eq_true rfl) dX5_tells_134 ⟨Nat.le_of_ble_eq_true rfl, Nat.le_of_ble_eq_true rfl⟩ rfl rfl ⟨Nat.le_of_ble_eq_true rfl, Nat.le_of_ble_eq_true rfl⟩ (fun H locs h => ?_)
            refine W.eq (g2 := F0 m 137 ls [.int z7, .int (z6 19 0), .ref (q 0)]) rfl ?_
            refine lv_icmp_ne (pc := 137) (tgt := 144) hx hb dX5_tells_137 (by decide) (fun c9 => ?_) (fun c9 => ?_)
            · have hf := ifF c9 hf
              refine lv_iconst (pc := 144) (v := 1) hx hb dX5_tells_144 (by decide) ?_
              obtain ⟨t8, et8, hf⟩ := ltS hf
              refine g_puti (pc := 145) (v := (1 : Int32)) (ws' := (mW q cA t8)) C h 0 (mW_c0 _ _ _) fp_X5_92 (Nat.le_of_ble_eq_true rfl) ((mW_w0_18 _ _ _ _).trans (congrArg (mW q cA) et8.symm)) dX5_tells_145 (fun H locs h => ?_)
              refine lv_goto (pc := 148) (tgt := 193) hx hb dX5_tells_148 (by decide) ?_
              refine lv_iinc (pc := 193) (v := (x3 + (1 : Int32))) (lv' := [(3, .int (x3 + (1 : Int32))), (0, .ref (q 0)), (1, .int x1), (2, .int x2)]) hx hb dX5_tells_193 hl (k := 3) rfl rfl (by decide) rfl (fun ls hl => ?_)
              refine lv_goto (pc := 196) (tgt := 41) hx hb dX5_tells_196 (by decide) ?_
              exact ih _ _ _ _ _ hf _ _ _ h (lv_sub hl [1, 2, 3, 0] rfl) kk
            · have hf := ifT c9 hf
              refine lv_iconst (pc := 140) (v := 2) hx hb dX5_tells_140 (by decide) ?_
              refine lv_goto (pc := 141) (tgt := 145) hx hb dX5_tells_141 (by decide) ?_
              obtain ⟨t8, et8, hf⟩ := ltS hf
              refine g_puti (pc := 145) (v := (2 : Int32)) (ws' := (mW q cA t8)) C h 0 (mW_c0 _ _ _) fp_X5_92 (Nat.le_of_ble_eq_true rfl) ((mW_w0_18 _ _ _ _).trans (congrArg (mW q cA) et8.symm)) dX5_tells_145 (fun H locs h => ?_)
              refine lv_goto (pc := 148) (tgt := 193) hx hb dX5_tells_148 (by decide) ?_
              refine lv_iinc (pc := 193) (v := (x3 + (1 : Int32))) (lv' := [(3, .int (x3 + (1 : Int32))), (0, .ref (q 0)), (1, .int x1), (2, .int x2)]) hx hb dX5_tells_193 hl (k := 3) rfl rfl (by decide) rfl (fun ls hl => ?_)
              refine lv_goto (pc := 196) (tgt := 41) hx hb dX5_tells_196 (by decide) ?_
              exact ih _ _ _ _ _ hf _ _ _ h (lv_sub hl [1, 2, 3, 0] rfl) kk
      · have hf := ifT c9 hf
        refine lv_aload_n (pc := 60) hx hb dX5_tells_60 rfl (lv_at hl 0 rfl) ?_
        refine lv_iconst (pc := 61) (v := 1) hx hb dX5_tells_61 (by decide) ?_
        obtain ⟨t5, et5, hf⟩ := ltS hf
        refine g_puti (pc := 62) (v := (1 : Int32)) (ws' := (mW q cA t5)) C h 0 (mW_c0 _ _ _) fp_X5_92 (Nat.le_of_ble_eq_true rfl) ((mW_w0_18 _ _ _ _).trans (congrArg (mW q cA) et5.symm)) dX5_tells_62 (fun H locs h => ?_)
        refine lv_aload_n (pc := 65) hx hb dX5_tells_65 rfl (lv_at hl 0 rfl) ?_
        refine lv_iload_n (pc := 66) hx hb dX5_tells_66 rfl (lv_at hl 1 rfl) ?_
        refine lv_aload_n (pc := 67) hx hb dX5_tells_67 rfl (lv_at hl 0 rfl) ?_
        refine g_get (pc := 68) (v := .ref (q 10)) C h.1 0 (mW_c0 _ _ _) fl_X5_37 rfl dX5_tells_68 ?_
        refine lv_iload_n (pc := 71) hx hb dX5_tells_71 rfl (lv_at hl 3 rfl) ?_
        obtain ⟨hin, hf⟩ := ifS hf
        refine g_ild (pc := 72) (n := 300) (f := (t5 11)) C h.1 10 (mW_c10 _ _ _) hin dX5_tells_72 ?_
        obtain ⟨z6, hc6, hf⟩ := bdS hf
        refine call_VUs (pc := 73) (As := [.int x1, .int ((t5 11) x3.toNatClampNeg)]) (rest := []) C h (k_X5_opens t5 x1 ((t5 11) x3.toNatClampNeg) hc6) cw_X5_95 0 (mW_c0 _ _ _) rfl (mW_fst _ _ _ _) rfl rfl hl.1 (Nat.le_of_ble_eq_true rfl) dX5_tells_73 ⟨Nat.le_of_ble_eq_true rfl, Nat.le_of_ble_eq_true rfl⟩ rfl rfl ⟨Nat.le_of_ble_eq_true rfl, Nat.le_of_ble_eq_true rfl⟩ (fun H locs h => ?_)
        refine W.eq (g2 := F0 m 76 ls []) rfl ?_
        refine lv_goto (pc := 76) (tgt := 193) hx hb dX5_tells_76 (by decide) ?_
        refine lv_iinc (pc := 193) (v := (x3 + (1 : Int32))) (lv' := [(3, .int (x3 + (1 : Int32))), (0, .ref (q 0)), (1, .int x1), (2, .int x2)]) hx hb dX5_tells_193 hl (k := 3) rfl rfl (by decide) rfl (fun ls hl => ?_)
        refine lv_goto (pc := 196) (tgt := 41) hx hb dX5_tells_196 (by decide) ?_
        exact ih _ _ _ _ _ hf _ _ _ h (lv_sub hl [1, 2, 3, 0] rfl) kk
set_option maxHeartbeats 400000 in
set_option maxRecDepth 100000 in
theorem k_X5_tells {q : Nat → Nat} {cA : Nat → ClassId} {D : va_G} (σ : Nat → Nat → Int32) (x1 x2 : Int32) {z : (Nat → Nat → Int32)} (hf : f_X5_tells σ x1 x2 = some z) : CtU yX5_tells cX5_tells 4 none rm_X5_tells [.ref (q 0), .int x1, .int x2] D cA (mW q cA σ) (mW q cA z) none 0 0 := by
  refine ctU_of (by decide) (Nat.le_of_ble_eq_true rfl) ?_
  intro p l e s m below meth c ls C hr hnm h hl
  have C : Cx p s m _ meth c cX5_tells 4 RX5 D cA := C
  obtain ⟨hx, hb, hml, hown, hts, hK, hlk⟩ := id C
  replace hl : lv_has ls 4 [(0, .ref (q 0)), (1, .int x1), (2, .int x2)] := hl
  rw [f_X5_tells] at hf
  refine lv_aload_n (pc := 0) hx hb dX5_tells_0 rfl (lv_at hl 0 rfl) ?_
  refine lv_iconst (pc := 1) (v := 0) hx hb dX5_tells_1 (by decide) ?_
  obtain ⟨t1, et1, hf⟩ := ltS hf
  refine g_puti (pc := 2) (v := (0 : Int32)) (ws' := (mW q cA t1)) C h 0 (mW_c0 _ _ _) fp_X5_92 (Nat.le_of_ble_eq_true rfl) ((mW_w0_18 _ _ _ _).trans (congrArg (mW q cA) et1.symm)) dX5_tells_2 (fun H locs h => ?_)
  refine lv_aload_n (pc := 5) hx hb dX5_tells_5 rfl (lv_at hl 0 rfl) ?_
  refine lv_iconst (pc := 6) (v := 0) hx hb dX5_tells_6 (by decide) ?_
  obtain ⟨t2, et2, hf⟩ := ltS hf
  refine g_puti (pc := 7) (v := (0 : Int32)) (ws' := (mW q cA t2)) C h 0 (mW_c0 _ _ _) fp_X5_89 (Nat.le_of_ble_eq_true rfl) ((mW_w0_19 _ _ _ _).trans (congrArg (mW q cA) et2.symm)) dX5_tells_7 (fun H locs h => ?_)
  refine lv_aload_n (pc := 10) hx hb dX5_tells_10 rfl (lv_at hl 0 rfl) ?_
  refine lv_iconst (pc := 11) (v := 0) hx hb dX5_tells_11 (by decide) ?_
  obtain ⟨t3, et3, hf⟩ := ltS hf
  refine g_puti (pc := 12) (v := (0 : Int32)) (ws' := (mW q cA t3)) C h 0 (mW_c0 _ _ _) fp_X5_82 (Nat.le_of_ble_eq_true rfl) ((mW_w0_20 _ _ _ _).trans (congrArg (mW q cA) et3.symm)) dX5_tells_12 (fun H locs h => ?_)
  refine lv_iconst (pc := 15) (v := 0) hx hb dX5_tells_15 (by decide) ?_
  refine lv_istore_n (pc := 16) (lv' := [(3, .int (0 : Int32)), (0, .ref (q 0)), (1, .int x1), (2, .int x2)]) hx hb dX5_tells_16 rfl hl (by decide) rfl (fun ls hl => ?_)
  obtain ⟨z4, hc4, hf⟩ := bdS hf
  refine l_X5_tells_17 C _ _ _ _ _ _ hc4 _ _ _ h (lv_sub hl [1, 2, 3, 0] rfl) (fun H locs ls h hl => ?_)
  refine lv_bipush (pc := 36) (v := 50) hx hb dX5_tells_36 (by decide) ?_
  refine lv_iload_n (pc := 38) hx hb dX5_tells_38 rfl (lv_at hl 1 rfl) ?_
  refine lv_imul (pc := 39) hx hb dX5_tells_39 ?_
  refine lv_istore_n (pc := 40) (lv' := [(3, .int ((50 : Int32) * x1)), (0, .ref (q 0)), (1, .int x1), (2, .int x2)]) hx hb dX5_tells_40 rfl hl (by decide) rfl (fun ls hl => ?_)
  obtain ⟨z5, hc5, hf⟩ := bdS hf
  refine l_X5_tells_41 C _ _ _ _ _ _ hc5 _ _ _ h (lv_sub hl [1, 2, 3, 0] rfl) (fun H locs ls h hl => ?_)
  have hf : (some z5.1) = some z := hf
  cases hf
  exact ret_vU (pc := 199) C hr h dX5_tells_199
abbrev rm_X5_looks : Room := { frames := 3, cells := 0, slots := 0, locals := 68 }
def f_X5_looks (σ : Nat → Nat → Int32) (x1 : Int32) : Option ((Nat → Nat → Int32)) := (if inb x1 6 then ((f_X5_tells σ x1 ((σ 5) x1.toNatClampNeg)).bind fun z1 => (some z1)) else none)
set_option maxHeartbeats 400000 in
set_option maxRecDepth 100000 in
theorem k_X5_looks {q : Nat → Nat} {cA : Nat → ClassId} {D : va_G} (σ : Nat → Nat → Int32) (x1 : Int32) {z : (Nat → Nat → Int32)} (hf : f_X5_looks σ x1 = some z) : CtU yX5_looks cX5_looks 2 none rm_X5_looks [.ref (q 0), .int x1] D cA (mW q cA σ) (mW q cA z) none 0 0 := by
  refine ctU_of (by decide) (Nat.le_of_ble_eq_true rfl) ?_
  intro p l e s m below meth c ls C hr hnm h hl
  have C : Cx p s m _ meth c cX5_looks 2 RX5 D cA := C
  obtain ⟨hx, hb, hml, hown, hts, hK, hlk⟩ := id C
  replace hl : lv_has ls 2 [(0, .ref (q 0)), (1, .int x1)] := hl
  rw [f_X5_looks] at hf
  refine lv_aload_n (pc := 0) hx hb dX5_looks_0 rfl (lv_at hl 0 rfl) ?_
  refine lv_iload_n (pc := 1) hx hb dX5_looks_1 rfl (lv_at hl 1 rfl) ?_
  refine lv_aload_n (pc := 2) hx hb dX5_looks_2 rfl (lv_at hl 0 rfl) ?_
  refine g_get (pc := 3) (v := .ref (q 4)) C h.1 0 (mW_c0 _ _ _) fl_X5_19 rfl dX5_looks_3 ?_
  refine lv_iload_n (pc := 6) hx hb dX5_looks_6 rfl (lv_at hl 1 rfl) ?_
  obtain ⟨hin, hf⟩ := ifS hf
  refine g_ild (pc := 7) (n := 6) (f := (σ 5)) C h.1 4 (mW_c4 _ _ _) hin dX5_looks_7 ?_
  obtain ⟨z1, hc1, hf⟩ := bdS hf
  refine call_VUs (pc := 8) (As := [.int x1, .int ((σ 5) x1.toNatClampNeg)]) (rest := []) C h (k_X5_tells σ x1 ((σ 5) x1.toNatClampNeg) hc1) cw_X5_106 0 (mW_c0 _ _ _) rfl (mW_fst _ _ _ _) rfl rfl hl.1 (Nat.le_of_ble_eq_true rfl) dX5_looks_8 ⟨Nat.le_of_ble_eq_true rfl, Nat.le_of_ble_eq_true rfl⟩ rfl rfl ⟨Nat.le_of_ble_eq_true rfl, Nat.le_of_ble_eq_true rfl⟩ (fun H locs h => ?_)
  refine W.eq (g2 := F0 m 11 ls []) rfl ?_
  have hf : (some z1) = some z := hf
  cases hf
  exact ret_vU (pc := 11) C hr h dX5_looks_11
abbrev rm_X5_isIn : Room := { frames := 4, cells := 0, slots := 0, locals := 89 }
def f_X5_isIn (σ : Nat → Nat → Int32) (x1 x2 : Int32) : Option (Int32 × (Nat → Nat → Int32)) := ((f_X5_looks σ x1).bind fun z1 => (if (z1 18 0) = x2 then (some ((1 : Int32), z1)) else (some ((0 : Int32), z1))))
set_option maxHeartbeats 400000 in
set_option maxRecDepth 100000 in
theorem k_X5_isIn {q : Nat → Nat} {cA : Nat → ClassId} {D : va_G} (σ : Nat → Nat → Int32) (x1 x2 : Int32) {z : Int32 × (Nat → Nat → Int32)} (hf : f_X5_isIn σ x1 x2 = some z) : CtU yX5_isIn cX5_isIn 3 (some .boolean) rm_X5_isIn [.ref (q 0), .int x1, .int x2] D cA (mW q cA σ) (mW q cA z.2) (some (.int z.1)) 0 0 := by
  refine ctU_of (by decide) (Nat.le_of_ble_eq_true rfl) ?_
  intro p l e s m below meth c ls C hr hnm h hl
  have C : Cx p s m _ meth c cX5_isIn 3 RX5 D cA := C
  obtain ⟨hx, hb, hml, hown, hts, hK, hlk⟩ := id C
  replace hl : lv_has ls 3 [(0, .ref (q 0)), (1, .int x1), (2, .int x2)] := hl
  rw [f_X5_isIn] at hf
  refine lv_aload_n (pc := 0) hx hb dX5_isIn_0 rfl (lv_at hl 0 rfl) ?_
  refine lv_iload_n (pc := 1) hx hb dX5_isIn_1 rfl (lv_at hl 1 rfl) ?_
  obtain ⟨z1, hc1, hf⟩ := bdS hf
  refine call_VUs (pc := 2) (As := [.int x1]) (rest := []) C h (k_X5_looks σ x1 hc1) cw_X5_109 0 (mW_c0 _ _ _) rfl (mW_fst _ _ _ _) rfl rfl hl.1 (Nat.le_of_ble_eq_true rfl) dX5_isIn_2 ⟨Nat.le_of_ble_eq_true rfl, Nat.le_of_ble_eq_true rfl⟩ rfl rfl ⟨Nat.le_of_ble_eq_true rfl, Nat.le_of_ble_eq_true rfl⟩ (fun H locs h => ?_)
  refine W.eq (g2 := F0 m 5 ls []) rfl ?_
  refine lv_aload_n (pc := 5) hx hb dX5_isIn_5 rfl (lv_at hl 0 rfl) ?_
  refine g_get (pc := 6) (v := .int (z1 18 0)) C h.1 0 (mW_c0 _ _ _) fl_X5_92 rfl dX5_isIn_6 ?_
  refine lv_iload_n (pc := 9) hx hb dX5_isIn_9 rfl (lv_at hl 2 rfl) ?_
  refine lv_icmp_ne (pc := 10) (tgt := 17) hx hb dX5_isIn_10 (by decide) (fun c9 => ?_) (fun c9 => ?_)
  · have hf := ifF c9 hf
    refine lv_iconst (pc := 17) (v := 0) hx hb dX5_isIn_17 (by decide) ?_
    have hf : (some ((0 : Int32), z1)) = some z := hf
    cases hf
    exact ret_zU (pc := 18) C hr nb0 h dX5_isIn_18
  · have hf := ifT c9 hf
    refine lv_iconst (pc := 13) (v := 1) hx hb dX5_isIn_13 (by decide) ?_
    refine lv_goto (pc := 14) (tgt := 18) hx hb dX5_isIn_14 (by decide) ?_
    have hf : (some ((1 : Int32), z1)) = some z := hf
    cases hf
    exact ret_zU (pc := 18) C hr nb1 h dX5_isIn_18
theorem nb_X5_isIn {σ : Nat → Nat → Int32} {x1 x2 : Int32} {z : Int32 × (Nat → Nat → Int32)} (hf : f_X5_isIn σ x1 x2 = some z) : narrow .boolean (.int z.1) = .int z.1 := by
  rw [f_X5_isIn] at hf
  obtain ⟨z1, hc1, hf⟩ := bdS hf
  by_cases c9 : (z1 18 0) = x2
  · have hf := ifT c9 hf
    have hf : (some ((1 : Int32), z1)) = some z := hf
    cases hf
    exact nb1
  · have hf := ifF c9 hf
    have hf : (some ((0 : Int32), z1)) = some z := hf
    cases hf
    exact nb0
abbrev rm_X5_open : Room := { frames := 0, cells := 0, slots := 0, locals := 0 }
def f_X5_open (σ : Nat → Nat → Int32) : Int32 := (if (σ 18 0) = (1 : Int32) then ((σ 20 0) &&& ((σ 19 0) ^^^ (-1 : Int32))) else (0 : Int32))
set_option maxHeartbeats 400000 in
set_option maxRecDepth 100000 in
theorem k_X5_open {q : Nat → Nat} {cA : Nat → ClassId} {D : va_G} (σ : Nat → Nat → Int32) {z : Int32} (hf : f_X5_open σ = z) : CtR yX5_open cX5_open 1 (some .int) rm_X5_open [.ref (q 0)] D cA (mW q cA σ) (some (.int z)) 0 0 := by
  refine ctR_of (by decide) (Nat.le_of_ble_eq_true rfl) ?_
  intro p l e s m below meth c ls C hr hnm h hl
  have C : Cx p s m _ meth c cX5_open 1 RX5 D cA := C
  obtain ⟨hx, hb, hml, hown, hts, hK, hlk⟩ := id C
  replace hl : lv_has ls 1 [(0, .ref (q 0))] := hl
  rw [f_X5_open] at hf
  refine lv_aload_n (pc := 0) hx hb dX5_open_0 rfl (lv_at hl 0 rfl) ?_
  refine g_get (pc := 1) (v := .int (σ 18 0)) C h.1 0 (mW_c0 _ _ _) fl_X5_92 rfl dX5_open_1 ?_
  refine lv_iconst (pc := 4) (v := 1) hx hb dX5_open_4 (by decide) ?_
  refine lv_icmp_ne (pc := 5) (tgt := 22) hx hb dX5_open_5 (by decide) (fun c9 => ?_) (fun c9 => ?_)
  · have hf := ifF c9 hf
    refine lv_iconst (pc := 22) (v := 0) hx hb dX5_open_22 (by decide) ?_
    have hf : (0 : Int32) = z := hf
    subst hf
    exact ret_iR (pc := 23) C hr h dX5_open_23
  · have hf := ifT c9 hf
    refine lv_aload_n (pc := 8) hx hb dX5_open_8 rfl (lv_at hl 0 rfl) ?_
    refine g_get (pc := 9) (v := .int (σ 20 0)) C h.1 0 (mW_c0 _ _ _) fl_X5_82 rfl dX5_open_9 ?_
    refine lv_aload_n (pc := 12) hx hb dX5_open_12 rfl (lv_at hl 0 rfl) ?_
    refine g_get (pc := 13) (v := .int (σ 19 0)) C h.1 0 (mW_c0 _ _ _) fl_X5_89 rfl dX5_open_13 ?_
    refine lv_iconst (pc := 16) (v := -1) hx hb dX5_open_16 (by decide) ?_
    refine lv_ixor (pc := 17) hx hb dX5_open_17 ?_
    refine lv_iand (pc := 18) hx hb dX5_open_18 ?_
    refine lv_goto (pc := 19) (tgt := 23) hx hb dX5_open_19 (by decide) ?_
    have hf : ((σ 20 0) &&& ((σ 19 0) ^^^ (-1 : Int32))) = z := hf
    subst hf
    exact ret_iR (pc := 23) C hr h dX5_open_23
abbrev rm_X5_notes : Room := { frames := 0, cells := 0, slots := 0, locals := 0 }
def f_X5_notes (σ : Nat → Nat → Int32) (x1 x2 x3 x4 : Int32) : Option ((Nat → Nat → Int32)) := (if inb x1 6 then (if inb (((50 : Int32) * x1) + ((σ 5) x1.toNatClampNeg)) 300 then (lt (va_up σ 8 (upd (σ 8) (((50 : Int32) * x1) + ((σ 5) x1.toNatClampNeg)).toNatClampNeg x2)) fun t1 => (if inb (((50 : Int32) * x1) + ((σ 5) x1.toNatClampNeg)) 300 then (lt (va_up t1 9 (upd (t1 9) (((50 : Int32) * x1) + ((σ 5) x1.toNatClampNeg)).toNatClampNeg x3)) fun t2 => (if inb (((50 : Int32) * x1) + ((σ 5) x1.toNatClampNeg)) 300 then (lt (va_up t2 10 (upd (t2 10) (((50 : Int32) * x1) + ((σ 5) x1.toNatClampNeg)).toNatClampNeg x4)) fun t3 => (if inb (((50 : Int32) * x1) + ((σ 5) x1.toNatClampNeg)) 300 then (lt (va_up t3 11 (upd (t3 11) (((50 : Int32) * x1) + ((σ 5) x1.toNatClampNeg)).toNatClampNeg (t3 0 0))) fun t4 => (if inb x1 6 then (if inb x1 6 then (lt (va_up t4 5 (upd (t4 5) x1.toNatClampNeg (((t4 5) x1.toNatClampNeg) + (1 : Int32)))) fun t5 => (some t5)) else none) else none)) else none)) else none)) else none)) else none) else none)
set_option maxHeartbeats 400000 in
set_option maxRecDepth 100000 in
theorem k_X5_notes {q : Nat → Nat} {cA : Nat → ClassId} {D : va_G} (σ : Nat → Nat → Int32) (x1 x2 x3 x4 : Int32) {z : (Nat → Nat → Int32)} (hf : f_X5_notes σ x1 x2 x3 x4 = some z) : CtU yX5_notes cX5_notes 6 none rm_X5_notes [.ref (q 0), .int x1, .int x2, .int x3, .int x4] D cA (mW q cA σ) (mW q cA z) none 0 0 := by
  refine ctU_of (by decide) (Nat.le_of_ble_eq_true rfl) ?_
  intro p l e s m below meth c ls C hr hnm h hl
  have C : Cx p s m _ meth c cX5_notes 6 RX5 D cA := C
  obtain ⟨hx, hb, hml, hown, hts, hK, hlk⟩ := id C
  replace hl : lv_has ls 6 [(0, .ref (q 0)), (1, .int x1), (2, .int x2), (3, .int x3), (4, .int x4)] := hl
  rw [f_X5_notes] at hf
  refine lv_bipush (pc := 0) (v := 50) hx hb dX5_notes_0 (by decide) ?_
  refine lv_iload_n (pc := 2) hx hb dX5_notes_2 rfl (lv_at hl 1 rfl) ?_
  refine lv_imul (pc := 3) hx hb dX5_notes_3 ?_
  refine lv_aload_n (pc := 4) hx hb dX5_notes_4 rfl (lv_at hl 0 rfl) ?_
  refine g_get (pc := 5) (v := .ref (q 4)) C h.1 0 (mW_c0 _ _ _) fl_X5_19 rfl dX5_notes_5 ?_
  refine lv_iload_n (pc := 8) hx hb dX5_notes_8 rfl (lv_at hl 1 rfl) ?_
  obtain ⟨hin, hf⟩ := ifS hf
  refine g_ild (pc := 9) (n := 6) (f := (σ 5)) C h.1 4 (mW_c4 _ _ _) hin dX5_notes_9 ?_
  refine lv_iadd (pc := 10) hx hb dX5_notes_10 ?_
  refine lv_istore (pc := 11) (lv' := [(5, .int (((50 : Int32) * x1) + ((σ 5) x1.toNatClampNeg))), (0, .ref (q 0)), (1, .int x1), (2, .int x2), (3, .int x3), (4, .int x4)]) hx hb dX5_notes_11 hl (by decide) rfl (fun ls hl => ?_)
  refine lv_aload_n (pc := 13) hx hb dX5_notes_13 rfl (lv_at hl 1 rfl) ?_
  refine g_get (pc := 14) (v := .ref (q 7)) C h.1 0 (mW_c0 _ _ _) fl_X5_28 rfl dX5_notes_14 ?_
  refine lv_iload (pc := 17) hx hb dX5_notes_17 (lv_at hl 0 rfl) ?_
  refine lv_iload_n (pc := 19) hx hb dX5_notes_19 rfl (lv_at hl 3 rfl) ?_
  obtain ⟨hin, hf⟩ := ifS hf
  obtain ⟨t1, et1, hf⟩ := ltS hf
  refine g_ist (pc := 20) (n := 300) (f := (σ 8)) (ws' := (mW q cA t1)) C h 7 (mW_c7 _ _ _) hin ((mW_w7 _ _ _ _).trans (congrArg (mW q cA) et1.symm)) dX5_notes_20 (fun H locs h => ?_)
  refine lv_aload_n (pc := 21) hx hb dX5_notes_21 rfl (lv_at hl 1 rfl) ?_
  refine g_get (pc := 22) (v := .ref (q 8)) C h.1 0 (mW_c0 _ _ _) fl_X5_31 rfl dX5_notes_22 ?_
  refine lv_iload (pc := 25) hx hb dX5_notes_25 (lv_at hl 0 rfl) ?_
  refine lv_iload_n (pc := 27) hx hb dX5_notes_27 rfl (lv_at hl 4 rfl) ?_
  obtain ⟨hin, hf⟩ := ifS hf
  obtain ⟨t2, et2, hf⟩ := ltS hf
  refine g_ist (pc := 28) (n := 300) (f := (t1 9)) (ws' := (mW q cA t2)) C h 8 (mW_c8 _ _ _) hin ((mW_w8 _ _ _ _).trans (congrArg (mW q cA) et2.symm)) dX5_notes_28 (fun H locs h => ?_)
  refine lv_aload_n (pc := 29) hx hb dX5_notes_29 rfl (lv_at hl 1 rfl) ?_
  refine g_get (pc := 30) (v := .ref (q 9)) C h.1 0 (mW_c0 _ _ _) fl_X5_34 rfl dX5_notes_30 ?_
  refine lv_iload (pc := 33) hx hb dX5_notes_33 (lv_at hl 0 rfl) ?_
  refine lv_iload (pc := 35) hx hb dX5_notes_35 (lv_at hl 5 rfl) ?_
  obtain ⟨hin, hf⟩ := ifS hf
  obtain ⟨t3, et3, hf⟩ := ltS hf
  refine g_ist (pc := 37) (n := 300) (f := (t2 10)) (ws' := (mW q cA t3)) C h 9 (mW_c9 _ _ _) hin ((mW_w9 _ _ _ _).trans (congrArg (mW q cA) et3.symm)) dX5_notes_37 (fun H locs h => ?_)
  refine lv_aload_n (pc := 38) hx hb dX5_notes_38 rfl (lv_at hl 1 rfl) ?_
  refine g_get (pc := 39) (v := .ref (q 10)) C h.1 0 (mW_c0 _ _ _) fl_X5_37 rfl dX5_notes_39 ?_
  refine lv_iload (pc := 42) hx hb dX5_notes_42 (lv_at hl 0 rfl) ?_
  refine lv_aload_n (pc := 44) hx hb dX5_notes_44 rfl (lv_at hl 1 rfl) ?_
  refine g_get (pc := 45) (v := .int (t3 0 0)) C h.1 0 (mW_c0 _ _ _) fl_X5_113 rfl dX5_notes_45 ?_
  obtain ⟨hin, hf⟩ := ifS hf
  obtain ⟨t4, et4, hf⟩ := ltS hf
  refine g_ist (pc := 48) (n := 300) (f := (t3 11)) (ws' := (mW q cA t4)) C h 10 (mW_c10 _ _ _) hin ((mW_w10 _ _ _ _).trans (congrArg (mW q cA) et4.symm)) dX5_notes_48 (fun H locs h => ?_)
  refine lv_aload_n (pc := 49) hx hb dX5_notes_49 rfl (lv_at hl 1 rfl) ?_
  refine g_get (pc := 50) (v := .ref (q 4)) C h.1 0 (mW_c0 _ _ _) fl_X5_19 rfl dX5_notes_50 ?_
  refine lv_iload_n (pc := 53) hx hb dX5_notes_53 rfl (lv_at hl 2 rfl) ?_
  refine lv_dup2_11 (pc := 54) hx hb dX5_notes_54 rfl rfl ?_
  obtain ⟨hin, hf⟩ := ifS hf
  refine g_ild (pc := 55) (n := 6) (f := (t4 5)) C h.1 4 (mW_c4 _ _ _) hin dX5_notes_55 ?_
  refine lv_iconst (pc := 56) (v := 1) hx hb dX5_notes_56 (by decide) ?_
  refine lv_iadd (pc := 57) hx hb dX5_notes_57 ?_
  obtain ⟨hin, hf⟩ := ifS hf
  obtain ⟨t5, et5, hf⟩ := ltS hf
  refine g_ist (pc := 58) (n := 6) (f := (t4 5)) (ws' := (mW q cA t5)) C h 4 (mW_c4 _ _ _) hin ((mW_w4 _ _ _ _).trans (congrArg (mW q cA) et5.symm)) dX5_notes_58 (fun H locs h => ?_)
  have hf : (some t5) = some z := hf
  cases hf
  exact ret_vU (pc := 59) C hr h dX5_notes_59
abbrev rm_X5_closes : Room := { frames := 4, cells := 0, slots := 0, locals := 89 }
def f_X5_closes (σ : Nat → Nat → Int32) (x1 x2 x3 x4 : Int32) : Option (Int32 × (Nat → Nat → Int32)) := ((f_X5_looks σ x1).bind fun z1 => ((f_X5_notes z1 x1 x2 x3 x4).bind fun z2 => ((f_X5_all z2 x1).bind fun z3 => ((f_X5_many (z3 &&& ((z2 19 0) ^^^ (-1 : Int32)))).bind fun z4 => (some (z4, z2))))))
set_option maxHeartbeats 400000 in
set_option maxRecDepth 100000 in
theorem k_X5_closes {q : Nat → Nat} {cA : Nat → ClassId} {D : va_G} (σ : Nat → Nat → Int32) (x1 x2 x3 x4 : Int32) {z : Int32 × (Nat → Nat → Int32)} (hf : f_X5_closes σ x1 x2 x3 x4 = some z) : CtU yX5_closes cX5_closes 5 (some .int) rm_X5_closes [.ref (q 0), .int x1, .int x2, .int x3, .int x4] D cA (mW q cA σ) (mW q cA z.2) (some (.int z.1)) 0 0 := by
  refine ctU_of (by decide) (Nat.le_of_ble_eq_true rfl) ?_
  intro p l e s m below meth c ls C hr hnm h hl
  have C : Cx p s m _ meth c cX5_closes 5 RX5 D cA := C
  obtain ⟨hx, hb, hml, hown, hts, hK, hlk⟩ := id C
  replace hl : lv_has ls 5 [(0, .ref (q 0)), (1, .int x1), (2, .int x2), (3, .int x3), (4, .int x4)] := hl
  rw [f_X5_closes] at hf
  refine lv_aload_n (pc := 0) hx hb dX5_closes_0 rfl (lv_at hl 0 rfl) ?_
  refine lv_iload_n (pc := 1) hx hb dX5_closes_1 rfl (lv_at hl 1 rfl) ?_
  obtain ⟨z1, hc1, hf⟩ := bdS hf
  refine call_VUs (pc := 2) (As := [.int x1]) (rest := []) C h (k_X5_looks σ x1 hc1) cw_X5_109 0 (mW_c0 _ _ _) rfl (mW_fst _ _ _ _) rfl rfl hl.1 (Nat.le_of_ble_eq_true rfl) dX5_closes_2 ⟨Nat.le_of_ble_eq_true rfl, Nat.le_of_ble_eq_true rfl⟩ rfl rfl ⟨Nat.le_of_ble_eq_true rfl, Nat.le_of_ble_eq_true rfl⟩ (fun H locs h => ?_)
  refine W.eq (g2 := F0 m 5 ls []) rfl ?_
  refine lv_aload_n (pc := 5) hx hb dX5_closes_5 rfl (lv_at hl 0 rfl) ?_
  refine lv_iload_n (pc := 6) hx hb dX5_closes_6 rfl (lv_at hl 1 rfl) ?_
  refine lv_iload_n (pc := 7) hx hb dX5_closes_7 rfl (lv_at hl 2 rfl) ?_
  refine lv_iload_n (pc := 8) hx hb dX5_closes_8 rfl (lv_at hl 3 rfl) ?_
  refine lv_iload (pc := 9) hx hb dX5_closes_9 (lv_at hl 4 rfl) ?_
  obtain ⟨z2, hc2, hf⟩ := bdS hf
  refine call_VUs (pc := 11) (As := [.int x1, .int x2, .int x3, .int x4]) (rest := []) C h (k_X5_notes z1 x1 x2 x3 x4 hc2) cw_X5_116 0 (mW_c0 _ _ _) rfl (mW_fst _ _ _ _) rfl rfl hl.1 (Nat.le_of_ble_eq_true rfl) dX5_closes_11 ⟨Nat.le_of_ble_eq_true rfl, Nat.le_of_ble_eq_true rfl⟩ rfl rfl ⟨Nat.le_of_ble_eq_true rfl, Nat.le_of_ble_eq_true rfl⟩ (fun H locs h => ?_)
  refine W.eq (g2 := F0 m 14 ls []) rfl ?_
  refine lv_aload_n (pc := 14) hx hb dX5_closes_14 rfl (lv_at hl 0 rfl) ?_
  refine lv_iload_n (pc := 15) hx hb dX5_closes_15 rfl (lv_at hl 1 rfl) ?_
  obtain ⟨z3, hc3, hf⟩ := bdS hf
  refine call_VRs (pc := 16) (As := [.int x1]) (rest := []) C h (k_X5_all z2 x1 hc3) cw_X5_99 0 (mW_c0 _ _ _) rfl rfl rfl hl.1 (Nat.le_of_ble_eq_true rfl) dX5_closes_16 ⟨Nat.le_of_ble_eq_true rfl, Nat.le_of_ble_eq_true rfl⟩ rfl rfl ⟨Nat.le_of_ble_eq_true rfl, Nat.le_of_ble_eq_true rfl⟩ (fun H locs h => ?_)
  refine W.eq (g2 := F0 m 19 ls [.int z3]) rfl ?_
  refine lv_aload_n (pc := 19) hx hb dX5_closes_19 rfl (lv_at hl 0 rfl) ?_
  refine g_get (pc := 20) (v := .int (z2 19 0)) C h.1 0 (mW_c0 _ _ _) fl_X5_89 rfl dX5_closes_20 ?_
  refine lv_iconst (pc := 23) (v := -1) hx hb dX5_closes_23 (by decide) ?_
  refine lv_ixor (pc := 24) hx hb dX5_closes_24 ?_
  refine lv_iand (pc := 25) hx hb dX5_closes_25 ?_
  obtain ⟨z4, hc4, hf⟩ := bdS hf
  refine call_SR (pc := 26) (As := [.int (z3 &&& ((z2 19 0) ^^^ (-1 : Int32)))]) (rest := []) (wc := []) C h (k_X5_many (z3 &&& ((z2 19 0) ^^^ (-1 : Int32))) hc4) cw_X5_120 [] rfl rfl rfl rfl hl.1 (Nat.le_of_ble_eq_true rfl) dX5_closes_26 ⟨Nat.le_of_ble_eq_true rfl, Nat.le_of_ble_eq_true rfl⟩ rfl rfl ⟨Nat.le_of_ble_eq_true rfl, Nat.le_of_ble_eq_true rfl⟩ (fun H locs h => ?_)
  refine W.eq (g2 := F0 m 29 ls [.int z4]) rfl ?_
  have hf : (some (z4, z2)) = some z := hf
  cases hf
  exact ret_iU (pc := 29) C hr h dX5_closes_29
abbrev rm_X5_draft : Room := { frames := 1, cells := 0, slots := 0, locals := 23 }
def f_X5_draft (σ : Nat → Nat → Int32) : Int32 × (Nat → Nat → Int32) := (if (6 : Int32) ≤ (σ 1 0) then (if (f_X5_goes σ (0 : Int32) (1 : Int32) (1 : Int32)).1 = 0 then ((0 : Int32), (f_X5_goes σ (0 : Int32) (1 : Int32) (1 : Int32)).2) else (lt (va_up (f_X5_goes σ (0 : Int32) (1 : Int32) (1 : Int32)).2 1 (fun _ => (((f_X5_goes σ (0 : Int32) (1 : Int32) (1 : Int32)).2 1 0) + (1 : Int32)))) fun t1 => (((t1 1 0) - (1 : Int32)), t1))) else (if (f_X5_goes σ (1 : Int32) (1 : Int32) (1 : Int32)).1 = 0 then ((0 : Int32), (f_X5_goes σ (1 : Int32) (1 : Int32) (1 : Int32)).2) else (lt (va_up (f_X5_goes σ (1 : Int32) (1 : Int32) (1 : Int32)).2 1 (fun _ => (((f_X5_goes σ (1 : Int32) (1 : Int32) (1 : Int32)).2 1 0) + (1 : Int32)))) fun t1 => (((t1 1 0) - (1 : Int32)), t1))))
set_option maxHeartbeats 400000 in
set_option maxRecDepth 100000 in
theorem k_X5_draft {q : Nat → Nat} {cA : Nat → ClassId} {D : va_G} (σ : Nat → Nat → Int32) {z : Int32 × (Nat → Nat → Int32)} (hf : f_X5_draft σ = z) : CtU yX5_draft cX5_draft 1 (some .int) rm_X5_draft [.ref (q 0)] D cA (mW q cA σ) (mW q cA z.2) (some (.int z.1)) 0 0 := by
  refine ctU_of (by decide) (Nat.le_of_ble_eq_true rfl) ?_
  intro p l e s m below meth c ls C hr hnm h hl
  have C : Cx p s m _ meth c cX5_draft 1 RX5 D cA := C
  obtain ⟨hx, hb, hml, hown, hts, hK, hlk⟩ := id C
  replace hl : lv_has ls 1 [(0, .ref (q 0))] := hl
  rw [f_X5_draft] at hf
  refine lv_aload_n (pc := 0) hx hb dX5_draft_0 rfl (lv_at hl 0 rfl) ?_
  refine lv_aload_n (pc := 1) hx hb dX5_draft_1 rfl (lv_at hl 0 rfl) ?_
  refine g_get (pc := 2) (v := .int (σ 1 0)) C h.1 0 (mW_c0 _ _ _) fl_X5_75 rfl dX5_draft_2 ?_
  refine lv_bipush (pc := 5) (v := 6) hx hb dX5_draft_5 (by decide) ?_
  refine lv_icmp_ge (pc := 7) (tgt := 14) hx hb dX5_draft_7 (by decide) (fun c9 => ?_) (fun c9 => ?_)
  · have hf := ifT c9 hf
    refine lv_iconst (pc := 14) (v := 0) hx hb dX5_draft_14 (by decide) ?_
    refine lv_iconst (pc := 15) (v := 1) hx hb dX5_draft_15 (by decide) ?_
    refine lv_iconst (pc := 16) (v := 1) hx hb dX5_draft_16 (by decide) ?_
    refine call_VUs (pc := 17) (As := [.int (0 : Int32), .int (1 : Int32), .int (1 : Int32)]) (rest := []) C h (k_X5_goes σ (0 : Int32) (1 : Int32) (1 : Int32) rfl) cw_X5_123 0 (mW_c0 _ _ _) rfl (mW_fst _ _ _ _) rfl rfl hl.1 (Nat.le_of_ble_eq_true rfl) dX5_draft_17 ⟨Nat.le_of_ble_eq_true rfl, Nat.le_of_ble_eq_true rfl⟩ rfl rfl ⟨Nat.le_of_ble_eq_true rfl, Nat.le_of_ble_eq_true rfl⟩ (fun H locs h => ?_)
    refine W.eq (g2 := F0 m 20 ls [.int (f_X5_goes σ (0 : Int32) (1 : Int32) (1 : Int32)).1]) rfl ?_
    refine lv_if_ne (pc := 20) (tgt := 25) hx hb dX5_draft_20 (by decide) (fun c9 => ?_) (fun c9 => ?_)
    · have hf := ifF c9 hf
      refine lv_aload_n (pc := 25) hx hb dX5_draft_25 rfl (lv_at hl 0 rfl) ?_
      refine lv_dup (pc := 26) hx hb dX5_draft_26 rfl ?_
      refine g_get (pc := 27) (v := .int ((f_X5_goes σ (0 : Int32) (1 : Int32) (1 : Int32)).2 1 0)) C h.1 0 (mW_c0 _ _ _) fl_X5_75 rfl dX5_draft_27 ?_
      refine lv_iconst (pc := 30) (v := 1) hx hb dX5_draft_30 (by decide) ?_
      refine lv_iadd (pc := 31) hx hb dX5_draft_31 ?_
      obtain ⟨t1, et1, hf⟩ := ltS hf
      refine g_puti (pc := 32) (v := (((f_X5_goes σ (0 : Int32) (1 : Int32) (1 : Int32)).2 1 0) + (1 : Int32))) (ws' := (mW q cA t1)) C h 0 (mW_c0 _ _ _) fp_X5_75 (Nat.le_of_ble_eq_true rfl) ((mW_w0_1 _ _ _ _).trans (congrArg (mW q cA) et1.symm)) dX5_draft_32 (fun H locs h => ?_)
      refine lv_aload_n (pc := 35) hx hb dX5_draft_35 rfl (lv_at hl 0 rfl) ?_
      refine g_get (pc := 36) (v := .int (t1 1 0)) C h.1 0 (mW_c0 _ _ _) fl_X5_75 rfl dX5_draft_36 ?_
      refine lv_iconst (pc := 39) (v := 1) hx hb dX5_draft_39 (by decide) ?_
      refine lv_isub (pc := 40) hx hb dX5_draft_40 ?_
      have hf : (((t1 1 0) - (1 : Int32)), t1) = z := hf
      subst hf
      exact ret_iU (pc := 41) C hr h dX5_draft_41
    · have hf := ifT c9 hf
      refine lv_iconst (pc := 23) (v := 0) hx hb dX5_draft_23 (by decide) ?_
      have hf : ((0 : Int32), (f_X5_goes σ (0 : Int32) (1 : Int32) (1 : Int32)).2) = z := hf
      subst hf
      exact ret_iU (pc := 24) C hr h dX5_draft_24
  · have hf := ifF c9 hf
    refine lv_iconst (pc := 10) (v := 1) hx hb dX5_draft_10 (by decide) ?_
    refine lv_goto (pc := 11) (tgt := 15) hx hb dX5_draft_11 (by decide) ?_
    refine lv_iconst (pc := 15) (v := 1) hx hb dX5_draft_15 (by decide) ?_
    refine lv_iconst (pc := 16) (v := 1) hx hb dX5_draft_16 (by decide) ?_
    refine call_VUs (pc := 17) (As := [.int (1 : Int32), .int (1 : Int32), .int (1 : Int32)]) (rest := []) C h (k_X5_goes σ (1 : Int32) (1 : Int32) (1 : Int32) rfl) cw_X5_123 0 (mW_c0 _ _ _) rfl (mW_fst _ _ _ _) rfl rfl hl.1 (Nat.le_of_ble_eq_true rfl) dX5_draft_17 ⟨Nat.le_of_ble_eq_true rfl, Nat.le_of_ble_eq_true rfl⟩ rfl rfl ⟨Nat.le_of_ble_eq_true rfl, Nat.le_of_ble_eq_true rfl⟩ (fun H locs h => ?_)
    refine W.eq (g2 := F0 m 20 ls [.int (f_X5_goes σ (1 : Int32) (1 : Int32) (1 : Int32)).1]) rfl ?_
    refine lv_if_ne (pc := 20) (tgt := 25) hx hb dX5_draft_20 (by decide) (fun c9 => ?_) (fun c9 => ?_)
    · have hf := ifF c9 hf
      refine lv_aload_n (pc := 25) hx hb dX5_draft_25 rfl (lv_at hl 0 rfl) ?_
      refine lv_dup (pc := 26) hx hb dX5_draft_26 rfl ?_
      refine g_get (pc := 27) (v := .int ((f_X5_goes σ (1 : Int32) (1 : Int32) (1 : Int32)).2 1 0)) C h.1 0 (mW_c0 _ _ _) fl_X5_75 rfl dX5_draft_27 ?_
      refine lv_iconst (pc := 30) (v := 1) hx hb dX5_draft_30 (by decide) ?_
      refine lv_iadd (pc := 31) hx hb dX5_draft_31 ?_
      obtain ⟨t1, et1, hf⟩ := ltS hf
      refine g_puti (pc := 32) (v := (((f_X5_goes σ (1 : Int32) (1 : Int32) (1 : Int32)).2 1 0) + (1 : Int32))) (ws' := (mW q cA t1)) C h 0 (mW_c0 _ _ _) fp_X5_75 (Nat.le_of_ble_eq_true rfl) ((mW_w0_1 _ _ _ _).trans (congrArg (mW q cA) et1.symm)) dX5_draft_32 (fun H locs h => ?_)
      refine lv_aload_n (pc := 35) hx hb dX5_draft_35 rfl (lv_at hl 0 rfl) ?_
      refine g_get (pc := 36) (v := .int (t1 1 0)) C h.1 0 (mW_c0 _ _ _) fl_X5_75 rfl dX5_draft_36 ?_
      refine lv_iconst (pc := 39) (v := 1) hx hb dX5_draft_39 (by decide) ?_
      refine lv_isub (pc := 40) hx hb dX5_draft_40 ?_
      have hf : (((t1 1 0) - (1 : Int32)), t1) = z := hf
      subst hf
      exact ret_iU (pc := 41) C hr h dX5_draft_41
    · have hf := ifT c9 hf
      refine lv_iconst (pc := 23) (v := 0) hx hb dX5_draft_23 (by decide) ?_
      have hf : ((0 : Int32), (f_X5_goes σ (1 : Int32) (1 : Int32) (1 : Int32)).2) = z := hf
      subst hf
      exact ret_iU (pc := 24) C hr h dX5_draft_24
abbrev rm_X5_adds : Room := { frames := 0, cells := 0, slots := 0, locals := 0 }
def f_X5_adds (σ : Nat → Nat → Int32) (x1 x2 x3 : Int32) : Option (Int32 × (Nat → Nat → Int32)) := (if inb x1 6 then (if inb (((8 : Int32) * x1) + ((σ 2) x1.toNatClampNeg)) 48 then (lt (va_up σ 6 (upd (σ 6) (((8 : Int32) * x1) + ((σ 2) x1.toNatClampNeg)).toNatClampNeg x2)) fun t1 => (if inb x1 6 then (if inb (((8 : Int32) * x1) + ((t1 2) x1.toNatClampNeg)) 48 then (lt (va_up t1 7 (upd (t1 7) (((8 : Int32) * x1) + ((t1 2) x1.toNatClampNeg)).toNatClampNeg x3)) fun t2 => (if inb x1 6 then (if inb x1 6 then (lt (va_up t2 2 (upd (t2 2) x1.toNatClampNeg (((t2 2) x1.toNatClampNeg) + (1 : Int32)))) fun t3 => (if inb x1 6 then (some ((((t3 2) x1.toNatClampNeg) - (1 : Int32)), t3)) else none)) else none) else none)) else none) else none)) else none) else none)
set_option maxHeartbeats 400000 in
set_option maxRecDepth 100000 in
theorem k_X5_adds {q : Nat → Nat} {cA : Nat → ClassId} {D : va_G} (σ : Nat → Nat → Int32) (x1 x2 x3 : Int32) {z : Int32 × (Nat → Nat → Int32)} (hf : f_X5_adds σ x1 x2 x3 = some z) : CtU yX5_adds cX5_adds 4 (some .int) rm_X5_adds [.ref (q 0), .int x1, .int x2, .int x3] D cA (mW q cA σ) (mW q cA z.2) (some (.int z.1)) 0 0 := by
  refine ctU_of (by decide) (Nat.le_of_ble_eq_true rfl) ?_
  intro p l e s m below meth c ls C hr hnm h hl
  have C : Cx p s m _ meth c cX5_adds 4 RX5 D cA := C
  obtain ⟨hx, hb, hml, hown, hts, hK, hlk⟩ := id C
  replace hl : lv_has ls 4 [(0, .ref (q 0)), (1, .int x1), (2, .int x2), (3, .int x3)] := hl
  rw [f_X5_adds] at hf
  refine lv_aload_n (pc := 0) hx hb dX5_adds_0 rfl (lv_at hl 0 rfl) ?_
  refine g_get (pc := 1) (v := .ref (q 5)) C h.1 0 (mW_c0 _ _ _) fl_X5_22 rfl dX5_adds_1 ?_
  refine lv_bipush (pc := 4) (v := 8) hx hb dX5_adds_4 (by decide) ?_
  refine lv_iload_n (pc := 6) hx hb dX5_adds_6 rfl (lv_at hl 1 rfl) ?_
  refine lv_imul (pc := 7) hx hb dX5_adds_7 ?_
  refine lv_aload_n (pc := 8) hx hb dX5_adds_8 rfl (lv_at hl 0 rfl) ?_
  refine g_get (pc := 9) (v := .ref (q 1)) C h.1 0 (mW_c0 _ _ _) fl_X5_7 rfl dX5_adds_9 ?_
  refine lv_iload_n (pc := 12) hx hb dX5_adds_12 rfl (lv_at hl 1 rfl) ?_
  obtain ⟨hin, hf⟩ := ifS hf
  refine g_ild (pc := 13) (n := 6) (f := (σ 2)) C h.1 1 (mW_c1 _ _ _) hin dX5_adds_13 ?_
  refine lv_iadd (pc := 14) hx hb dX5_adds_14 ?_
  refine lv_iload_n (pc := 15) hx hb dX5_adds_15 rfl (lv_at hl 2 rfl) ?_
  obtain ⟨hin, hf⟩ := ifS hf
  obtain ⟨t1, et1, hf⟩ := ltS hf
  refine g_ist (pc := 16) (n := 48) (f := (σ 6)) (ws' := (mW q cA t1)) C h 5 (mW_c5 _ _ _) hin ((mW_w5 _ _ _ _).trans (congrArg (mW q cA) et1.symm)) dX5_adds_16 (fun H locs h => ?_)
  refine lv_aload_n (pc := 17) hx hb dX5_adds_17 rfl (lv_at hl 0 rfl) ?_
  refine g_get (pc := 18) (v := .ref (q 6)) C h.1 0 (mW_c0 _ _ _) fl_X5_25 rfl dX5_adds_18 ?_
  refine lv_bipush (pc := 21) (v := 8) hx hb dX5_adds_21 (by decide) ?_
  refine lv_iload_n (pc := 23) hx hb dX5_adds_23 rfl (lv_at hl 1 rfl) ?_
  refine lv_imul (pc := 24) hx hb dX5_adds_24 ?_
  refine lv_aload_n (pc := 25) hx hb dX5_adds_25 rfl (lv_at hl 0 rfl) ?_
  refine g_get (pc := 26) (v := .ref (q 1)) C h.1 0 (mW_c0 _ _ _) fl_X5_7 rfl dX5_adds_26 ?_
  refine lv_iload_n (pc := 29) hx hb dX5_adds_29 rfl (lv_at hl 1 rfl) ?_
  obtain ⟨hin, hf⟩ := ifS hf
  refine g_ild (pc := 30) (n := 6) (f := (t1 2)) C h.1 1 (mW_c1 _ _ _) hin dX5_adds_30 ?_
  refine lv_iadd (pc := 31) hx hb dX5_adds_31 ?_
  refine lv_iload_n (pc := 32) hx hb dX5_adds_32 rfl (lv_at hl 3 rfl) ?_
  obtain ⟨hin, hf⟩ := ifS hf
  obtain ⟨t2, et2, hf⟩ := ltS hf
  refine g_ist (pc := 33) (n := 48) (f := (t1 7)) (ws' := (mW q cA t2)) C h 6 (mW_c6 _ _ _) hin ((mW_w6 _ _ _ _).trans (congrArg (mW q cA) et2.symm)) dX5_adds_33 (fun H locs h => ?_)
  refine lv_aload_n (pc := 34) hx hb dX5_adds_34 rfl (lv_at hl 0 rfl) ?_
  refine g_get (pc := 35) (v := .ref (q 1)) C h.1 0 (mW_c0 _ _ _) fl_X5_7 rfl dX5_adds_35 ?_
  refine lv_iload_n (pc := 38) hx hb dX5_adds_38 rfl (lv_at hl 1 rfl) ?_
  refine lv_dup2_11 (pc := 39) hx hb dX5_adds_39 rfl rfl ?_
  obtain ⟨hin, hf⟩ := ifS hf
  refine g_ild (pc := 40) (n := 6) (f := (t2 2)) C h.1 1 (mW_c1 _ _ _) hin dX5_adds_40 ?_
  refine lv_iconst (pc := 41) (v := 1) hx hb dX5_adds_41 (by decide) ?_
  refine lv_iadd (pc := 42) hx hb dX5_adds_42 ?_
  obtain ⟨hin, hf⟩ := ifS hf
  obtain ⟨t3, et3, hf⟩ := ltS hf
  refine g_ist (pc := 43) (n := 6) (f := (t2 2)) (ws' := (mW q cA t3)) C h 1 (mW_c1 _ _ _) hin ((mW_w1 _ _ _ _).trans (congrArg (mW q cA) et3.symm)) dX5_adds_43 (fun H locs h => ?_)
  refine lv_aload_n (pc := 44) hx hb dX5_adds_44 rfl (lv_at hl 0 rfl) ?_
  refine g_get (pc := 45) (v := .ref (q 1)) C h.1 0 (mW_c0 _ _ _) fl_X5_7 rfl dX5_adds_45 ?_
  refine lv_iload_n (pc := 48) hx hb dX5_adds_48 rfl (lv_at hl 1 rfl) ?_
  obtain ⟨hin, hf⟩ := ifS hf
  refine g_ild (pc := 49) (n := 6) (f := (t3 2)) C h.1 1 (mW_c1 _ _ _) hin dX5_adds_49 ?_
  refine lv_iconst (pc := 50) (v := 1) hx hb dX5_adds_50 (by decide) ?_
  refine lv_isub (pc := 51) hx hb dX5_adds_51 ?_
  have hf : (some ((((t3 2) x1.toNatClampNeg) - (1 : Int32)), t3)) = some z := hf
  cases hf
  exact ret_iU (pc := 52) C hr h dX5_adds_52
end
