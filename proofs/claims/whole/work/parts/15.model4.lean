section
variable {p : Program} {l : Launch} {e : Env} {R : Room} {s : State} {m : MethodId} {args : Array Value} {below : List Frame} {meth : Method} {c : Code} {Q : State → Prop}
variable {D : va_G} {cA : Nat → ClassId} {A : Nat → Prop} {q : Nat → Nat}
abbrev rm_X5_next : Room := { frames := 4, cells := 0, slots := 0, locals := 89 }
def f_X5_next_9 : Nat → (Nat → Nat → Int32) → Int32 → Int32 → Int32 → Option (Int32 × Int32)
  | 0, _, _, _, _ => none
  | n + 1, σ, x1, x2, x3 => (if inb x1 6 then (if ((σ 2) x1.toNatClampNeg) ≤ x3 then some (x2, x3) else (if inb x1 6 then (if ((σ 3) x1.toNatClampNeg) ≤ 0 then some (x2, x3) else (if (f_X5_has (f_X5_open σ) x3) = 0 then (f_X5_next_9 n σ x1 x2 (x3 + (1 : Int32))) else (if inb x3 8 then (if (5 : Int32) ≤ ((σ 22) x3.toNatClampNeg) then (f_X5_next_9 n σ x1 x2 (x3 + (1 : Int32))) else (if inb x3 8 then (if inb x1 6 then (if inb x3 8 then (if inb x1 6 then if ¬ ((σ 3) x1.toNatClampNeg) = 0 then (if x2 = (-1 : Int32) then (f_X5_next_9 n σ x1 (((σ 21) x3.toNatClampNeg) + (((σ 3) x1.toNatClampNeg) * ((((σ 0 0) - ((σ 21) x3.toNatClampNeg)) / ((σ 3) x1.toNatClampNeg)) + (1 : Int32)))) (x3 + (1 : Int32))) else (if x2 ≤ (((σ 21) x3.toNatClampNeg) + (((σ 3) x1.toNatClampNeg) * ((((σ 0 0) - ((σ 21) x3.toNatClampNeg)) / ((σ 3) x1.toNatClampNeg)) + (1 : Int32)))) then (f_X5_next_9 n σ x1 x2 (x3 + (1 : Int32))) else (f_X5_next_9 n σ x1 (((σ 21) x3.toNatClampNeg) + (((σ 3) x1.toNatClampNeg) * ((((σ 0 0) - ((σ 21) x3.toNatClampNeg)) / ((σ 3) x1.toNatClampNeg)) + (1 : Int32)))) (x3 + (1 : Int32))))) else none else none) else none) else none) else none)) else none))) else none)) else none)
def f_X5_next (σ : Nat → Nat → Int32) (x1 : Int32) : Option (Int32 × (Nat → Nat → Int32)) := ((f_X5_looks σ x1).bind fun z1 => ((f_X5_next_9 FU z1 x1 (-1 : Int32) (0 : Int32)).bind fun z2 => (some (z2.1, z1))))
set_option maxHeartbeats 400000 in
set_option maxRecDepth 100000 in
theorem l_X5_next_9 (C : Cx p s m args meth c cX5_next 5 RX5 D cA) : ∀ (n : Nat) (σ : Nat → Nat → Int32) (x1 x2 x3 : Int32) (z : Int32 × Int32), f_X5_next_9 n σ x1 x2 x3 = some z → ∀ (H : Heap) (locs : List Loc) (ls : Array Slot), St D A s.heap (mW q cA σ) H locs → lv_has ls 5 [(0, .ref (q 0)), (1, .int x1), (2, .int x2), (3, .int x3)] → (∀ (H : Heap) (locs : List Loc) (ls : Array Slot), St D A s.heap (mW q cA σ) H locs → lv_has ls 5 [(0, .ref (q 0)), (1, .int x1), (2, .int z.1), (3, .int z.2)] → W p l e rm_X5_next s m args below meth c H locs 0 0 Q (F0 m 109 ls [])) → W p l e rm_X5_next s m args below meth c H locs 0 0 Q (F0 m 9 ls []) := by
  obtain ⟨hx, hb, hml, hown, hts, hK, hlk⟩ := id C
  intro n
  induction n with
  | zero => intro σ x1 x2 x3 z hf; rw [f_X5_next_9] at hf; cases hf
  | succ n ih =>
    intro σ x1 x2 x3 z hf H locs ls h hl kk
    rw [f_X5_next_9] at hf
    refine lv_iload_n (pc := 9) hx hb dX5_next_9 rfl (lv_at hl 3 rfl) ?_
    refine lv_aload_n (pc := 10) hx hb dX5_next_10 rfl (lv_at hl 0 rfl) ?_
    refine g_get (pc := 11) (v := .ref (q 1)) C h.1 0 (mW_c0 _ _ _) fl_X5_7 rfl dX5_next_11 ?_
    refine lv_iload_n (pc := 14) hx hb dX5_next_14 rfl (lv_at hl 1 rfl) ?_
    obtain ⟨hin, hf⟩ := ifS hf
    refine g_ild (pc := 15) (n := 6) (f := (σ 2)) C h.1 1 (mW_c1 _ _ _) hin dX5_next_15 ?_
    refine lv_icmp_ge (pc := 16) (tgt := 109) hx hb dX5_next_16 (by decide) (fun c9 => ?_) (fun c9 => ?_)
    · have hf := ifT c9 hf
      have hf : some (x2, x3) = some z := hf
      cases hf
      exact kk _ _ _ h (lv_sub hl [0, 1, 2, 3] rfl)
    · have hf := ifF c9 hf
      refine lv_aload_n (pc := 19) hx hb dX5_next_19 rfl (lv_at hl 0 rfl) ?_
      refine g_get (pc := 20) (v := .ref (q 2)) C h.1 0 (mW_c0 _ _ _) fl_X5_13 rfl dX5_next_20 ?_
      refine lv_iload_n (pc := 23) hx hb dX5_next_23 rfl (lv_at hl 1 rfl) ?_
      obtain ⟨hin, hf⟩ := ifS hf
      refine g_ild (pc := 24) (n := 6) (f := (σ 3)) C h.1 2 (mW_c2 _ _ _) hin dX5_next_24 ?_
      refine lv_if_le (pc := 25) (tgt := 109) hx hb dX5_next_25 (by decide) (fun c9 => ?_) (fun c9 => ?_)
      · have hf := ifT c9 hf
        have hf : some (x2, x3) = some z := hf
        cases hf
        exact kk _ _ _ h (lv_sub hl [0, 1, 2, 3] rfl)
      · have hf := ifF c9 hf
        refine lv_aload_n (pc := 28) hx hb dX5_next_28 rfl (lv_at hl 0 rfl) ?_
        refine call_VRs (pc := 29) (As := []) (rest := []) C h (k_X5_open σ rfl) cw_X5_137 0 (mW_c0 _ _ _) rfl rfl rfl hl.1 (Nat.le_of_ble_eq_true rfl) dX5_next_29 ⟨Nat.le_of_ble_eq_true rfl, Nat.le_of_ble_eq_true rfl⟩ rfl rfl ⟨Nat.le_of_ble_eq_true rfl, Nat.le_of_ble_eq_true rfl⟩ (fun H locs h => ?_)
        refine W.eq (g2 := F0 m 32 ls [.int (f_X5_open σ)]) rfl ?_
        refine lv_iload_n (pc := 32) hx hb dX5_next_32 rfl (lv_at hl 3 rfl) ?_
        refine call_SR (pc := 33) (As := [.int (f_X5_open σ), .int x3]) (rest := []) (wc := []) C h (k_X5_has (f_X5_open σ) x3 rfl) cw_X5_85 [] rfl rfl rfl rfl hl.1 (Nat.le_of_ble_eq_true rfl) dX5_next_33 ⟨Nat.le_of_ble_eq_true rfl, Nat.le_of_ble_eq_true rfl⟩ rfl rfl ⟨Nat.le_of_ble_eq_true rfl, Nat.le_of_ble_eq_true rfl⟩ (fun H locs h => ?_)
        refine W.eq (g2 := F0 m 36 ls [.int (f_X5_has (f_X5_open σ) x3)]) rfl ?_
        refine lv_if_eq (pc := 36) (tgt := 103) hx hb dX5_next_36 (by decide) (fun c9 => ?_) (fun c9 => ?_)
        · have hf := ifT c9 hf
          refine lv_iinc (pc := 103) (v := (x3 + (1 : Int32))) (lv' := [(3, .int (x3 + (1 : Int32))), (0, .ref (q 0)), (1, .int x1), (2, .int x2)]) hx hb dX5_next_103 hl (k := 3) rfl rfl (by decide) rfl (fun ls hl => ?_)
          refine lv_goto (pc := 106) (tgt := 9) hx hb dX5_next_106 (by decide) ?_
          exact ih _ _ _ _ _ hf _ _ _ h (lv_sub hl [1, 2, 3, 0] rfl) kk
        · have hf := ifF c9 hf
          refine lv_aload_n (pc := 39) hx hb dX5_next_39 rfl (lv_at hl 0 rfl) ?_
          refine g_get (pc := 40) (v := .ref (q 18)) C h.1 0 (mW_c0 _ _ _) fl_X5_61 rfl dX5_next_40 ?_
          refine lv_iload_n (pc := 43) hx hb dX5_next_43 rfl (lv_at hl 3 rfl) ?_
          obtain ⟨hin, hf⟩ := ifS hf
          refine g_ild (pc := 44) (n := 8) (f := (σ 22)) C h.1 18 (mW_c18 _ _ _) hin dX5_next_44 ?_
          refine lv_iconst (pc := 45) (v := 5) hx hb dX5_next_45 (by decide) ?_
          refine lv_icmp_ge (pc := 46) (tgt := 103) hx hb dX5_next_46 (by decide) (fun c9 => ?_) (fun c9 => ?_)
          · have hf := ifT c9 hf
            refine lv_iinc (pc := 103) (v := (x3 + (1 : Int32))) (lv' := [(3, .int (x3 + (1 : Int32))), (0, .ref (q 0)), (1, .int x1), (2, .int x2)]) hx hb dX5_next_103 hl (k := 3) rfl rfl (by decide) rfl (fun ls hl => ?_)
            refine lv_goto (pc := 106) (tgt := 9) hx hb dX5_next_106 (by decide) ?_
            exact ih _ _ _ _ _ hf _ _ _ h (lv_sub hl [1, 2, 3, 0] rfl) kk
          · have hf := ifF c9 hf
            refine lv_aload_n (pc := 49) hx hb dX5_next_49 rfl (lv_at hl 0 rfl) ?_
            refine g_get (pc := 50) (v := .ref (q 17)) C h.1 0 (mW_c0 _ _ _) fl_X5_58 rfl dX5_next_50 ?_
            refine lv_iload_n (pc := 53) hx hb dX5_next_53 rfl (lv_at hl 3 rfl) ?_
            obtain ⟨hin, hf⟩ := ifS hf
            refine g_ild (pc := 54) (n := 8) (f := (σ 21)) C h.1 17 (mW_c17 _ _ _) hin dX5_next_54 ?_
            refine lv_aload_n (pc := 55) hx hb dX5_next_55 rfl (lv_at hl 0 rfl) ?_
            refine g_get (pc := 56) (v := .ref (q 2)) C h.1 0 (mW_c0 _ _ _) fl_X5_13 rfl dX5_next_56 ?_
            refine lv_iload_n (pc := 59) hx hb dX5_next_59 rfl (lv_at hl 1 rfl) ?_
            obtain ⟨hin, hf⟩ := ifS hf
            refine g_ild (pc := 60) (n := 6) (f := (σ 3)) C h.1 2 (mW_c2 _ _ _) hin dX5_next_60 ?_
            refine lv_aload_n (pc := 61) hx hb dX5_next_61 rfl (lv_at hl 0 rfl) ?_
            refine g_get (pc := 62) (v := .int (σ 0 0)) C h.1 0 (mW_c0 _ _ _) fl_X5_113 rfl dX5_next_62 ?_
            refine lv_aload_n (pc := 65) hx hb dX5_next_65 rfl (lv_at hl 0 rfl) ?_
            refine g_get (pc := 66) (v := .ref (q 17)) C h.1 0 (mW_c0 _ _ _) fl_X5_58 rfl dX5_next_66 ?_
            refine lv_iload_n (pc := 69) hx hb dX5_next_69 rfl (lv_at hl 3 rfl) ?_
            obtain ⟨hin, hf⟩ := ifS hf
            refine g_ild (pc := 70) (n := 8) (f := (σ 21)) C h.1 17 (mW_c17 _ _ _) hin dX5_next_70 ?_
            refine lv_isub (pc := 71) hx hb dX5_next_71 ?_
            refine lv_aload_n (pc := 72) hx hb dX5_next_72 rfl (lv_at hl 0 rfl) ?_
            refine g_get (pc := 73) (v := .ref (q 2)) C h.1 0 (mW_c0 _ _ _) fl_X5_13 rfl dX5_next_73 ?_
            refine lv_iload_n (pc := 76) hx hb dX5_next_76 rfl (lv_at hl 1 rfl) ?_
            obtain ⟨hin, hf⟩ := ifS hf
            refine g_ild (pc := 77) (n := 6) (f := (σ 3)) C h.1 2 (mW_c2 _ _ _) hin dX5_next_77 ?_
            obtain ⟨hne, hf⟩ := ifS hf
            refine lv_idiv (pc := 78) hx hb dX5_next_78 hne ?_
            refine lv_iconst (pc := 79) (v := 1) hx hb dX5_next_79 (by decide) ?_
            refine lv_iadd (pc := 80) hx hb dX5_next_80 ?_
            refine lv_imul (pc := 81) hx hb dX5_next_81 ?_
            refine lv_iadd (pc := 82) hx hb dX5_next_82 ?_
            refine lv_istore (pc := 83) (lv' := [(4, .int (((σ 21) x3.toNatClampNeg) + (((σ 3) x1.toNatClampNeg) * ((((σ 0 0) - ((σ 21) x3.toNatClampNeg)) / ((σ 3) x1.toNatClampNeg)) + (1 : Int32))))), (0, .ref (q 0)), (1, .int x1), (2, .int x2), (3, .int x3)]) hx hb dX5_next_83 hl (by decide) rfl (fun ls hl => ?_)
            refine lv_iload_n (pc := 85) hx hb dX5_next_85 rfl (lv_at hl 3 rfl) ?_
            refine lv_iconst (pc := 86) (v := -1) hx hb dX5_next_86 (by decide) ?_
            refine lv_icmp_eq (pc := 87) (tgt := 96) hx hb dX5_next_87 (by decide) (fun c9 => ?_) (fun c9 => ?_)
            · have hf := ifT c9 hf
              refine lv_iload (pc := 96) hx hb dX5_next_96 (lv_at hl 0 rfl) ?_
              refine lv_goto (pc := 98) (tgt := 102) hx hb dX5_next_98 (by decide) ?_
              refine lv_istore_n (pc := 102) (lv' := [(2, .int (((σ 21) x3.toNatClampNeg) + (((σ 3) x1.toNatClampNeg) * ((((σ 0 0) - ((σ 21) x3.toNatClampNeg)) / ((σ 3) x1.toNatClampNeg)) + (1 : Int32))))), (4, .int (((σ 21) x3.toNatClampNeg) + (((σ 3) x1.toNatClampNeg) * ((((σ 0 0) - ((σ 21) x3.toNatClampNeg)) / ((σ 3) x1.toNatClampNeg)) + (1 : Int32))))), (0, .ref (q 0)), (1, .int x1), (3, .int x3)]) hx hb dX5_next_102 rfl hl (by decide) rfl (fun ls hl => ?_)
              refine lv_iinc (pc := 103) (v := (x3 + (1 : Int32))) (lv' := [(3, .int (x3 + (1 : Int32))), (2, .int (((σ 21) x3.toNatClampNeg) + (((σ 3) x1.toNatClampNeg) * ((((σ 0 0) - ((σ 21) x3.toNatClampNeg)) / ((σ 3) x1.toNatClampNeg)) + (1 : Int32))))), (4, .int (((σ 21) x3.toNatClampNeg) + (((σ 3) x1.toNatClampNeg) * ((((σ 0 0) - ((σ 21) x3.toNatClampNeg)) / ((σ 3) x1.toNatClampNeg)) + (1 : Int32))))), (0, .ref (q 0)), (1, .int x1)]) hx hb dX5_next_103 hl (k := 4) rfl rfl (by decide) rfl (fun ls hl => ?_)
              refine lv_goto (pc := 106) (tgt := 9) hx hb dX5_next_106 (by decide) ?_
              exact ih _ _ _ _ _ hf _ _ _ h (lv_sub hl [3, 4, 1, 0] rfl) kk
            · have hf := ifF c9 hf
              refine lv_iload (pc := 90) hx hb dX5_next_90 (lv_at hl 0 rfl) ?_
              refine lv_iload_n (pc := 92) hx hb dX5_next_92 rfl (lv_at hl 3 rfl) ?_
              refine lv_icmp_ge (pc := 93) (tgt := 101) hx hb dX5_next_93 (by decide) (fun c9 => ?_) (fun c9 => ?_)
              · have hf := ifT c9 hf
                refine lv_iload_n (pc := 101) hx hb dX5_next_101 rfl (lv_at hl 3 rfl) ?_
                refine lv_istore_n (pc := 102) (lv' := [(2, .int x2), (4, .int (((σ 21) x3.toNatClampNeg) + (((σ 3) x1.toNatClampNeg) * ((((σ 0 0) - ((σ 21) x3.toNatClampNeg)) / ((σ 3) x1.toNatClampNeg)) + (1 : Int32))))), (0, .ref (q 0)), (1, .int x1), (3, .int x3)]) hx hb dX5_next_102 rfl hl (by decide) rfl (fun ls hl => ?_)
                refine lv_iinc (pc := 103) (v := (x3 + (1 : Int32))) (lv' := [(3, .int (x3 + (1 : Int32))), (2, .int x2), (4, .int (((σ 21) x3.toNatClampNeg) + (((σ 3) x1.toNatClampNeg) * ((((σ 0 0) - ((σ 21) x3.toNatClampNeg)) / ((σ 3) x1.toNatClampNeg)) + (1 : Int32))))), (0, .ref (q 0)), (1, .int x1)]) hx hb dX5_next_103 hl (k := 4) rfl rfl (by decide) rfl (fun ls hl => ?_)
                refine lv_goto (pc := 106) (tgt := 9) hx hb dX5_next_106 (by decide) ?_
                exact ih _ _ _ _ _ hf _ _ _ h (lv_sub hl [3, 4, 1, 0] rfl) kk
              · have hf := ifF c9 hf
                refine lv_iload (pc := 96) hx hb dX5_next_96 (lv_at hl 0 rfl) ?_
                refine lv_goto (pc := 98) (tgt := 102) hx hb dX5_next_98 (by decide) ?_
                refine lv_istore_n (pc := 102) (lv' := [(2, .int (((σ 21) x3.toNatClampNeg) + (((σ 3) x1.toNatClampNeg) * ((((σ 0 0) - ((σ 21) x3.toNatClampNeg)) / ((σ 3) x1.toNatClampNeg)) + (1 : Int32))))), (4, .int (((σ 21) x3.toNatClampNeg) + (((σ 3) x1.toNatClampNeg) * ((((σ 0 0) - ((σ 21) x3.toNatClampNeg)) / ((σ 3) x1.toNatClampNeg)) + (1 : Int32))))), (0, .ref (q 0)), (1, .int x1), (3, .int x3)]) hx hb dX5_next_102 rfl hl (by decide) rfl (fun ls hl => ?_)
                refine lv_iinc (pc := 103) (v := (x3 + (1 : Int32))) (lv' := [(3, .int (x3 + (1 : Int32))), (2, .int (((σ 21) x3.toNatClampNeg) + (((σ 3) x1.toNatClampNeg) * ((((σ 0 0) - ((σ 21) x3.toNatClampNeg)) / ((σ 3) x1.toNatClampNeg)) + (1 : Int32))))), (4, .int (((σ 21) x3.toNatClampNeg) + (((σ 3) x1.toNatClampNeg) * ((((σ 0 0) - ((σ 21) x3.toNatClampNeg)) / ((σ 3) x1.toNatClampNeg)) + (1 : Int32))))), (0, .ref (q 0)), (1, .int x1)]) hx hb dX5_next_103 hl (k := 4) rfl rfl (by decide) rfl (fun ls hl => ?_)
                refine lv_goto (pc := 106) (tgt := 9) hx hb dX5_next_106 (by decide) ?_
                exact ih _ _ _ _ _ hf _ _ _ h (lv_sub hl [3, 4, 1, 0] rfl) kk
set_option maxHeartbeats 400000 in
set_option maxRecDepth 100000 in
theorem k_X5_next {q : Nat → Nat} {cA : Nat → ClassId} {D : va_G} (σ : Nat → Nat → Int32) (x1 : Int32) {z : Int32 × (Nat → Nat → Int32)} (hf : f_X5_next σ x1 = some z) : CtU yX5_next cX5_next 5 (some .int) rm_X5_next [.ref (q 0), .int x1] D cA (mW q cA σ) (mW q cA z.2) (some (.int z.1)) 0 0 := by
  refine ctU_of (by decide) (Nat.le_of_ble_eq_true rfl) ?_
  intro p l e s m below meth c ls C hr hnm h hl
  have C : Cx p s m _ meth c cX5_next 5 RX5 D cA := C
  obtain ⟨hx, hb, hml, hown, hts, hK, hlk⟩ := id C
  replace hl : lv_has ls 5 [(0, .ref (q 0)), (1, .int x1)] := hl
  rw [f_X5_next] at hf
  refine lv_iconst (pc := 0) (v := -1) hx hb dX5_next_0 (by decide) ?_
  refine lv_istore_n (pc := 1) (lv' := [(2, .int (-1 : Int32)), (0, .ref (q 0)), (1, .int x1)]) hx hb dX5_next_1 rfl hl (by decide) rfl (fun ls hl => ?_)
  refine lv_aload_n (pc := 2) hx hb dX5_next_2 rfl (lv_at hl 1 rfl) ?_
  refine lv_iload_n (pc := 3) hx hb dX5_next_3 rfl (lv_at hl 2 rfl) ?_
  obtain ⟨z1, hc1, hf⟩ := bdS hf
  refine call_VUs (pc := 4) (As := [.int x1]) (rest := []) C h (k_X5_looks σ x1 hc1) cw_X5_109 0 (mW_c0 _ _ _) rfl (mW_fst _ _ _ _) rfl rfl hl.1 (Nat.le_of_ble_eq_true rfl) dX5_next_4 ⟨Nat.le_of_ble_eq_true rfl, Nat.le_of_ble_eq_true rfl⟩ rfl rfl ⟨Nat.le_of_ble_eq_true rfl, Nat.le_of_ble_eq_true rfl⟩ (fun H locs h => ?_)
  refine W.eq (g2 := F0 m 7 ls []) rfl ?_
  refine lv_iconst (pc := 7) (v := 0) hx hb dX5_next_7 (by decide) ?_
  refine lv_istore_n (pc := 8) (lv' := [(3, .int (0 : Int32)), (2, .int (-1 : Int32)), (0, .ref (q 0)), (1, .int x1)]) hx hb dX5_next_8 rfl hl (by decide) rfl (fun ls hl => ?_)
  obtain ⟨z2, hc2, hf⟩ := bdS hf
  refine l_X5_next_9 C _ _ _ _ _ _ hc2 _ _ _ h (lv_sub hl [2, 3, 1, 0] rfl) (fun H locs ls h hl => ?_)
  refine lv_iload_n (pc := 109) hx hb dX5_next_109 rfl (lv_at hl 2 rfl) ?_
  have hf : (some (z2.1, z1)) = some z := hf
  cases hf
  exact ret_iU (pc := 110) C hr h dX5_next_110
abbrev rm_X5_nextReminder : Room := { frames := 5, cells := 0, slots := 0, locals := 113 }
def f_X5_nextReminder (σ : Nat → Nat → Int32) (x1 : Int32) : Option (Int32 × (Nat → Nat → Int32)) := (if (f_X5_goes σ (f_X5_isEnvelope σ x1) (1 : Int32) (1 : Int32)).1 = 0 then (some ((0 : Int32), (f_X5_goes σ (f_X5_isEnvelope σ x1) (1 : Int32) (1 : Int32)).2)) else ((f_X5_next (f_X5_goes σ (f_X5_isEnvelope σ x1) (1 : Int32) (1 : Int32)).2 x1).bind fun z1 => (some (z1.1, z1.2))))
set_option maxHeartbeats 400000 in
set_option maxRecDepth 100000 in
theorem k_X5_nextReminder {q : Nat → Nat} {cA : Nat → ClassId} {D : va_G} (σ : Nat → Nat → Int32) (x1 : Int32) {z : Int32 × (Nat → Nat → Int32)} (hf : f_X5_nextReminder σ x1 = some z) : CtU yX5_nextReminder cX5_nextReminder 2 (some .int) rm_X5_nextReminder [.ref (q 0), .int x1] D cA (mW q cA σ) (mW q cA z.2) (some (.int z.1)) 0 0 := by
  refine ctU_of (by decide) (Nat.le_of_ble_eq_true rfl) ?_
  intro p l e s m below meth c ls C hr hnm h hl
  have C : Cx p s m _ meth c cX5_nextReminder 2 RX5 D cA := C
  obtain ⟨hx, hb, hml, hown, hts, hK, hlk⟩ := id C
  replace hl : lv_has ls 2 [(0, .ref (q 0)), (1, .int x1)] := hl
  rw [f_X5_nextReminder] at hf
  refine lv_aload_n (pc := 0) hx hb dX5_nextReminder_0 rfl (lv_at hl 0 rfl) ?_
  refine lv_aload_n (pc := 1) hx hb dX5_nextReminder_1 rfl (lv_at hl 0 rfl) ?_
  refine lv_iload_n (pc := 2) hx hb dX5_nextReminder_2 rfl (lv_at hl 1 rfl) ?_
  refine call_VRs (pc := 3) (As := [.int x1]) (rest := [.ref (q 0)]) C h (k_X5_isEnvelope σ x1 rfl) cw_X5_78 0 (mW_c0 _ _ _) rfl rfl rfl hl.1 (Nat.le_of_ble_eq_true rfl) dX5_nextReminder_3 ⟨Nat.le_of_ble_eq_true rfl, Nat.le_of_ble_eq_true rfl⟩ rfl rfl ⟨Nat.le_of_ble_eq_true rfl, Nat.le_of_ble_eq_true rfl⟩ (fun H locs h => ?_)
  refine W.eq (g2 := F0 m 6 ls [.int (f_X5_isEnvelope σ x1), .ref (q 0)]) rfl ?_
  refine lv_iconst (pc := 6) (v := 1) hx hb dX5_nextReminder_6 (by decide) ?_
  refine lv_iconst (pc := 7) (v := 1) hx hb dX5_nextReminder_7 (by decide) ?_
  refine call_VUs (pc := 8) (As := [.int (f_X5_isEnvelope σ x1), .int (1 : Int32), .int (1 : Int32)]) (rest := []) C h (k_X5_goes σ (f_X5_isEnvelope σ x1) (1 : Int32) (1 : Int32) rfl) cw_X5_123 0 (mW_c0 _ _ _) rfl (mW_fst _ _ _ _) rfl rfl hl.1 (Nat.le_of_ble_eq_true rfl) dX5_nextReminder_8 ⟨Nat.le_of_ble_eq_true rfl, Nat.le_of_ble_eq_true rfl⟩ rfl rfl ⟨Nat.le_of_ble_eq_true rfl, Nat.le_of_ble_eq_true rfl⟩ (fun H locs h => ?_)
  refine W.eq (g2 := F0 m 11 ls [.int (f_X5_goes σ (f_X5_isEnvelope σ x1) (1 : Int32) (1 : Int32)).1]) rfl ?_
  refine lv_if_eq (pc := 11) (tgt := 22) hx hb dX5_nextReminder_11 (by decide) (fun c9 => ?_) (fun c9 => ?_)
  · have hf := ifT c9 hf
    refine lv_iconst (pc := 22) (v := 0) hx hb dX5_nextReminder_22 (by decide) ?_
    have hf : (some ((0 : Int32), (f_X5_goes σ (f_X5_isEnvelope σ x1) (1 : Int32) (1 : Int32)).2)) = some z := hf
    cases hf
    exact ret_iU (pc := 23) C hr h dX5_nextReminder_23
  · have hf := ifF c9 hf
    refine lv_aload_n (pc := 14) hx hb dX5_nextReminder_14 rfl (lv_at hl 0 rfl) ?_
    refine lv_iload_n (pc := 15) hx hb dX5_nextReminder_15 rfl (lv_at hl 1 rfl) ?_
    obtain ⟨z1, hc1, hf⟩ := bdS hf
    refine call_VUs (pc := 16) (As := [.int x1]) (rest := []) C h (k_X5_next (f_X5_goes σ (f_X5_isEnvelope σ x1) (1 : Int32) (1 : Int32)).2 x1 hc1) cw_X5_166 0 (mW_c0 _ _ _) rfl (mW_fst _ _ _ _) rfl rfl hl.1 (Nat.le_of_ble_eq_true rfl) dX5_nextReminder_16 ⟨Nat.le_of_ble_eq_true rfl, Nat.le_of_ble_eq_true rfl⟩ rfl rfl ⟨Nat.le_of_ble_eq_true rfl, Nat.le_of_ble_eq_true rfl⟩ (fun H locs h => ?_)
    refine W.eq (g2 := F0 m 19 ls [.int z1.1]) rfl ?_
    refine lv_goto (pc := 19) (tgt := 23) hx hb dX5_nextReminder_19 (by decide) ?_
    have hf : (some (z1.1, z1.2)) = some z := hf
    cases hf
    exact ret_iU (pc := 23) C hr h dX5_nextReminder_23
abbrev rm_X5_envelopes : Room := { frames := 1, cells := 0, slots := 0, locals := 21 }
def f_X5_envelopes (σ : Nat → Nat → Int32) : Int32 × (Nat → Nat → Int32) := ((f_X5_told σ (σ 1 0)).1, (f_X5_told σ (σ 1 0)).2)
set_option maxHeartbeats 400000 in
set_option maxRecDepth 100000 in
theorem k_X5_envelopes {q : Nat → Nat} {cA : Nat → ClassId} {D : va_G} (σ : Nat → Nat → Int32) {z : Int32 × (Nat → Nat → Int32)} (hf : f_X5_envelopes σ = z) : CtU yX5_envelopes cX5_envelopes 1 (some .int) rm_X5_envelopes [.ref (q 0)] D cA (mW q cA σ) (mW q cA z.2) (some (.int z.1)) 0 0 := by
  refine ctU_of (by decide) (Nat.le_of_ble_eq_true rfl) ?_
  intro p l e s m below meth c ls C hr hnm h hl
  have C : Cx p s m _ meth c cX5_envelopes 1 RX5 D cA := C
  obtain ⟨hx, hb, hml, hown, hts, hK, hlk⟩ := id C
  replace hl : lv_has ls 1 [(0, .ref (q 0))] := hl
  rw [f_X5_envelopes] at hf
  refine lv_aload_n (pc := 0) hx hb dX5_envelopes_0 rfl (lv_at hl 0 rfl) ?_
  refine lv_aload_n (pc := 1) hx hb dX5_envelopes_1 rfl (lv_at hl 0 rfl) ?_
  refine g_get (pc := 2) (v := .int (σ 1 0)) C h.1 0 (mW_c0 _ _ _) fl_X5_75 rfl dX5_envelopes_2 ?_
  refine call_VUs (pc := 5) (As := [.int (σ 1 0)]) (rest := []) C h (k_X5_told σ (σ 1 0) rfl) cw_X5_163 0 (mW_c0 _ _ _) rfl (mW_fst _ _ _ _) rfl rfl hl.1 (Nat.le_of_ble_eq_true rfl) dX5_envelopes_5 ⟨Nat.le_of_ble_eq_true rfl, Nat.le_of_ble_eq_true rfl⟩ rfl rfl ⟨Nat.le_of_ble_eq_true rfl, Nat.le_of_ble_eq_true rfl⟩ (fun H locs h => ?_)
  refine W.eq (g2 := F0 m 8 ls [.int (f_X5_told σ (σ 1 0)).1]) rfl ?_
  have hf : ((f_X5_told σ (σ 1 0)).1, (f_X5_told σ (σ 1 0)).2) = z := hf
  subst hf
  exact ret_iU (pc := 8) C hr h dX5_envelopes_8
abbrev rm_X5_state : Room := { frames := 4, cells := 0, slots := 0, locals := 89 }
def f_X5_state (σ : Nat → Nat → Int32) (x1 : Int32) : Option (Int32 × (Nat → Nat → Int32)) := (if (f_X5_goes σ (f_X5_isEnvelope σ x1) (1 : Int32) (1 : Int32)).1 = 0 then (some ((0 : Int32), (f_X5_goes σ (f_X5_isEnvelope σ x1) (1 : Int32) (1 : Int32)).2)) else ((f_X5_looks (f_X5_goes σ (f_X5_isEnvelope σ x1) (1 : Int32) (1 : Int32)).2 x1).bind fun z1 => (some ((z1 18 0), z1))))
set_option maxHeartbeats 400000 in
set_option maxRecDepth 100000 in
theorem k_X5_state {q : Nat → Nat} {cA : Nat → ClassId} {D : va_G} (σ : Nat → Nat → Int32) (x1 : Int32) {z : Int32 × (Nat → Nat → Int32)} (hf : f_X5_state σ x1 = some z) : CtU yX5_state cX5_state 2 (some .int) rm_X5_state [.ref (q 0), .int x1] D cA (mW q cA σ) (mW q cA z.2) (some (.int z.1)) 0 0 := by
  refine ctU_of (by decide) (Nat.le_of_ble_eq_true rfl) ?_
  intro p l e s m below meth c ls C hr hnm h hl
  have C : Cx p s m _ meth c cX5_state 2 RX5 D cA := C
  obtain ⟨hx, hb, hml, hown, hts, hK, hlk⟩ := id C
  replace hl : lv_has ls 2 [(0, .ref (q 0)), (1, .int x1)] := hl
  rw [f_X5_state] at hf
  refine lv_aload_n (pc := 0) hx hb dX5_state_0 rfl (lv_at hl 0 rfl) ?_
  refine lv_aload_n (pc := 1) hx hb dX5_state_1 rfl (lv_at hl 0 rfl) ?_
  refine lv_iload_n (pc := 2) hx hb dX5_state_2 rfl (lv_at hl 1 rfl) ?_
  refine call_VRs (pc := 3) (As := [.int x1]) (rest := [.ref (q 0)]) C h (k_X5_isEnvelope σ x1 rfl) cw_X5_78 0 (mW_c0 _ _ _) rfl rfl rfl hl.1 (Nat.le_of_ble_eq_true rfl) dX5_state_3 ⟨Nat.le_of_ble_eq_true rfl, Nat.le_of_ble_eq_true rfl⟩ rfl rfl ⟨Nat.le_of_ble_eq_true rfl, Nat.le_of_ble_eq_true rfl⟩ (fun H locs h => ?_)
  refine W.eq (g2 := F0 m 6 ls [.int (f_X5_isEnvelope σ x1), .ref (q 0)]) rfl ?_
  refine lv_iconst (pc := 6) (v := 1) hx hb dX5_state_6 (by decide) ?_
  refine lv_iconst (pc := 7) (v := 1) hx hb dX5_state_7 (by decide) ?_
  refine call_VUs (pc := 8) (As := [.int (f_X5_isEnvelope σ x1), .int (1 : Int32), .int (1 : Int32)]) (rest := []) C h (k_X5_goes σ (f_X5_isEnvelope σ x1) (1 : Int32) (1 : Int32) rfl) cw_X5_123 0 (mW_c0 _ _ _) rfl (mW_fst _ _ _ _) rfl rfl hl.1 (Nat.le_of_ble_eq_true rfl) dX5_state_8 ⟨Nat.le_of_ble_eq_true rfl, Nat.le_of_ble_eq_true rfl⟩ rfl rfl ⟨Nat.le_of_ble_eq_true rfl, Nat.le_of_ble_eq_true rfl⟩ (fun H locs h => ?_)
  refine W.eq (g2 := F0 m 11 ls [.int (f_X5_goes σ (f_X5_isEnvelope σ x1) (1 : Int32) (1 : Int32)).1]) rfl ?_
  refine lv_if_ne (pc := 11) (tgt := 16) hx hb dX5_state_11 (by decide) (fun c9 => ?_) (fun c9 => ?_)
  · have hf := ifF c9 hf
    refine lv_aload_n (pc := 16) hx hb dX5_state_16 rfl (lv_at hl 0 rfl) ?_
    refine lv_iload_n (pc := 17) hx hb dX5_state_17 rfl (lv_at hl 1 rfl) ?_
    obtain ⟨z1, hc1, hf⟩ := bdS hf
    refine call_VUs (pc := 18) (As := [.int x1]) (rest := []) C h (k_X5_looks (f_X5_goes σ (f_X5_isEnvelope σ x1) (1 : Int32) (1 : Int32)).2 x1 hc1) cw_X5_109 0 (mW_c0 _ _ _) rfl (mW_fst _ _ _ _) rfl rfl hl.1 (Nat.le_of_ble_eq_true rfl) dX5_state_18 ⟨Nat.le_of_ble_eq_true rfl, Nat.le_of_ble_eq_true rfl⟩ rfl rfl ⟨Nat.le_of_ble_eq_true rfl, Nat.le_of_ble_eq_true rfl⟩ (fun H locs h => ?_)
    refine W.eq (g2 := F0 m 21 ls []) rfl ?_
    refine lv_aload_n (pc := 21) hx hb dX5_state_21 rfl (lv_at hl 0 rfl) ?_
    refine g_get (pc := 22) (v := .int (z1 18 0)) C h.1 0 (mW_c0 _ _ _) fl_X5_92 rfl dX5_state_22 ?_
    have hf : (some ((z1 18 0), z1)) = some z := hf
    cases hf
    exact ret_iU (pc := 25) C hr h dX5_state_25
  · have hf := ifT c9 hf
    refine lv_iconst (pc := 14) (v := 0) hx hb dX5_state_14 (by decide) ?_
    have hf : (some ((0 : Int32), (f_X5_goes σ (f_X5_isEnvelope σ x1) (1 : Int32) (1 : Int32)).2)) = some z := hf
    cases hf
    exact ret_iU (pc := 15) C hr h dX5_state_15
abbrev rm_X5_slots : Room := { frames := 2, cells := 0, slots := 0, locals := 43 }
def f_X5_slots (σ : Nat → Nat → Int32) (x1 : Int32) : Option (Int32 × (Nat → Nat → Int32)) := (if (f_X5_goes σ (f_X5_isEnvelope σ x1) (1 : Int32) (1 : Int32)).1 = 0 then (some ((0 : Int32), (f_X5_goes σ (f_X5_isEnvelope σ x1) (1 : Int32) (1 : Int32)).2)) else (if inb x1 6 then (some ((((f_X5_goes σ (f_X5_isEnvelope σ x1) (1 : Int32) (1 : Int32)).2 2) x1.toNatClampNeg), (f_X5_goes σ (f_X5_isEnvelope σ x1) (1 : Int32) (1 : Int32)).2)) else none))
set_option maxHeartbeats 400000 in
set_option maxRecDepth 100000 in
theorem k_X5_slots {q : Nat → Nat} {cA : Nat → ClassId} {D : va_G} (σ : Nat → Nat → Int32) (x1 : Int32) {z : Int32 × (Nat → Nat → Int32)} (hf : f_X5_slots σ x1 = some z) : CtU yX5_slots cX5_slots 2 (some .int) rm_X5_slots [.ref (q 0), .int x1] D cA (mW q cA σ) (mW q cA z.2) (some (.int z.1)) 0 0 := by
  refine ctU_of (by decide) (Nat.le_of_ble_eq_true rfl) ?_
  intro p l e s m below meth c ls C hr hnm h hl
  have C : Cx p s m _ meth c cX5_slots 2 RX5 D cA := C
  obtain ⟨hx, hb, hml, hown, hts, hK, hlk⟩ := id C
  replace hl : lv_has ls 2 [(0, .ref (q 0)), (1, .int x1)] := hl
  rw [f_X5_slots] at hf
  refine lv_aload_n (pc := 0) hx hb dX5_slots_0 rfl (lv_at hl 0 rfl) ?_
  refine lv_aload_n (pc := 1) hx hb dX5_slots_1 rfl (lv_at hl 0 rfl) ?_
  refine lv_iload_n (pc := 2) hx hb dX5_slots_2 rfl (lv_at hl 1 rfl) ?_
  refine call_VRs (pc := 3) (As := [.int x1]) (rest := [.ref (q 0)]) C h (k_X5_isEnvelope σ x1 rfl) cw_X5_78 0 (mW_c0 _ _ _) rfl rfl rfl hl.1 (Nat.le_of_ble_eq_true rfl) dX5_slots_3 ⟨Nat.le_of_ble_eq_true rfl, Nat.le_of_ble_eq_true rfl⟩ rfl rfl ⟨Nat.le_of_ble_eq_true rfl, Nat.le_of_ble_eq_true rfl⟩ (fun H locs h => ?_)
  refine W.eq (g2 := F0 m 6 ls [.int (f_X5_isEnvelope σ x1), .ref (q 0)]) rfl ?_
  refine lv_iconst (pc := 6) (v := 1) hx hb dX5_slots_6 (by decide) ?_
  refine lv_iconst (pc := 7) (v := 1) hx hb dX5_slots_7 (by decide) ?_
  refine call_VUs (pc := 8) (As := [.int (f_X5_isEnvelope σ x1), .int (1 : Int32), .int (1 : Int32)]) (rest := []) C h (k_X5_goes σ (f_X5_isEnvelope σ x1) (1 : Int32) (1 : Int32) rfl) cw_X5_123 0 (mW_c0 _ _ _) rfl (mW_fst _ _ _ _) rfl rfl hl.1 (Nat.le_of_ble_eq_true rfl) dX5_slots_8 ⟨Nat.le_of_ble_eq_true rfl, Nat.le_of_ble_eq_true rfl⟩ rfl rfl ⟨Nat.le_of_ble_eq_true rfl, Nat.le_of_ble_eq_true rfl⟩ (fun H locs h => ?_)
  refine W.eq (g2 := F0 m 11 ls [.int (f_X5_goes σ (f_X5_isEnvelope σ x1) (1 : Int32) (1 : Int32)).1]) rfl ?_
  refine lv_if_eq (pc := 11) (tgt := 23) hx hb dX5_slots_11 (by decide) (fun c9 => ?_) (fun c9 => ?_)
  · have hf := ifT c9 hf
    refine lv_iconst (pc := 23) (v := 0) hx hb dX5_slots_23 (by decide) ?_
    have hf : (some ((0 : Int32), (f_X5_goes σ (f_X5_isEnvelope σ x1) (1 : Int32) (1 : Int32)).2)) = some z := hf
    cases hf
    exact ret_iU (pc := 24) C hr h dX5_slots_24
  · have hf := ifF c9 hf
    refine lv_aload_n (pc := 14) hx hb dX5_slots_14 rfl (lv_at hl 0 rfl) ?_
    refine g_get (pc := 15) (v := .ref (q 1)) C h.1 0 (mW_c0 _ _ _) fl_X5_7 rfl dX5_slots_15 ?_
    refine lv_iload_n (pc := 18) hx hb dX5_slots_18 rfl (lv_at hl 1 rfl) ?_
    obtain ⟨hin, hf⟩ := ifS hf
    refine g_ild (pc := 19) (n := 6) (f := ((f_X5_goes σ (f_X5_isEnvelope σ x1) (1 : Int32) (1 : Int32)).2 2)) C h.1 1 (mW_c1 _ _ _) hin dX5_slots_19 ?_
    refine lv_goto (pc := 20) (tgt := 24) hx hb dX5_slots_20 (by decide) ?_
    have hf : (some ((((f_X5_goes σ (f_X5_isEnvelope σ x1) (1 : Int32) (1 : Int32)).2 2) x1.toNatClampNeg), (f_X5_goes σ (f_X5_isEnvelope σ x1) (1 : Int32) (1 : Int32)).2)) = some z := hf
    cases hf
    exact ret_iU (pc := 24) C hr h dX5_slots_24
abbrev rm_X5_slotState : Room := { frames := 4, cells := 0, slots := 0, locals := 89 }
def f_X5_slotState (σ : Nat → Nat → Int32) (x1 x2 : Int32) : Option (Int32 × (Nat → Nat → Int32)) := ((f_X5_isSlot σ x1 x2).bind fun z1 => (if (f_X5_goes σ z1 (1 : Int32) (1 : Int32)).1 = 0 then (some ((0 : Int32), (f_X5_goes σ z1 (1 : Int32) (1 : Int32)).2)) else ((f_X5_looks (f_X5_goes σ z1 (1 : Int32) (1 : Int32)).2 x1).bind fun z2 => (if (f_X5_has (z2 19 0) x2) = 0 then (if (z2 18 0) ≤ (2 : Int32) then (if (f_X5_has (f_X5_open z2) x2) = 0 then (some ((0 : Int32), z2)) else (some ((1 : Int32), z2))) else (some ((3 : Int32), z2))) else (some ((2 : Int32), z2))))))
set_option maxHeartbeats 400000 in
set_option maxRecDepth 100000 in
theorem k_X5_slotState {q : Nat → Nat} {cA : Nat → ClassId} {D : va_G} (σ : Nat → Nat → Int32) (x1 x2 : Int32) {z : Int32 × (Nat → Nat → Int32)} (hf : f_X5_slotState σ x1 x2 = some z) : CtU yX5_slotState cX5_slotState 3 (some .int) rm_X5_slotState [.ref (q 0), .int x1, .int x2] D cA (mW q cA σ) (mW q cA z.2) (some (.int z.1)) 0 0 := by
  refine ctU_of (by decide) (Nat.le_of_ble_eq_true rfl) ?_
  intro p l e s m below meth c ls C hr hnm h hl
  have C : Cx p s m _ meth c cX5_slotState 3 RX5 D cA := C
  obtain ⟨hx, hb, hml, hown, hts, hK, hlk⟩ := id C
  replace hl : lv_has ls 3 [(0, .ref (q 0)), (1, .int x1), (2, .int x2)] := hl
  rw [f_X5_slotState] at hf
  refine lv_aload_n (pc := 0) hx hb dX5_slotState_0 rfl (lv_at hl 0 rfl) ?_
  refine lv_aload_n (pc := 1) hx hb dX5_slotState_1 rfl (lv_at hl 0 rfl) ?_
  refine lv_iload_n (pc := 2) hx hb dX5_slotState_2 rfl (lv_at hl 1 rfl) ?_
  refine lv_iload_n (pc := 3) hx hb dX5_slotState_3 rfl (lv_at hl 2 rfl) ?_
  obtain ⟨z1, hc1, hf⟩ := bdS hf
  refine call_VRs (pc := 4) (As := [.int x1, .int x2]) (rest := [.ref (q 0)]) C h (k_X5_isSlot σ x1 x2 hc1) cw_X5_147 0 (mW_c0 _ _ _) rfl rfl rfl hl.1 (Nat.le_of_ble_eq_true rfl) dX5_slotState_4 ⟨Nat.le_of_ble_eq_true rfl, Nat.le_of_ble_eq_true rfl⟩ rfl rfl ⟨Nat.le_of_ble_eq_true rfl, Nat.le_of_ble_eq_true rfl⟩ (fun H locs h => ?_)
  refine W.eq (g2 := F0 m 7 ls [.int z1, .ref (q 0)]) rfl ?_
  refine lv_iconst (pc := 7) (v := 1) hx hb dX5_slotState_7 (by decide) ?_
  refine lv_iconst (pc := 8) (v := 1) hx hb dX5_slotState_8 (by decide) ?_
  refine call_VUs (pc := 9) (As := [.int z1, .int (1 : Int32), .int (1 : Int32)]) (rest := []) C h (k_X5_goes σ z1 (1 : Int32) (1 : Int32) rfl) cw_X5_123 0 (mW_c0 _ _ _) rfl (mW_fst _ _ _ _) rfl rfl hl.1 (Nat.le_of_ble_eq_true rfl) dX5_slotState_9 ⟨Nat.le_of_ble_eq_true rfl, Nat.le_of_ble_eq_true rfl⟩ rfl rfl ⟨Nat.le_of_ble_eq_true rfl, Nat.le_of_ble_eq_true rfl⟩ (fun H locs h => ?_)
  refine W.eq (g2 := F0 m 12 ls [.int (f_X5_goes σ z1 (1 : Int32) (1 : Int32)).1]) rfl ?_
  refine lv_if_ne (pc := 12) (tgt := 17) hx hb dX5_slotState_12 (by decide) (fun c9 => ?_) (fun c9 => ?_)
  · have hf := ifF c9 hf
    refine lv_aload_n (pc := 17) hx hb dX5_slotState_17 rfl (lv_at hl 0 rfl) ?_
    refine lv_iload_n (pc := 18) hx hb dX5_slotState_18 rfl (lv_at hl 1 rfl) ?_
    obtain ⟨z2, hc2, hf⟩ := bdS hf
    refine call_VUs (pc := 19) (As := [.int x1]) (rest := []) C h (k_X5_looks (f_X5_goes σ z1 (1 : Int32) (1 : Int32)).2 x1 hc2) cw_X5_109 0 (mW_c0 _ _ _) rfl (mW_fst _ _ _ _) rfl rfl hl.1 (Nat.le_of_ble_eq_true rfl) dX5_slotState_19 ⟨Nat.le_of_ble_eq_true rfl, Nat.le_of_ble_eq_true rfl⟩ rfl rfl ⟨Nat.le_of_ble_eq_true rfl, Nat.le_of_ble_eq_true rfl⟩ (fun H locs h => ?_)
    refine W.eq (g2 := F0 m 22 ls []) rfl ?_
    refine lv_aload_n (pc := 22) hx hb dX5_slotState_22 rfl (lv_at hl 0 rfl) ?_
    refine g_get (pc := 23) (v := .int (z2 19 0)) C h.1 0 (mW_c0 _ _ _) fl_X5_89 rfl dX5_slotState_23 ?_
    refine lv_iload_n (pc := 26) hx hb dX5_slotState_26 rfl (lv_at hl 2 rfl) ?_
    refine call_SR (pc := 27) (As := [.int (z2 19 0), .int x2]) (rest := []) (wc := []) C h (k_X5_has (z2 19 0) x2 rfl) cw_X5_85 [] rfl rfl rfl rfl hl.1 (Nat.le_of_ble_eq_true rfl) dX5_slotState_27 ⟨Nat.le_of_ble_eq_true rfl, Nat.le_of_ble_eq_true rfl⟩ rfl rfl ⟨Nat.le_of_ble_eq_true rfl, Nat.le_of_ble_eq_true rfl⟩ (fun H locs h => ?_)
    refine W.eq (g2 := F0 m 30 ls [.int (f_X5_has (z2 19 0) x2)]) rfl ?_
    refine lv_if_eq (pc := 30) (tgt := 35) hx hb dX5_slotState_30 (by decide) (fun c9 => ?_) (fun c9 => ?_)
    · have hf := ifT c9 hf
      refine lv_aload_n (pc := 35) hx hb dX5_slotState_35 rfl (lv_at hl 0 rfl) ?_
      refine g_get (pc := 36) (v := .int (z2 18 0)) C h.1 0 (mW_c0 _ _ _) fl_X5_92 rfl dX5_slotState_36 ?_
      refine lv_iconst (pc := 39) (v := 2) hx hb dX5_slotState_39 (by decide) ?_
      refine lv_icmp_le (pc := 40) (tgt := 47) hx hb dX5_slotState_40 (by decide) (fun c9 => ?_) (fun c9 => ?_)
      · have hf := ifT c9 hf
        refine lv_aload_n (pc := 47) hx hb dX5_slotState_47 rfl (lv_at hl 0 rfl) ?_
        refine call_VRs (pc := 48) (As := []) (rest := []) C h (k_X5_open z2 rfl) cw_X5_137 0 (mW_c0 _ _ _) rfl rfl rfl hl.1 (Nat.le_of_ble_eq_true rfl) dX5_slotState_48 ⟨Nat.le_of_ble_eq_true rfl, Nat.le_of_ble_eq_true rfl⟩ rfl rfl ⟨Nat.le_of_ble_eq_true rfl, Nat.le_of_ble_eq_true rfl⟩ (fun H locs h => ?_)
        refine W.eq (g2 := F0 m 51 ls [.int (f_X5_open z2)]) rfl ?_
        refine lv_iload_n (pc := 51) hx hb dX5_slotState_51 rfl (lv_at hl 2 rfl) ?_
        refine call_SR (pc := 52) (As := [.int (f_X5_open z2), .int x2]) (rest := []) (wc := []) C h (k_X5_has (f_X5_open z2) x2 rfl) cw_X5_85 [] rfl rfl rfl rfl hl.1 (Nat.le_of_ble_eq_true rfl) dX5_slotState_52 ⟨Nat.le_of_ble_eq_true rfl, Nat.le_of_ble_eq_true rfl⟩ rfl rfl ⟨Nat.le_of_ble_eq_true rfl, Nat.le_of_ble_eq_true rfl⟩ (fun H locs h => ?_)
        refine W.eq (g2 := F0 m 55 ls [.int (f_X5_has (f_X5_open z2) x2)]) rfl ?_
        refine lv_if_eq (pc := 55) (tgt := 62) hx hb dX5_slotState_55 (by decide) (fun c9 => ?_) (fun c9 => ?_)
        · have hf := ifT c9 hf
          refine lv_iconst (pc := 62) (v := 0) hx hb dX5_slotState_62 (by decide) ?_
          have hf : (some ((0 : Int32), z2)) = some z := hf
          cases hf
          exact ret_iU (pc := 63) C hr h dX5_slotState_63
        · have hf := ifF c9 hf
          refine lv_iconst (pc := 58) (v := 1) hx hb dX5_slotState_58 (by decide) ?_
          refine lv_goto (pc := 59) (tgt := 63) hx hb dX5_slotState_59 (by decide) ?_
          have hf : (some ((1 : Int32), z2)) = some z := hf
          cases hf
          exact ret_iU (pc := 63) C hr h dX5_slotState_63
      · have hf := ifF c9 hf
        refine lv_iconst (pc := 43) (v := 3) hx hb dX5_slotState_43 (by decide) ?_
        refine lv_goto (pc := 44) (tgt := 63) hx hb dX5_slotState_44 (by decide) ?_
        have hf : (some ((3 : Int32), z2)) = some z := hf
        cases hf
        exact ret_iU (pc := 63) C hr h dX5_slotState_63
    · have hf := ifF c9 hf
      refine lv_iconst (pc := 33) (v := 2) hx hb dX5_slotState_33 (by decide) ?_
      have hf : (some ((2 : Int32), z2)) = some z := hf
      cases hf
      exact ret_iU (pc := 34) C hr h dX5_slotState_34
  · have hf := ifT c9 hf
    refine lv_iconst (pc := 15) (v := 0) hx hb dX5_slotState_15 (by decide) ?_
    have hf : (some ((0 : Int32), (f_X5_goes σ z1 (1 : Int32) (1 : Int32)).2)) = some z := hf
    cases hf
    exact ret_iU (pc := 16) C hr h dX5_slotState_16
abbrev rm_X5_missing : Room := { frames := 4, cells := 0, slots := 0, locals := 89 }
def f_X5_missing (σ : Nat → Nat → Int32) (x1 x2 : Int32) : Option (Int32 × (Nat → Nat → Int32)) := ((f_X5_isSlot σ x1 x2).bind fun z1 => (if (f_X5_goes σ z1 (1 : Int32) (1 : Int32)).1 = 0 then (some ((0 : Int32), (f_X5_goes σ z1 (1 : Int32) (1 : Int32)).2)) else ((f_X5_looks (f_X5_goes σ z1 (1 : Int32) (1 : Int32)).2 x1).bind fun z2 => (if inb (((8 : Int32) * x1) + x2) 48 then ((f_X5_many (((z2 7) (((8 : Int32) * x1) + x2).toNatClampNeg) &&& ((z2 19 0) ^^^ (-1 : Int32)))).bind fun z3 => (some (z3, z2))) else none))))
set_option maxHeartbeats 400000 in
set_option maxRecDepth 100000 in
theorem k_X5_missing {q : Nat → Nat} {cA : Nat → ClassId} {D : va_G} (σ : Nat → Nat → Int32) (x1 x2 : Int32) {z : Int32 × (Nat → Nat → Int32)} (hf : f_X5_missing σ x1 x2 = some z) : CtU yX5_missing cX5_missing 3 (some .int) rm_X5_missing [.ref (q 0), .int x1, .int x2] D cA (mW q cA σ) (mW q cA z.2) (some (.int z.1)) 0 0 := by
  refine ctU_of (by decide) (Nat.le_of_ble_eq_true rfl) ?_
  intro p l e s m below meth c ls C hr hnm h hl
  have C : Cx p s m _ meth c cX5_missing 3 RX5 D cA := C
  obtain ⟨hx, hb, hml, hown, hts, hK, hlk⟩ := id C
  replace hl : lv_has ls 3 [(0, .ref (q 0)), (1, .int x1), (2, .int x2)] := hl
  rw [f_X5_missing] at hf
  refine lv_aload_n (pc := 0) hx hb dX5_missing_0 rfl (lv_at hl 0 rfl) ?_
  refine lv_aload_n (pc := 1) hx hb dX5_missing_1 rfl (lv_at hl 0 rfl) ?_
  refine lv_iload_n (pc := 2) hx hb dX5_missing_2 rfl (lv_at hl 1 rfl) ?_
  refine lv_iload_n (pc := 3) hx hb dX5_missing_3 rfl (lv_at hl 2 rfl) ?_
  obtain ⟨z1, hc1, hf⟩ := bdS hf
  refine call_VRs (pc := 4) (As := [.int x1, .int x2]) (rest := [.ref (q 0)]) C h (k_X5_isSlot σ x1 x2 hc1) cw_X5_147 0 (mW_c0 _ _ _) rfl rfl rfl hl.1 (Nat.le_of_ble_eq_true rfl) dX5_missing_4 ⟨Nat.le_of_ble_eq_true rfl, Nat.le_of_ble_eq_true rfl⟩ rfl rfl ⟨Nat.le_of_ble_eq_true rfl, Nat.le_of_ble_eq_true rfl⟩ (fun H locs h => ?_)
  refine W.eq (g2 := F0 m 7 ls [.int z1, .ref (q 0)]) rfl ?_
  refine lv_iconst (pc := 7) (v := 1) hx hb dX5_missing_7 (by decide) ?_
  refine lv_iconst (pc := 8) (v := 1) hx hb dX5_missing_8 (by decide) ?_
  refine call_VUs (pc := 9) (As := [.int z1, .int (1 : Int32), .int (1 : Int32)]) (rest := []) C h (k_X5_goes σ z1 (1 : Int32) (1 : Int32) rfl) cw_X5_123 0 (mW_c0 _ _ _) rfl (mW_fst _ _ _ _) rfl rfl hl.1 (Nat.le_of_ble_eq_true rfl) dX5_missing_9 ⟨Nat.le_of_ble_eq_true rfl, Nat.le_of_ble_eq_true rfl⟩ rfl rfl ⟨Nat.le_of_ble_eq_true rfl, Nat.le_of_ble_eq_true rfl⟩ (fun H locs h => ?_)
  refine W.eq (g2 := F0 m 12 ls [.int (f_X5_goes σ z1 (1 : Int32) (1 : Int32)).1]) rfl ?_
  refine lv_if_ne (pc := 12) (tgt := 17) hx hb dX5_missing_12 (by decide) (fun c9 => ?_) (fun c9 => ?_)
  · have hf := ifF c9 hf
    refine lv_aload_n (pc := 17) hx hb dX5_missing_17 rfl (lv_at hl 0 rfl) ?_
    refine lv_iload_n (pc := 18) hx hb dX5_missing_18 rfl (lv_at hl 1 rfl) ?_
    obtain ⟨z2, hc2, hf⟩ := bdS hf
    refine call_VUs (pc := 19) (As := [.int x1]) (rest := []) C h (k_X5_looks (f_X5_goes σ z1 (1 : Int32) (1 : Int32)).2 x1 hc2) cw_X5_109 0 (mW_c0 _ _ _) rfl (mW_fst _ _ _ _) rfl rfl hl.1 (Nat.le_of_ble_eq_true rfl) dX5_missing_19 ⟨Nat.le_of_ble_eq_true rfl, Nat.le_of_ble_eq_true rfl⟩ rfl rfl ⟨Nat.le_of_ble_eq_true rfl, Nat.le_of_ble_eq_true rfl⟩ (fun H locs h => ?_)
    refine W.eq (g2 := F0 m 22 ls []) rfl ?_
    refine lv_aload_n (pc := 22) hx hb dX5_missing_22 rfl (lv_at hl 0 rfl) ?_
    refine g_get (pc := 23) (v := .ref (q 6)) C h.1 0 (mW_c0 _ _ _) fl_X5_25 rfl dX5_missing_23 ?_
    refine lv_bipush (pc := 26) (v := 8) hx hb dX5_missing_26 (by decide) ?_
    refine lv_iload_n (pc := 28) hx hb dX5_missing_28 rfl (lv_at hl 1 rfl) ?_
    refine lv_imul (pc := 29) hx hb dX5_missing_29 ?_
    refine lv_iload_n (pc := 30) hx hb dX5_missing_30 rfl (lv_at hl 2 rfl) ?_
    refine lv_iadd (pc := 31) hx hb dX5_missing_31 ?_
    obtain ⟨hin, hf⟩ := ifS hf
    refine g_ild (pc := 32) (n := 48) (f := (z2 7)) C h.1 6 (mW_c6 _ _ _) hin dX5_missing_32 ?_
    refine lv_aload_n (pc := 33) hx hb dX5_missing_33 rfl (lv_at hl 0 rfl) ?_
    refine g_get (pc := 34) (v := .int (z2 19 0)) C h.1 0 (mW_c0 _ _ _) fl_X5_89 rfl dX5_missing_34 ?_
    refine lv_iconst (pc := 37) (v := -1) hx hb dX5_missing_37 (by decide) ?_
    refine lv_ixor (pc := 38) hx hb dX5_missing_38 ?_
    refine lv_iand (pc := 39) hx hb dX5_missing_39 ?_
    obtain ⟨z3, hc3, hf⟩ := bdS hf
    refine call_SR (pc := 40) (As := [.int (((z2 7) (((8 : Int32) * x1) + x2).toNatClampNeg) &&& ((z2 19 0) ^^^ (-1 : Int32)))]) (rest := []) (wc := []) C h (k_X5_many (((z2 7) (((8 : Int32) * x1) + x2).toNatClampNeg) &&& ((z2 19 0) ^^^ (-1 : Int32))) hc3) cw_X5_120 [] rfl rfl rfl rfl hl.1 (Nat.le_of_ble_eq_true rfl) dX5_missing_40 ⟨Nat.le_of_ble_eq_true rfl, Nat.le_of_ble_eq_true rfl⟩ rfl rfl ⟨Nat.le_of_ble_eq_true rfl, Nat.le_of_ble_eq_true rfl⟩ (fun H locs h => ?_)
    refine W.eq (g2 := F0 m 43 ls [.int z3]) rfl ?_
    have hf : (some (z3, z2)) = some z := hf
    cases hf
    exact ret_iU (pc := 43) C hr h dX5_missing_43
  · have hf := ifT c9 hf
    refine lv_iconst (pc := 15) (v := 0) hx hb dX5_missing_15 (by decide) ?_
    have hf : (some ((0 : Int32), (f_X5_goes σ z1 (1 : Int32) (1 : Int32)).2)) = some z := hf
    cases hf
    exact ret_iU (pc := 16) C hr h dX5_missing_16
abbrev rm_X5_reach : Room := { frames := 1, cells := 0, slots := 0, locals := 21 }
def f_X5_reach_12 : Nat → (Nat → Nat → Int32) → Int32 → Int32 → Int32 → Int32 → Option (Int32 × Int32)
  | 0, _, _, _, _, _ => none
  | n + 1, σ, x1, x2, x3, x4 => (if x4 < 0 then some (x3, x4) else (if (f_X5_has x3 x4) = 0 then (f_X5_reach_12 n σ x1 x2 (x3 ||| (0 : Int32)) (x4 + (-1 : Int32))) else (if inb (((8 : Int32) * x1) + x4) 48 then (f_X5_reach_12 n σ x1 x2 (x3 ||| ((σ 7) (((8 : Int32) * x1) + x4).toNatClampNeg)) (x4 + (-1 : Int32))) else none)))
def f_X5_reach (σ : Nat → Nat → Int32) (x1 x2 : Int32) : Option (Int32) := (if inb x1 6 then ((f_X5_reach_12 FU σ x1 x2 x2 (((σ 2) x1.toNatClampNeg) - (1 : Int32))).bind fun z1 => (some z1.1)) else none)
set_option maxHeartbeats 400000 in
set_option maxRecDepth 100000 in
theorem l_X5_reach_12 (C : Cx p s m args meth c cX5_reach 5 RX5 D cA) : ∀ (n : Nat) (σ : Nat → Nat → Int32) (x1 x2 x3 x4 : Int32) (z : Int32 × Int32), f_X5_reach_12 n σ x1 x2 x3 x4 = some z → ∀ (H : Heap) (locs : List Loc) (ls : Array Slot), SR D s.heap (mW q cA σ) H locs → lv_has ls 5 [(0, .ref (q 0)), (1, .int x1), (2, .int x2), (3, .int x3), (4, .int x4)] → (∀ (H : Heap) (locs : List Loc) (ls : Array Slot), SR D s.heap (mW q cA σ) H locs → lv_has ls 5 [(0, .ref (q 0)), (1, .int x1), (2, .int x2), (3, .int z.1), (4, .int z.2)] → W p l e rm_X5_reach s m args below meth c H locs 0 0 Q (F0 m 51 ls [])) → W p l e rm_X5_reach s m args below meth c H locs 0 0 Q (F0 m 12 ls []) := by
  obtain ⟨hx, hb, hml, hown, hts, hK, hlk⟩ := id C
  intro n
  induction n with
  | zero => intro σ x1 x2 x3 x4 z hf; rw [f_X5_reach_12] at hf; cases hf
  | succ n ih =>
    intro σ x1 x2 x3 x4 z hf H locs ls h hl kk
    rw [f_X5_reach_12] at hf
    refine lv_iload (pc := 12) hx hb dX5_reach_12 (lv_at hl 4 rfl) ?_
    refine lv_if_lt (pc := 14) (tgt := 51) hx hb dX5_reach_14 (by decide) (fun c9 => ?_) (fun c9 => ?_)
    · have hf := ifT c9 hf
      have hf : some (x3, x4) = some z := hf
      cases hf
      exact kk _ _ _ h (lv_sub hl [0, 1, 2, 3, 4] rfl)
    · have hf := ifF c9 hf
      refine lv_iload_n (pc := 17) hx hb dX5_reach_17 rfl (lv_at hl 3 rfl) ?_
      refine lv_iload_n (pc := 18) hx hb dX5_reach_18 rfl (lv_at hl 3 rfl) ?_
      refine lv_iload (pc := 19) hx hb dX5_reach_19 (lv_at hl 4 rfl) ?_
      refine call_SRR (pc := 21) (As := [.int x3, .int x4]) (rest := [.int x3]) (wc := []) C h (k_X5_has x3 x4 rfl) cw_X5_85 [] rfl rfl rfl rfl hl.1 (Nat.le_of_ble_eq_true rfl) dX5_reach_21 ⟨Nat.le_of_ble_eq_true rfl, Nat.le_of_ble_eq_true rfl⟩ rfl rfl ⟨Nat.le_of_ble_eq_true rfl, Nat.le_of_ble_eq_true rfl⟩ (fun H locs h => ?_)
      refine W.eq (g2 := F0 m 24 ls [.int (f_X5_has x3 x4), .int x3]) rfl ?_
      refine lv_if_eq (pc := 24) (tgt := 42) hx hb dX5_reach_24 (by decide) (fun c9 => ?_) (fun c9 => ?_)
      · have hf := ifT c9 hf
        refine lv_iconst (pc := 42) (v := 0) hx hb dX5_reach_42 (by decide) ?_
        refine lv_ior (pc := 43) hx hb dX5_reach_43 ?_
        refine lv_istore_n (pc := 44) (lv' := [(3, .int (x3 ||| (0 : Int32))), (0, .ref (q 0)), (1, .int x1), (2, .int x2), (4, .int x4)]) hx hb dX5_reach_44 rfl hl (by decide) rfl (fun ls hl => ?_)
        refine lv_iinc (pc := 45) (v := (x4 + (-1 : Int32))) (lv' := [(4, .int (x4 + (-1 : Int32))), (3, .int (x3 ||| (0 : Int32))), (0, .ref (q 0)), (1, .int x1), (2, .int x2)]) hx hb dX5_reach_45 hl (k := 4) rfl rfl (by decide) rfl (fun ls hl => ?_)
        refine lv_goto (pc := 48) (tgt := 12) hx hb dX5_reach_48 (by decide) ?_
        exact ih _ _ _ _ _ _ hf _ _ _ h (lv_sub hl [2, 3, 4, 1, 0] rfl) kk
      · have hf := ifF c9 hf
        refine lv_aload_n (pc := 27) hx hb dX5_reach_27 rfl (lv_at hl 0 rfl) ?_
        refine g_get (pc := 28) (v := .ref (q 6)) C h.1 0 (mW_c0 _ _ _) fl_X5_25 rfl dX5_reach_28 ?_
        refine lv_bipush (pc := 31) (v := 8) hx hb dX5_reach_31 (by decide) ?_
        refine lv_iload_n (pc := 33) hx hb dX5_reach_33 rfl (lv_at hl 1 rfl) ?_
        refine lv_imul (pc := 34) hx hb dX5_reach_34 ?_
        refine lv_iload (pc := 35) hx hb dX5_reach_35 (lv_at hl 4 rfl) ?_
        refine lv_iadd (pc := 37) hx hb dX5_reach_37 ?_
        obtain ⟨hin, hf⟩ := ifS hf
        refine g_ild (pc := 38) (n := 48) (f := (σ 7)) C h.1 6 (mW_c6 _ _ _) hin dX5_reach_38 ?_
        refine lv_goto (pc := 39) (tgt := 43) hx hb dX5_reach_39 (by decide) ?_
        refine lv_ior (pc := 43) hx hb dX5_reach_43 ?_
        refine lv_istore_n (pc := 44) (lv' := [(3, .int (x3 ||| ((σ 7) (((8 : Int32) * x1) + x4).toNatClampNeg))), (0, .ref (q 0)), (1, .int x1), (2, .int x2), (4, .int x4)]) hx hb dX5_reach_44 rfl hl (by decide) rfl (fun ls hl => ?_)
        refine lv_iinc (pc := 45) (v := (x4 + (-1 : Int32))) (lv' := [(4, .int (x4 + (-1 : Int32))), (3, .int (x3 ||| ((σ 7) (((8 : Int32) * x1) + x4).toNatClampNeg))), (0, .ref (q 0)), (1, .int x1), (2, .int x2)]) hx hb dX5_reach_45 hl (k := 4) rfl rfl (by decide) rfl (fun ls hl => ?_)
        refine lv_goto (pc := 48) (tgt := 12) hx hb dX5_reach_48 (by decide) ?_
        exact ih _ _ _ _ _ _ hf _ _ _ h (lv_sub hl [2, 3, 4, 1, 0] rfl) kk
set_option maxHeartbeats 400000 in
set_option maxRecDepth 100000 in
theorem k_X5_reach {q : Nat → Nat} {cA : Nat → ClassId} {D : va_G} (σ : Nat → Nat → Int32) (x1 x2 : Int32) {z : Int32} (hf : f_X5_reach σ x1 x2 = some z) : CtR yX5_reach cX5_reach 5 (some .int) rm_X5_reach [.ref (q 0), .int x1, .int x2] D cA (mW q cA σ) (some (.int z)) 0 0 := by
  refine ctR_of (by decide) (Nat.le_of_ble_eq_true rfl) ?_
  intro p l e s m below meth c ls C hr hnm h hl
  have C : Cx p s m _ meth c cX5_reach 5 RX5 D cA := C
  obtain ⟨hx, hb, hml, hown, hts, hK, hlk⟩ := id C
  replace hl : lv_has ls 5 [(0, .ref (q 0)), (1, .int x1), (2, .int x2)] := hl
  rw [f_X5_reach] at hf
  refine lv_iload_n (pc := 0) hx hb dX5_reach_0 rfl (lv_at hl 2 rfl) ?_
  refine lv_istore_n (pc := 1) (lv' := [(3, .int x2), (0, .ref (q 0)), (1, .int x1), (2, .int x2)]) hx hb dX5_reach_1 rfl hl (by decide) rfl (fun ls hl => ?_)
  refine lv_aload_n (pc := 2) hx hb dX5_reach_2 rfl (lv_at hl 1 rfl) ?_
  refine g_get (pc := 3) (v := .ref (q 1)) C h.1 0 (mW_c0 _ _ _) fl_X5_7 rfl dX5_reach_3 ?_
  refine lv_iload_n (pc := 6) hx hb dX5_reach_6 rfl (lv_at hl 2 rfl) ?_
  obtain ⟨hin, hf⟩ := ifS hf
  refine g_ild (pc := 7) (n := 6) (f := (σ 2)) C h.1 1 (mW_c1 _ _ _) hin dX5_reach_7 ?_
  refine lv_iconst (pc := 8) (v := 1) hx hb dX5_reach_8 (by decide) ?_
  refine lv_isub (pc := 9) hx hb dX5_reach_9 ?_
  refine lv_istore (pc := 10) (lv' := [(4, .int (((σ 2) x1.toNatClampNeg) - (1 : Int32))), (3, .int x2), (0, .ref (q 0)), (1, .int x1), (2, .int x2)]) hx hb dX5_reach_10 hl (by decide) rfl (fun ls hl => ?_)
  obtain ⟨z1, hc1, hf⟩ := bdS hf
  refine l_X5_reach_12 C _ _ _ _ _ _ _ hc1 _ _ _ h (lv_sub hl [2, 3, 4, 1, 0] rfl) (fun H locs ls h hl => ?_)
  refine lv_iload_n (pc := 51) hx hb dX5_reach_51 rfl (lv_at hl 3 rfl) ?_
  have hf : (some z1.1) = some z := hf
  cases hf
  exact ret_iR (pc := 52) C hr h dX5_reach_52
abbrev rm_X5_ahead : Room := { frames := 3, cells := 0, slots := 0, locals := 65 }
def f_X5_ahead (σ : Nat → Nat → Int32) (x1 x2 : Int32) : Option (Int32 × (Nat → Nat → Int32)) := ((f_X5_isSlot σ x1 x2).bind fun z1 => (if (f_X5_goes σ z1 (1 : Int32) (1 : Int32)).1 = 0 then (some ((0 : Int32), (f_X5_goes σ z1 (1 : Int32) (1 : Int32)).2)) else ((f_X5_reach (f_X5_goes σ z1 (1 : Int32) (1 : Int32)).2 x1 ((1 : Int32) <<< (x2 &&& 31))).bind fun z2 => ((f_X5_many z2).bind fun z3 => (some ((z3 - (1 : Int32)), (f_X5_goes σ z1 (1 : Int32) (1 : Int32)).2))))))
set_option maxHeartbeats 400000 in
set_option maxRecDepth 100000 in
theorem k_X5_ahead {q : Nat → Nat} {cA : Nat → ClassId} {D : va_G} (σ : Nat → Nat → Int32) (x1 x2 : Int32) {z : Int32 × (Nat → Nat → Int32)} (hf : f_X5_ahead σ x1 x2 = some z) : CtU yX5_ahead cX5_ahead 3 (some .int) rm_X5_ahead [.ref (q 0), .int x1, .int x2] D cA (mW q cA σ) (mW q cA z.2) (some (.int z.1)) 0 0 := by
  refine ctU_of (by decide) (Nat.le_of_ble_eq_true rfl) ?_
  intro p l e s m below meth c ls C hr hnm h hl
  have C : Cx p s m _ meth c cX5_ahead 3 RX5 D cA := C
  obtain ⟨hx, hb, hml, hown, hts, hK, hlk⟩ := id C
  replace hl : lv_has ls 3 [(0, .ref (q 0)), (1, .int x1), (2, .int x2)] := hl
  rw [f_X5_ahead] at hf
  refine lv_aload_n (pc := 0) hx hb dX5_ahead_0 rfl (lv_at hl 0 rfl) ?_
  refine lv_aload_n (pc := 1) hx hb dX5_ahead_1 rfl (lv_at hl 0 rfl) ?_
  refine lv_iload_n (pc := 2) hx hb dX5_ahead_2 rfl (lv_at hl 1 rfl) ?_
  refine lv_iload_n (pc := 3) hx hb dX5_ahead_3 rfl (lv_at hl 2 rfl) ?_
  obtain ⟨z1, hc1, hf⟩ := bdS hf
  refine call_VRs (pc := 4) (As := [.int x1, .int x2]) (rest := [.ref (q 0)]) C h (k_X5_isSlot σ x1 x2 hc1) cw_X5_147 0 (mW_c0 _ _ _) rfl rfl rfl hl.1 (Nat.le_of_ble_eq_true rfl) dX5_ahead_4 ⟨Nat.le_of_ble_eq_true rfl, Nat.le_of_ble_eq_true rfl⟩ rfl rfl ⟨Nat.le_of_ble_eq_true rfl, Nat.le_of_ble_eq_true rfl⟩ (fun H locs h => ?_)
  refine W.eq (g2 := F0 m 7 ls [.int z1, .ref (q 0)]) rfl ?_
  refine lv_iconst (pc := 7) (v := 1) hx hb dX5_ahead_7 (by decide) ?_
  refine lv_iconst (pc := 8) (v := 1) hx hb dX5_ahead_8 (by decide) ?_
  refine call_VUs (pc := 9) (As := [.int z1, .int (1 : Int32), .int (1 : Int32)]) (rest := []) C h (k_X5_goes σ z1 (1 : Int32) (1 : Int32) rfl) cw_X5_123 0 (mW_c0 _ _ _) rfl (mW_fst _ _ _ _) rfl rfl hl.1 (Nat.le_of_ble_eq_true rfl) dX5_ahead_9 ⟨Nat.le_of_ble_eq_true rfl, Nat.le_of_ble_eq_true rfl⟩ rfl rfl ⟨Nat.le_of_ble_eq_true rfl, Nat.le_of_ble_eq_true rfl⟩ (fun H locs h => ?_)
  refine W.eq (g2 := F0 m 12 ls [.int (f_X5_goes σ z1 (1 : Int32) (1 : Int32)).1]) rfl ?_
  refine lv_if_eq (pc := 12) (tgt := 31) hx hb dX5_ahead_12 (by decide) (fun c9 => ?_) (fun c9 => ?_)
  · have hf := ifT c9 hf
    refine lv_iconst (pc := 31) (v := 0) hx hb dX5_ahead_31 (by decide) ?_
    have hf : (some ((0 : Int32), (f_X5_goes σ z1 (1 : Int32) (1 : Int32)).2)) = some z := hf
    cases hf
    exact ret_iU (pc := 32) C hr h dX5_ahead_32
  · have hf := ifF c9 hf
    refine lv_aload_n (pc := 15) hx hb dX5_ahead_15 rfl (lv_at hl 0 rfl) ?_
    refine lv_iload_n (pc := 16) hx hb dX5_ahead_16 rfl (lv_at hl 1 rfl) ?_
    refine lv_iconst (pc := 17) (v := 1) hx hb dX5_ahead_17 (by decide) ?_
    refine lv_iload_n (pc := 18) hx hb dX5_ahead_18 rfl (lv_at hl 2 rfl) ?_
    refine lv_ishl (pc := 19) hx hb dX5_ahead_19 ?_
    obtain ⟨z2, hc2, hf⟩ := bdS hf
    refine call_VRs (pc := 20) (As := [.int x1, .int ((1 : Int32) <<< (x2 &&& 31))]) (rest := []) C h (k_X5_reach (f_X5_goes σ z1 (1 : Int32) (1 : Int32)).2 x1 ((1 : Int32) <<< (x2 &&& 31)) hc2) cw_X5_169 0 (mW_c0 _ _ _) rfl rfl rfl hl.1 (Nat.le_of_ble_eq_true rfl) dX5_ahead_20 ⟨Nat.le_of_ble_eq_true rfl, Nat.le_of_ble_eq_true rfl⟩ rfl rfl ⟨Nat.le_of_ble_eq_true rfl, Nat.le_of_ble_eq_true rfl⟩ (fun H locs h => ?_)
    refine W.eq (g2 := F0 m 23 ls [.int z2]) rfl ?_
    obtain ⟨z3, hc3, hf⟩ := bdS hf
    refine call_SR (pc := 23) (As := [.int z2]) (rest := []) (wc := []) C h (k_X5_many z2 hc3) cw_X5_120 [] rfl rfl rfl rfl hl.1 (Nat.le_of_ble_eq_true rfl) dX5_ahead_23 ⟨Nat.le_of_ble_eq_true rfl, Nat.le_of_ble_eq_true rfl⟩ rfl rfl ⟨Nat.le_of_ble_eq_true rfl, Nat.le_of_ble_eq_true rfl⟩ (fun H locs h => ?_)
    refine W.eq (g2 := F0 m 26 ls [.int z3]) rfl ?_
    refine lv_iconst (pc := 26) (v := 1) hx hb dX5_ahead_26 (by decide) ?_
    refine lv_isub (pc := 27) hx hb dX5_ahead_27 ?_
    refine lv_goto (pc := 28) (tgt := 32) hx hb dX5_ahead_28 (by decide) ?_
    have hf : (some ((z3 - (1 : Int32)), (f_X5_goes σ z1 (1 : Int32) (1 : Int32)).2)) = some z := hf
    cases hf
    exact ret_iU (pc := 32) C hr h dX5_ahead_32
abbrev rm_X5_roundOf : Room := { frames := 3, cells := 0, slots := 0, locals := 65 }
def f_X5_roundOf_42 : Nat → (Nat → Nat → Int32) → Int32 → Int32 → Int32 → Int32 → Int32 → Int32 → Option (Int32 × Int32)
  | 0, _, _, _, _, _, _, _ => none
  | n + 1, σ, x1, x2, x3, x4, x5, x6 => (if (8 : Int32) ≤ x6 then some (x5, x6) else (if (f_X5_has x3 x6) = 0 then (f_X5_roundOf_42 n σ x1 x2 x3 x4 (x5 ||| (0 : Int32)) (x6 + (1 : Int32))) else (if inb (((8 : Int32) * x1) + x6) 48 then (f_X5_roundOf_42 n σ x1 x2 x3 x4 (x5 ||| ((σ 7) (((8 : Int32) * x1) + x6).toNatClampNeg)) (x6 + (1 : Int32))) else none)))
def f_X5_roundOf_32 : Nat → (Nat → Nat → Int32) → Int32 → Int32 → Int32 → Int32 → Option (Int32 × Int32)
  | 0, _, _, _, _, _ => none
  | n + 1, σ, x1, x2, x3, x4 => (if x3 = 0 then some (x3, x4) else ((f_X5_roundOf_42 FU σ x1 x2 x3 x4 (0 : Int32) (0 : Int32)).bind fun z2 => (f_X5_roundOf_32 n σ x1 x2 z2.1 (x4 + (1 : Int32)))))
def f_X5_roundOf (σ : Nat → Nat → Int32) (x1 x2 : Int32) : Option (Int32 × (Nat → Nat → Int32)) := ((f_X5_isSlot σ x1 x2).bind fun z1 => (if (f_X5_goes σ z1 (1 : Int32) (1 : Int32)).1 = 0 then (some ((0 : Int32), (f_X5_goes σ z1 (1 : Int32) (1 : Int32)).2)) else (if inb (((8 : Int32) * x1) + x2) 48 then ((f_X5_roundOf_32 FU (f_X5_goes σ z1 (1 : Int32) (1 : Int32)).2 x1 x2 (((f_X5_goes σ z1 (1 : Int32) (1 : Int32)).2 7) (((8 : Int32) * x1) + x2).toNatClampNeg) (0 : Int32)).bind fun z2 => (some (z2.2, (f_X5_goes σ z1 (1 : Int32) (1 : Int32)).2))) else none)))
set_option maxHeartbeats 400000 in
set_option maxRecDepth 100000 in
theorem l_X5_roundOf_42 (C : Cx p s m args meth c cX5_roundOf 7 RX5 D cA) : ∀ (n : Nat) (σ : Nat → Nat → Int32) (x1 x2 x3 x4 x5 x6 : Int32) (z : Int32 × Int32), f_X5_roundOf_42 n σ x1 x2 x3 x4 x5 x6 = some z → ∀ (H : Heap) (locs : List Loc) (ls : Array Slot), St D A s.heap (mW q cA σ) H locs → lv_has ls 7 [(0, .ref (q 0)), (1, .int x1), (2, .int x2), (3, .int x3), (4, .int x4), (5, .int x5), (6, .int x6)] → (∀ (H : Heap) (locs : List Loc) (ls : Array Slot), St D A s.heap (mW q cA σ) H locs → lv_has ls 7 [(0, .ref (q 0)), (1, .int x1), (2, .int x2), (3, .int x3), (4, .int x4), (5, .int z.1), (6, .int z.2)] → W p l e rm_X5_roundOf s m args below meth c H locs 0 0 Q (F0 m 85 ls [])) → W p l e rm_X5_roundOf s m args below meth c H locs 0 0 Q (F0 m 42 ls []) := by
  obtain ⟨hx, hb, hml, hown, hts, hK, hlk⟩ := id C
  intro n
  induction n with
  | zero => intro σ x1 x2 x3 x4 x5 x6 z hf; rw [f_X5_roundOf_42] at hf; cases hf
  | succ n ih =>
    intro σ x1 x2 x3 x4 x5 x6 z hf H locs ls h hl kk
    rw [f_X5_roundOf_42] at hf
    refine lv_iload (pc := 42) hx hb dX5_roundOf_42 (lv_at hl 6 rfl) ?_
    refine lv_bipush (pc := 44) (v := 8) hx hb dX5_roundOf_44 (by decide) ?_
    refine lv_icmp_ge (pc := 46) (tgt := 85) hx hb dX5_roundOf_46 (by decide) (fun c9 => ?_) (fun c9 => ?_)
    · have hf := ifT c9 hf
      have hf : some (x5, x6) = some z := hf
      cases hf
      exact kk _ _ _ h (lv_sub hl [0, 1, 2, 3, 4, 5, 6] rfl)
    · have hf := ifF c9 hf
      refine lv_iload (pc := 49) hx hb dX5_roundOf_49 (lv_at hl 5 rfl) ?_
      refine lv_iload_n (pc := 51) hx hb dX5_roundOf_51 rfl (lv_at hl 3 rfl) ?_
      refine lv_iload (pc := 52) hx hb dX5_roundOf_52 (lv_at hl 6 rfl) ?_
      refine call_SR (pc := 54) (As := [.int x3, .int x6]) (rest := [.int x5]) (wc := []) C h (k_X5_has x3 x6 rfl) cw_X5_85 [] rfl rfl rfl rfl hl.1 (Nat.le_of_ble_eq_true rfl) dX5_roundOf_54 ⟨Nat.le_of_ble_eq_true rfl, Nat.le_of_ble_eq_true rfl⟩ rfl rfl ⟨Nat.le_of_ble_eq_true rfl, Nat.le_of_ble_eq_true rfl⟩ (fun H locs h => ?_)
      refine W.eq (g2 := F0 m 57 ls [.int (f_X5_has x3 x6), .int x5]) rfl ?_
      refine lv_if_eq (pc := 57) (tgt := 75) hx hb dX5_roundOf_57 (by decide) (fun c9 => ?_) (fun c9 => ?_)
      · have hf := ifT c9 hf
        refine lv_iconst (pc := 75) (v := 0) hx hb dX5_roundOf_75 (by decide) ?_
        refine lv_ior (pc := 76) hx hb dX5_roundOf_76 ?_
        refine lv_istore (pc := 77) (lv' := [(5, .int (x5 ||| (0 : Int32))), (0, .ref (q 0)), (1, .int x1), (2, .int x2), (3, .int x3), (4, .int x4), (6, .int x6)]) hx hb dX5_roundOf_77 hl (by decide) rfl (fun ls hl => ?_)
        refine lv_iinc (pc := 79) (v := (x6 + (1 : Int32))) (lv' := [(6, .int (x6 + (1 : Int32))), (5, .int (x5 ||| (0 : Int32))), (0, .ref (q 0)), (1, .int x1), (2, .int x2), (3, .int x3), (4, .int x4)]) hx hb dX5_roundOf_79 hl (k := 6) rfl rfl (by decide) rfl (fun ls hl => ?_)
        refine lv_goto (pc := 82) (tgt := 42) hx hb dX5_roundOf_82 (by decide) ?_
        exact ih _ _ _ _ _ _ _ _ hf _ _ _ h (lv_sub hl [2, 3, 4, 5, 6, 1, 0] rfl) kk
      · have hf := ifF c9 hf
        refine lv_aload_n (pc := 60) hx hb dX5_roundOf_60 rfl (lv_at hl 0 rfl) ?_
        refine g_get (pc := 61) (v := .ref (q 6)) C h.1 0 (mW_c0 _ _ _) fl_X5_25 rfl dX5_roundOf_61 ?_
        refine lv_bipush (pc := 64) (v := 8) hx hb dX5_roundOf_64 (by decide) ?_
        refine lv_iload_n (pc := 66) hx hb dX5_roundOf_66 rfl (lv_at hl 1 rfl) ?_
        refine lv_imul (pc := 67) hx hb dX5_roundOf_67 ?_
        refine lv_iload (pc := 68) hx hb dX5_roundOf_68 (lv_at hl 6 rfl) ?_
        refine lv_iadd (pc := 70) hx hb dX5_roundOf_70 ?_
        obtain ⟨hin, hf⟩ := ifS hf
        refine g_ild (pc := 71) (n := 48) (f := (σ 7)) C h.1 6 (mW_c6 _ _ _) hin dX5_roundOf_71 ?_
        refine lv_goto (pc := 72) (tgt := 76) hx hb dX5_roundOf_72 (by decide) ?_
        refine lv_ior (pc := 76) hx hb dX5_roundOf_76 ?_
        refine lv_istore (pc := 77) (lv' := [(5, .int (x5 ||| ((σ 7) (((8 : Int32) * x1) + x6).toNatClampNeg))), (0, .ref (q 0)), (1, .int x1), (2, .int x2), (3, .int x3), (4, .int x4), (6, .int x6)]) hx hb dX5_roundOf_77 hl (by decide) rfl (fun ls hl => ?_)
        refine lv_iinc (pc := 79) (v := (x6 + (1 : Int32))) (lv' := [(6, .int (x6 + (1 : Int32))), (5, .int (x5 ||| ((σ 7) (((8 : Int32) * x1) + x6).toNatClampNeg))), (0, .ref (q 0)), (1, .int x1), (2, .int x2), (3, .int x3), (4, .int x4)]) hx hb dX5_roundOf_79 hl (k := 6) rfl rfl (by decide) rfl (fun ls hl => ?_)
        refine lv_goto (pc := 82) (tgt := 42) hx hb dX5_roundOf_82 (by decide) ?_
        exact ih _ _ _ _ _ _ _ _ hf _ _ _ h (lv_sub hl [2, 3, 4, 5, 6, 1, 0] rfl) kk
set_option maxHeartbeats 400000 in
set_option maxRecDepth 100000 in
theorem l_X5_roundOf_32 (C : Cx p s m args meth c cX5_roundOf 7 RX5 D cA) : ∀ (n : Nat) (σ : Nat → Nat → Int32) (x1 x2 x3 x4 : Int32) (z : Int32 × Int32), f_X5_roundOf_32 n σ x1 x2 x3 x4 = some z → ∀ (H : Heap) (locs : List Loc) (ls : Array Slot), St D A s.heap (mW q cA σ) H locs → lv_has ls 7 [(0, .ref (q 0)), (1, .int x1), (2, .int x2), (3, .int x3), (4, .int x4)] → (∀ (H : Heap) (locs : List Loc) (ls : Array Slot), St D A s.heap (mW q cA σ) H locs → lv_has ls 7 [(0, .ref (q 0)), (1, .int x1), (2, .int x2), (3, .int z.1), (4, .int z.2)] → W p l e rm_X5_roundOf s m args below meth c H locs 0 0 Q (F0 m 94 ls [])) → W p l e rm_X5_roundOf s m args below meth c H locs 0 0 Q (F0 m 32 ls []) := by
  obtain ⟨hx, hb, hml, hown, hts, hK, hlk⟩ := id C
  intro n
  induction n with
  | zero => intro σ x1 x2 x3 x4 z hf; rw [f_X5_roundOf_32] at hf; cases hf
  | succ n ih =>
    intro σ x1 x2 x3 x4 z hf H locs ls h hl kk
    rw [f_X5_roundOf_32] at hf
    refine lv_iload_n (pc := 32) hx hb dX5_roundOf_32 rfl (lv_at hl 3 rfl) ?_
    refine lv_if_eq (pc := 33) (tgt := 94) hx hb dX5_roundOf_33 (by decide) (fun c9 => ?_) (fun c9 => ?_)
    · have hf := ifT c9 hf
      have hf : some (x3, x4) = some z := hf
      cases hf
      exact kk _ _ _ h (lv_sub hl [0, 1, 2, 3, 4] rfl)
    · have hf := ifF c9 hf
      refine lv_iconst (pc := 36) (v := 0) hx hb dX5_roundOf_36 (by decide) ?_
      refine lv_istore (pc := 37) (lv' := [(5, .int (0 : Int32)), (0, .ref (q 0)), (1, .int x1), (2, .int x2), (3, .int x3), (4, .int x4)]) hx hb dX5_roundOf_37 hl (by decide) rfl (fun ls hl => ?_)
      refine lv_iconst (pc := 39) (v := 0) hx hb dX5_roundOf_39 (by decide) ?_
      refine lv_istore (pc := 40) (lv' := [(6, .int (0 : Int32)), (5, .int (0 : Int32)), (0, .ref (q 0)), (1, .int x1), (2, .int x2), (3, .int x3), (4, .int x4)]) hx hb dX5_roundOf_40 hl (by decide) rfl (fun ls hl => ?_)
      obtain ⟨z2, hc2, hf⟩ := bdS hf
      refine l_X5_roundOf_42 C _ _ _ _ _ _ _ _ _ hc2 _ _ _ h (lv_sub hl [2, 3, 4, 5, 6, 1, 0] rfl) (fun H locs ls h hl => ?_)
      refine lv_iload (pc := 85) hx hb dX5_roundOf_85 (lv_at hl 5 rfl) ?_
      refine lv_istore_n (pc := 87) (lv' := [(3, .int z2.1), (0, .ref (q 0)), (1, .int x1), (2, .int x2), (4, .int x4), (5, .int z2.1), (6, .int z2.2)]) hx hb dX5_roundOf_87 rfl hl (by decide) rfl (fun ls hl => ?_)
      refine lv_iinc (pc := 88) (v := (x4 + (1 : Int32))) (lv' := [(4, .int (x4 + (1 : Int32))), (3, .int z2.1), (0, .ref (q 0)), (1, .int x1), (2, .int x2), (5, .int z2.1), (6, .int z2.2)]) hx hb dX5_roundOf_88 hl (k := 4) rfl rfl (by decide) rfl (fun ls hl => ?_)
      refine lv_goto (pc := 91) (tgt := 32) hx hb dX5_roundOf_91 (by decide) ?_
      exact ih _ _ _ _ _ _ hf _ _ _ h (lv_sub hl [2, 3, 4, 1, 0] rfl) kk
set_option maxHeartbeats 400000 in
set_option maxRecDepth 100000 in
theorem k_X5_roundOf {q : Nat → Nat} {cA : Nat → ClassId} {D : va_G} (σ : Nat → Nat → Int32) (x1 x2 : Int32) {z : Int32 × (Nat → Nat → Int32)} (hf : f_X5_roundOf σ x1 x2 = some z) : CtU yX5_roundOf cX5_roundOf 7 (some .int) rm_X5_roundOf [.ref (q 0), .int x1, .int x2] D cA (mW q cA σ) (mW q cA z.2) (some (.int z.1)) 0 0 := by
  refine ctU_of (by decide) (Nat.le_of_ble_eq_true rfl) ?_
  intro p l e s m below meth c ls C hr hnm h hl
  have C : Cx p s m _ meth c cX5_roundOf 7 RX5 D cA := C
  obtain ⟨hx, hb, hml, hown, hts, hK, hlk⟩ := id C
  replace hl : lv_has ls 7 [(0, .ref (q 0)), (1, .int x1), (2, .int x2)] := hl
  rw [f_X5_roundOf] at hf
  refine lv_aload_n (pc := 0) hx hb dX5_roundOf_0 rfl (lv_at hl 0 rfl) ?_
  refine lv_aload_n (pc := 1) hx hb dX5_roundOf_1 rfl (lv_at hl 0 rfl) ?_
  refine lv_iload_n (pc := 2) hx hb dX5_roundOf_2 rfl (lv_at hl 1 rfl) ?_
  refine lv_iload_n (pc := 3) hx hb dX5_roundOf_3 rfl (lv_at hl 2 rfl) ?_
  obtain ⟨z1, hc1, hf⟩ := bdS hf
  refine call_VRs (pc := 4) (As := [.int x1, .int x2]) (rest := [.ref (q 0)]) C h (k_X5_isSlot σ x1 x2 hc1) cw_X5_147 0 (mW_c0 _ _ _) rfl rfl rfl hl.1 (Nat.le_of_ble_eq_true rfl) dX5_roundOf_4 ⟨Nat.le_of_ble_eq_true rfl, Nat.le_of_ble_eq_true rfl⟩ rfl rfl ⟨Nat.le_of_ble_eq_true rfl, Nat.le_of_ble_eq_true rfl⟩ (fun H locs h => ?_)
  refine W.eq (g2 := F0 m 7 ls [.int z1, .ref (q 0)]) rfl ?_
  refine lv_iconst (pc := 7) (v := 1) hx hb dX5_roundOf_7 (by decide) ?_
  refine lv_iconst (pc := 8) (v := 1) hx hb dX5_roundOf_8 (by decide) ?_
  refine call_VUs (pc := 9) (As := [.int z1, .int (1 : Int32), .int (1 : Int32)]) (rest := []) C h (k_X5_goes σ z1 (1 : Int32) (1 : Int32) rfl) cw_X5_123 0 (mW_c0 _ _ _) rfl (mW_fst _ _ _ _) rfl rfl hl.1 (Nat.le_of_ble_eq_true rfl) dX5_roundOf_9 ⟨Nat.le_of_ble_eq_true rfl, Nat.le_of_ble_eq_true rfl⟩ rfl rfl ⟨Nat.le_of_ble_eq_true rfl, Nat.le_of_ble_eq_true rfl⟩ (fun H locs h => ?_)
  refine W.eq (g2 := F0 m 12 ls [.int (f_X5_goes σ z1 (1 : Int32) (1 : Int32)).1]) rfl ?_
  refine lv_if_ne (pc := 12) (tgt := 17) hx hb dX5_roundOf_12 (by decide) (fun c9 => ?_) (fun c9 => ?_)
  · have hf := ifF c9 hf
    refine lv_aload_n (pc := 17) hx hb dX5_roundOf_17 rfl (lv_at hl 0 rfl) ?_
    refine g_get (pc := 18) (v := .ref (q 6)) C h.1 0 (mW_c0 _ _ _) fl_X5_25 rfl dX5_roundOf_18 ?_
    refine lv_bipush (pc := 21) (v := 8) hx hb dX5_roundOf_21 (by decide) ?_
    refine lv_iload_n (pc := 23) hx hb dX5_roundOf_23 rfl (lv_at hl 1 rfl) ?_
    refine lv_imul (pc := 24) hx hb dX5_roundOf_24 ?_
    refine lv_iload_n (pc := 25) hx hb dX5_roundOf_25 rfl (lv_at hl 2 rfl) ?_
    refine lv_iadd (pc := 26) hx hb dX5_roundOf_26 ?_
    obtain ⟨hin, hf⟩ := ifS hf
    refine g_ild (pc := 27) (n := 48) (f := ((f_X5_goes σ z1 (1 : Int32) (1 : Int32)).2 7)) C h.1 6 (mW_c6 _ _ _) hin dX5_roundOf_27 ?_
    refine lv_istore_n (pc := 28) (lv' := [(3, .int (((f_X5_goes σ z1 (1 : Int32) (1 : Int32)).2 7) (((8 : Int32) * x1) + x2).toNatClampNeg)), (0, .ref (q 0)), (1, .int x1), (2, .int x2)]) hx hb dX5_roundOf_28 rfl hl (by decide) rfl (fun ls hl => ?_)
    refine lv_iconst (pc := 29) (v := 0) hx hb dX5_roundOf_29 (by decide) ?_
    refine lv_istore (pc := 30) (lv' := [(4, .int (0 : Int32)), (3, .int (((f_X5_goes σ z1 (1 : Int32) (1 : Int32)).2 7) (((8 : Int32) * x1) + x2).toNatClampNeg)), (0, .ref (q 0)), (1, .int x1), (2, .int x2)]) hx hb dX5_roundOf_30 hl (by decide) rfl (fun ls hl => ?_)
    obtain ⟨z2, hc2, hf⟩ := bdS hf
    refine l_X5_roundOf_32 C _ _ _ _ _ _ _ hc2 _ _ _ h (lv_sub hl [2, 3, 4, 1, 0] rfl) (fun H locs ls h hl => ?_)
    refine lv_iload (pc := 94) hx hb dX5_roundOf_94 (lv_at hl 4 rfl) ?_
    have hf : (some (z2.2, (f_X5_goes σ z1 (1 : Int32) (1 : Int32)).2)) = some z := hf
    cases hf
    exact ret_iU (pc := 96) C hr h dX5_roundOf_96
  · have hf := ifT c9 hf
    refine lv_iconst (pc := 15) (v := 0) hx hb dX5_roundOf_15 (by decide) ?_
    have hf : (some ((0 : Int32), (f_X5_goes σ z1 (1 : Int32) (1 : Int32)).2)) = some z := hf
    cases hf
    exact ret_iU (pc := 16) C hr h dX5_roundOf_16
abbrev rm_X5_countsFrom : Room := { frames := 1, cells := 0, slots := 0, locals := 21 }
def f_X5_countsFrom_2 : Nat → (Nat → Nat → Int32) → Int32 → Int32 → Int32 → Option ((Nat → Nat → Int32) × Int32)
  | 0, _, _, _, _ => none
  | n + 1, σ, x1, x2, x3 => (if (256 : Int32) ≤ x3 then some (σ, x3) else (if x3 = x2 then (if inb x3 256 then (lt (va_up σ 23 (upd (σ 23) x3.toNatClampNeg (1 : Int32))) fun t1 => (f_X5_countsFrom_2 n t1 x1 x2 (x3 + (1 : Int32)))) else none) else (if inb x3 256 then (lt (va_up σ 23 (upd (σ 23) x3.toNatClampNeg (0 : Int32))) fun t1 => (f_X5_countsFrom_2 n t1 x1 x2 (x3 + (1 : Int32)))) else none)))
def f_X5_countsFrom_43 : Nat → (Nat → Nat → Int32) → Int32 → Int32 → Int32 → Int32 → Option ((Nat → Nat → Int32) × Int32)
  | 0, _, _, _, _, _ => none
  | n + 1, σ, x1, x2, x3, x4 => (if inb x1 6 then (if ((σ 2) x1.toNatClampNeg) ≤ x4 then some (σ, x4) else (if (f_X5_has x3 x4) = 0 then (if inb (((8 : Int32) * x1) + x4) 48 then (if (((σ 7) (((8 : Int32) * x1) + x4).toNatClampNeg) &&& (x3 ^^^ (-1 : Int32))) = 0 then (if inb (x3 ||| ((1 : Int32) <<< (x4 &&& 31))) 256 then (if inb x3 256 then (if inb (x3 ||| ((1 : Int32) <<< (x4 &&& 31))) 256 then (lt (va_up σ 23 (upd (σ 23) (x3 ||| ((1 : Int32) <<< (x4 &&& 31))).toNatClampNeg (((σ 23) (x3 ||| ((1 : Int32) <<< (x4 &&& 31))).toNatClampNeg) + ((σ 23) x3.toNatClampNeg)))) fun t2 => (f_X5_countsFrom_43 n t2 x1 x2 x3 (x4 + (1 : Int32)))) else none) else none) else none) else (if inb x3 256 then (if inb x3 256 then (lt (va_up σ 23 (upd (σ 23) x3.toNatClampNeg (((σ 23) x3.toNatClampNeg) + (0 : Int32)))) fun t2 => (f_X5_countsFrom_43 n t2 x1 x2 x3 (x4 + (1 : Int32)))) else none) else none)) else none) else (if inb x3 256 then (if inb x3 256 then (lt (va_up σ 23 (upd (σ 23) x3.toNatClampNeg (((σ 23) x3.toNatClampNeg) + (0 : Int32)))) fun t2 => (f_X5_countsFrom_43 n t2 x1 x2 x3 (x4 + (1 : Int32)))) else none) else none))) else none)
def f_X5_countsFrom_33 : Nat → (Nat → Nat → Int32) → Int32 → Int32 → Int32 → Option ((Nat → Nat → Int32) × Int32)
  | 0, _, _, _, _ => none
  | n + 1, σ, x1, x2, x3 => (if (256 : Int32) ≤ x3 then some (σ, x3) else ((f_X5_countsFrom_43 FU σ x1 x2 x3 (0 : Int32)).bind fun z2 => (f_X5_countsFrom_33 n z2.1 x1 x2 (x3 + (1 : Int32)))))
def f_X5_countsFrom (σ : Nat → Nat → Int32) (x1 x2 : Int32) : Option (Int32 × (Nat → Nat → Int32)) := ((f_X5_countsFrom_2 FU σ x1 x2 (0 : Int32)).bind fun z1 => ((f_X5_countsFrom_33 FU z1.1 x1 x2 (0 : Int32)).bind fun z2 => ((f_X5_all z2.1 x1).bind fun z3 => (if inb z3 256 then (some (((z2.1 23) z3.toNatClampNeg), z2.1)) else none))))
set_option maxHeartbeats 400000 in
set_option maxRecDepth 100000 in
theorem l_X5_countsFrom_2 (C : Cx p s m args meth c cX5_countsFrom 6 RX5 D cA) : ∀ (n : Nat) (σ : Nat → Nat → Int32) (x1 x2 x3 : Int32) (z : (Nat → Nat → Int32) × Int32), f_X5_countsFrom_2 n σ x1 x2 x3 = some z → ∀ (H : Heap) (locs : List Loc) (ls : Array Slot), St D A s.heap (mW q cA σ) H locs → lv_has ls 6 [(0, .ref (q 0)), (1, .int x1), (2, .int x2), (3, .int x3)] → (∀ (H : Heap) (locs : List Loc) (ls : Array Slot), St D A s.heap (mW q cA z.1) H locs → lv_has ls 6 [(0, .ref (q 0)), (1, .int x1), (2, .int x2), (3, .int z.2)] → W p l e rm_X5_countsFrom s m args below meth c H locs 0 0 Q (F0 m 31 ls [])) → W p l e rm_X5_countsFrom s m args below meth c H locs 0 0 Q (F0 m 2 ls []) := by
  obtain ⟨hx, hb, hml, hown, hts, hK, hlk⟩ := id C
  intro n
  induction n with
  | zero => intro σ x1 x2 x3 z hf; rw [f_X5_countsFrom_2] at hf; cases hf
  | succ n ih =>
    intro σ x1 x2 x3 z hf H locs ls h hl kk
    rw [f_X5_countsFrom_2] at hf
    refine lv_iload_n (pc := 2) hx hb dX5_countsFrom_2 rfl (lv_at hl 3 rfl) ?_
    refine lv_sipush (pc := 3) (v := 256) hx hb dX5_countsFrom_3 (by decide) ?_
    refine lv_icmp_ge (pc := 6) (tgt := 31) hx hb dX5_countsFrom_6 (by decide) (fun c9 => ?_) (fun c9 => ?_)
    · have hf := ifT c9 hf
      have hf : some (σ, x3) = some z := hf
      cases hf
      exact kk _ _ _ h (lv_sub hl [0, 1, 2, 3] rfl)
    · have hf := ifF c9 hf
      refine lv_aload_n (pc := 9) hx hb dX5_countsFrom_9 rfl (lv_at hl 0 rfl) ?_
      refine g_get (pc := 10) (v := .ref (q 19)) C h.1 0 (mW_c0 _ _ _) fl_X5_64 rfl dX5_countsFrom_10 ?_
      refine lv_iload_n (pc := 13) hx hb dX5_countsFrom_13 rfl (lv_at hl 3 rfl) ?_
      refine lv_iload_n (pc := 14) hx hb dX5_countsFrom_14 rfl (lv_at hl 3 rfl) ?_
      refine lv_iload_n (pc := 15) hx hb dX5_countsFrom_15 rfl (lv_at hl 2 rfl) ?_
      refine lv_icmp_ne (pc := 16) (tgt := 23) hx hb dX5_countsFrom_16 (by decide) (fun c9 => ?_) (fun c9 => ?_)
      · have hf := ifF c9 hf
        refine lv_iconst (pc := 23) (v := 0) hx hb dX5_countsFrom_23 (by decide) ?_
        obtain ⟨hin, hf⟩ := ifS hf
        obtain ⟨t1, et1, hf⟩ := ltS hf
        refine g_ist (pc := 24) (n := 256) (f := (σ 23)) (ws' := (mW q cA t1)) C h 19 (mW_c19 _ _ _) hin ((mW_w19 _ _ _ _).trans (congrArg (mW q cA) et1.symm)) dX5_countsFrom_24 (fun H locs h => ?_)
        refine lv_iinc (pc := 25) (v := (x3 + (1 : Int32))) (lv' := [(3, .int (x3 + (1 : Int32))), (0, .ref (q 0)), (1, .int x1), (2, .int x2)]) hx hb dX5_countsFrom_25 hl (k := 3) rfl rfl (by decide) rfl (fun ls hl => ?_)
        refine lv_goto (pc := 28) (tgt := 2) hx hb dX5_countsFrom_28 (by decide) ?_
        exact ih _ _ _ _ _ hf _ _ _ h (lv_sub hl [1, 2, 3, 0] rfl) kk
      · have hf := ifT c9 hf
        refine lv_iconst (pc := 19) (v := 1) hx hb dX5_countsFrom_19 (by decide) ?_
        refine lv_goto (pc := 20) (tgt := 24) hx hb dX5_countsFrom_20 (by decide) ?_
        obtain ⟨hin, hf⟩ := ifS hf
        obtain ⟨t1, et1, hf⟩ := ltS hf
        refine g_ist (pc := 24) (n := 256) (f := (σ 23)) (ws' := (mW q cA t1)) C h 19 (mW_c19 _ _ _) hin ((mW_w19 _ _ _ _).trans (congrArg (mW q cA) et1.symm)) dX5_countsFrom_24 (fun H locs h => ?_)
        refine lv_iinc (pc := 25) (v := (x3 + (1 : Int32))) (lv' := [(3, .int (x3 + (1 : Int32))), (0, .ref (q 0)), (1, .int x1), (2, .int x2)]) hx hb dX5_countsFrom_25 hl (k := 3) rfl rfl (by decide) rfl (fun ls hl => ?_)
        refine lv_goto (pc := 28) (tgt := 2) hx hb dX5_countsFrom_28 (by decide) ?_
        exact ih _ _ _ _ _ hf _ _ _ h (lv_sub hl [1, 2, 3, 0] rfl) kk
set_option maxHeartbeats 400000 in
set_option maxRecDepth 100000 in
theorem l_X5_countsFrom_43 (C : Cx p s m args meth c cX5_countsFrom 6 RX5 D cA) : ∀ (n : Nat) (σ : Nat → Nat → Int32) (x1 x2 x3 x4 : Int32) (z : (Nat → Nat → Int32) × Int32), f_X5_countsFrom_43 n σ x1 x2 x3 x4 = some z → ∀ (H : Heap) (locs : List Loc) (ls : Array Slot), St D A s.heap (mW q cA σ) H locs → lv_has ls 6 [(0, .ref (q 0)), (1, .int x1), (2, .int x2), (3, .int x3), (4, .int x4)] → (∀ (H : Heap) (locs : List Loc) (ls : Array Slot), St D A s.heap (mW q cA z.1) H locs → lv_has ls 6 [(0, .ref (q 0)), (1, .int x1), (2, .int x2), (3, .int x3), (4, .int z.2)] → W p l e rm_X5_countsFrom s m args below meth c H locs 0 0 Q (F0 m 133 ls [])) → W p l e rm_X5_countsFrom s m args below meth c H locs 0 0 Q (F0 m 43 ls []) := by
  obtain ⟨hx, hb, hml, hown, hts, hK, hlk⟩ := id C
  intro n
  induction n with
  | zero => intro σ x1 x2 x3 x4 z hf; rw [f_X5_countsFrom_43] at hf; cases hf
  | succ n ih =>
    intro σ x1 x2 x3 x4 z hf H locs ls h hl kk
    rw [f_X5_countsFrom_43] at hf
    refine lv_iload (pc := 43) hx hb dX5_countsFrom_43 (lv_at hl 4 rfl) ?_
    refine lv_aload_n (pc := 45) hx hb dX5_countsFrom_45 rfl (lv_at hl 0 rfl) ?_
    refine g_get (pc := 46) (v := .ref (q 1)) C h.1 0 (mW_c0 _ _ _) fl_X5_7 rfl dX5_countsFrom_46 ?_
    refine lv_iload_n (pc := 49) hx hb dX5_countsFrom_49 rfl (lv_at hl 1 rfl) ?_
    obtain ⟨hin, hf⟩ := ifS hf
    refine g_ild (pc := 50) (n := 6) (f := (σ 2)) C h.1 1 (mW_c1 _ _ _) hin dX5_countsFrom_50 ?_
    refine lv_icmp_ge (pc := 51) (tgt := 133) hx hb dX5_countsFrom_51 (by decide) (fun c9 => ?_) (fun c9 => ?_)
    · have hf := ifT c9 hf
      have hf : some (σ, x4) = some z := hf
      cases hf
      exact kk _ _ _ h (lv_sub hl [0, 1, 2, 3, 4] rfl)
    · have hf := ifF c9 hf
      refine lv_iload_n (pc := 54) hx hb dX5_countsFrom_54 rfl (lv_at hl 3 rfl) ?_
      refine lv_iload (pc := 55) hx hb dX5_countsFrom_55 (lv_at hl 4 rfl) ?_
      refine call_SR (pc := 57) (As := [.int x3, .int x4]) (rest := []) (wc := []) C h (k_X5_has x3 x4 rfl) cw_X5_85 [] rfl rfl rfl rfl hl.1 (Nat.le_of_ble_eq_true rfl) dX5_countsFrom_57 ⟨Nat.le_of_ble_eq_true rfl, Nat.le_of_ble_eq_true rfl⟩ rfl rfl ⟨Nat.le_of_ble_eq_true rfl, Nat.le_of_ble_eq_true rfl⟩ (fun H locs h => ?_)
      refine W.eq (g2 := F0 m 60 ls [.int (f_X5_has x3 x4)]) rfl ?_
      refine lv_if_ne (pc := 60) (tgt := 86) hx hb dX5_countsFrom_60 (by decide) (fun c9 => ?_) (fun c9 => ?_)
      · have hf := ifF c9 hf
        refine lv_iconst (pc := 86) (v := 0) hx hb dX5_countsFrom_86 (by decide) ?_
        refine lv_istore (pc := 87) (lv' := [(5, .int (0 : Int32)), (0, .ref (q 0)), (1, .int x1), (2, .int x2), (3, .int x3), (4, .int x4)]) hx hb dX5_countsFrom_87 hl (by decide) rfl (fun ls hl => ?_)
        refine lv_aload_n (pc := 89) hx hb dX5_countsFrom_89 rfl (lv_at hl 1 rfl) ?_
        refine g_get (pc := 90) (v := .ref (q 19)) C h.1 0 (mW_c0 _ _ _) fl_X5_64 rfl dX5_countsFrom_90 ?_
        refine lv_iload (pc := 93) hx hb dX5_countsFrom_93 (lv_at hl 0 rfl) ?_
        refine lv_if_eq (pc := 95) (tgt := 107) hx hb dX5_countsFrom_95 (by decide) (fun _ => ?_) (fun c9 => absurd c9 (by decide))
        refine lv_iload_n (pc := 107) hx hb dX5_countsFrom_107 rfl (lv_at hl 4 rfl) ?_
        refine lv_dup2_11 (pc := 108) hx hb dX5_countsFrom_108 rfl rfl ?_
        obtain ⟨hin, hf⟩ := ifS hf
        refine g_ild (pc := 109) (n := 256) (f := (σ 23)) C h.1 19 (mW_c19 _ _ _) hin dX5_countsFrom_109 ?_
        refine lv_iload (pc := 110) hx hb dX5_countsFrom_110 (lv_at hl 0 rfl) ?_
        refine lv_if_eq (pc := 112) (tgt := 124) hx hb dX5_countsFrom_112 (by decide) (fun _ => ?_) (fun c9 => absurd c9 (by decide))
        refine lv_iconst (pc := 124) (v := 0) hx hb dX5_countsFrom_124 (by decide) ?_
        refine lv_iadd (pc := 125) hx hb dX5_countsFrom_125 ?_
        obtain ⟨hin, hf⟩ := ifS hf
        obtain ⟨t2, et2, hf⟩ := ltS hf
        refine g_ist (pc := 126) (n := 256) (f := (σ 23)) (ws' := (mW q cA t2)) C h 19 (mW_c19 _ _ _) hin ((mW_w19 _ _ _ _).trans (congrArg (mW q cA) et2.symm)) dX5_countsFrom_126 (fun H locs h => ?_)
        refine lv_iinc (pc := 127) (v := (x4 + (1 : Int32))) (lv' := [(4, .int (x4 + (1 : Int32))), (5, .int (0 : Int32)), (0, .ref (q 0)), (1, .int x1), (2, .int x2), (3, .int x3)]) hx hb dX5_countsFrom_127 hl (k := 5) rfl rfl (by decide) rfl (fun ls hl => ?_)
        refine lv_goto (pc := 130) (tgt := 43) hx hb dX5_countsFrom_130 (by decide) ?_
        exact ih _ _ _ _ _ _ hf _ _ _ h (lv_sub hl [2, 3, 4, 5, 0] rfl) kk
      · have hf := ifT c9 hf
        refine lv_aload_n (pc := 63) hx hb dX5_countsFrom_63 rfl (lv_at hl 0 rfl) ?_
        refine g_get (pc := 64) (v := .ref (q 6)) C h.1 0 (mW_c0 _ _ _) fl_X5_25 rfl dX5_countsFrom_64 ?_
        refine lv_bipush (pc := 67) (v := 8) hx hb dX5_countsFrom_67 (by decide) ?_
        refine lv_iload_n (pc := 69) hx hb dX5_countsFrom_69 rfl (lv_at hl 1 rfl) ?_
        refine lv_imul (pc := 70) hx hb dX5_countsFrom_70 ?_
        refine lv_iload (pc := 71) hx hb dX5_countsFrom_71 (lv_at hl 4 rfl) ?_
        refine lv_iadd (pc := 73) hx hb dX5_countsFrom_73 ?_
        obtain ⟨hin, hf⟩ := ifS hf
        refine g_ild (pc := 74) (n := 48) (f := (σ 7)) C h.1 6 (mW_c6 _ _ _) hin dX5_countsFrom_74 ?_
        refine lv_iload_n (pc := 75) hx hb dX5_countsFrom_75 rfl (lv_at hl 3 rfl) ?_
        refine lv_iconst (pc := 76) (v := -1) hx hb dX5_countsFrom_76 (by decide) ?_
        refine lv_ixor (pc := 77) hx hb dX5_countsFrom_77 ?_
        refine lv_iand (pc := 78) hx hb dX5_countsFrom_78 ?_
        refine lv_if_ne (pc := 79) (tgt := 86) hx hb dX5_countsFrom_79 (by decide) (fun c9 => ?_) (fun c9 => ?_)
        · have hf := ifF c9 hf
          refine lv_iconst (pc := 86) (v := 0) hx hb dX5_countsFrom_86 (by decide) ?_
          refine lv_istore (pc := 87) (lv' := [(5, .int (0 : Int32)), (0, .ref (q 0)), (1, .int x1), (2, .int x2), (3, .int x3), (4, .int x4)]) hx hb dX5_countsFrom_87 hl (by decide) rfl (fun ls hl => ?_)
          refine lv_aload_n (pc := 89) hx hb dX5_countsFrom_89 rfl (lv_at hl 1 rfl) ?_
          refine g_get (pc := 90) (v := .ref (q 19)) C h.1 0 (mW_c0 _ _ _) fl_X5_64 rfl dX5_countsFrom_90 ?_
          refine lv_iload (pc := 93) hx hb dX5_countsFrom_93 (lv_at hl 0 rfl) ?_
          refine lv_if_eq (pc := 95) (tgt := 107) hx hb dX5_countsFrom_95 (by decide) (fun _ => ?_) (fun c9 => absurd c9 (by decide))
          refine lv_iload_n (pc := 107) hx hb dX5_countsFrom_107 rfl (lv_at hl 4 rfl) ?_
          refine lv_dup2_11 (pc := 108) hx hb dX5_countsFrom_108 rfl rfl ?_
          obtain ⟨hin, hf⟩ := ifS hf
          refine g_ild (pc := 109) (n := 256) (f := (σ 23)) C h.1 19 (mW_c19 _ _ _) hin dX5_countsFrom_109 ?_
          refine lv_iload (pc := 110) hx hb dX5_countsFrom_110 (lv_at hl 0 rfl) ?_
          refine lv_if_eq (pc := 112) (tgt := 124) hx hb dX5_countsFrom_112 (by decide) (fun _ => ?_) (fun c9 => absurd c9 (by decide))
          refine lv_iconst (pc := 124) (v := 0) hx hb dX5_countsFrom_124 (by decide) ?_
          refine lv_iadd (pc := 125) hx hb dX5_countsFrom_125 ?_
          obtain ⟨hin, hf⟩ := ifS hf
          obtain ⟨t2, et2, hf⟩ := ltS hf
          refine g_ist (pc := 126) (n := 256) (f := (σ 23)) (ws' := (mW q cA t2)) C h 19 (mW_c19 _ _ _) hin ((mW_w19 _ _ _ _).trans (congrArg (mW q cA) et2.symm)) dX5_countsFrom_126 (fun H locs h => ?_)
          refine lv_iinc (pc := 127) (v := (x4 + (1 : Int32))) (lv' := [(4, .int (x4 + (1 : Int32))), (5, .int (0 : Int32)), (0, .ref (q 0)), (1, .int x1), (2, .int x2), (3, .int x3)]) hx hb dX5_countsFrom_127 hl (k := 5) rfl rfl (by decide) rfl (fun ls hl => ?_)
          refine lv_goto (pc := 130) (tgt := 43) hx hb dX5_countsFrom_130 (by decide) ?_
          exact ih _ _ _ _ _ _ hf _ _ _ h (lv_sub hl [2, 3, 4, 5, 0] rfl) kk
        · have hf := ifT c9 hf
          refine lv_iconst (pc := 82) (v := 1) hx hb dX5_countsFrom_82 (by decide) ?_
          refine lv_goto (pc := 83) (tgt := 87) hx hb dX5_countsFrom_83 (by decide) ?_
          refine lv_istore (pc := 87) (lv' := [(5, .int (1 : Int32)), (0, .ref (q 0)), (1, .int x1), (2, .int x2), (3, .int x3), (4, .int x4)]) hx hb dX5_countsFrom_87 hl (by decide) rfl (fun ls hl => ?_)
          refine lv_aload_n (pc := 89) hx hb dX5_countsFrom_89 rfl (lv_at hl 1 rfl) ?_
          refine g_get (pc := 90) (v := .ref (q 19)) C h.1 0 (mW_c0 _ _ _) fl_X5_64 rfl dX5_countsFrom_90 ?_
          refine lv_iload (pc := 93) hx hb dX5_countsFrom_93 (lv_at hl 0 rfl) ?_
          refine lv_if_eq (pc := 95) (tgt := 107) hx hb dX5_countsFrom_95 (by decide) (fun c9 => absurd c9 (by decide)) (fun _ => ?_)
          refine lv_iload_n (pc := 98) hx hb dX5_countsFrom_98 rfl (lv_at hl 4 rfl) ?_
          refine lv_iconst (pc := 99) (v := 1) hx hb dX5_countsFrom_99 (by decide) ?_
          refine lv_iload (pc := 100) hx hb dX5_countsFrom_100 (lv_at hl 5 rfl) ?_
          refine lv_ishl (pc := 102) hx hb dX5_countsFrom_102 ?_
          refine lv_ior (pc := 103) hx hb dX5_countsFrom_103 ?_
          refine lv_goto (pc := 104) (tgt := 108) hx hb dX5_countsFrom_104 (by decide) ?_
          refine lv_dup2_11 (pc := 108) hx hb dX5_countsFrom_108 rfl rfl ?_
          obtain ⟨hin, hf⟩ := ifS hf
          refine g_ild (pc := 109) (n := 256) (f := (σ 23)) C h.1 19 (mW_c19 _ _ _) hin dX5_countsFrom_109 ?_
          refine lv_iload (pc := 110) hx hb dX5_countsFrom_110 (lv_at hl 0 rfl) ?_
          refine lv_if_eq (pc := 112) (tgt := 124) hx hb dX5_countsFrom_112 (by decide) (fun c9 => absurd c9 (by decide)) (fun _ => ?_)
          refine lv_aload_n (pc := 115) hx hb dX5_countsFrom_115 rfl (lv_at hl 1 rfl) ?_
          refine g_get (pc := 116) (v := .ref (q 19)) C h.1 0 (mW_c0 _ _ _) fl_X5_64 rfl dX5_countsFrom_116 ?_
          refine lv_iload_n (pc := 119) hx hb dX5_countsFrom_119 rfl (lv_at hl 4 rfl) ?_
          obtain ⟨hin, hf⟩ := ifS hf
          refine g_ild (pc := 120) (n := 256) (f := (σ 23)) C h.1 19 (mW_c19 _ _ _) hin dX5_countsFrom_120 ?_
          refine lv_goto (pc := 121) (tgt := 125) hx hb dX5_countsFrom_121 (by decide) ?_
          refine lv_iadd (pc := 125) hx hb dX5_countsFrom_125 ?_
          obtain ⟨hin, hf⟩ := ifS hf
          obtain ⟨t2, et2, hf⟩ := ltS hf
          refine g_ist (pc := 126) (n := 256) (f := (σ 23)) (ws' := (mW q cA t2)) C h 19 (mW_c19 _ _ _) hin ((mW_w19 _ _ _ _).trans (congrArg (mW q cA) et2.symm)) dX5_countsFrom_126 (fun H locs h => ?_)
          refine lv_iinc (pc := 127) (v := (x4 + (1 : Int32))) (lv' := [(4, .int (x4 + (1 : Int32))), (5, .int (1 : Int32)), (0, .ref (q 0)), (1, .int x1), (2, .int x2), (3, .int x3)]) hx hb dX5_countsFrom_127 hl (k := 5) rfl rfl (by decide) rfl (fun ls hl => ?_)
          refine lv_goto (pc := 130) (tgt := 43) hx hb dX5_countsFrom_130 (by decide) ?_
          exact ih _ _ _ _ _ _ hf _ _ _ h (lv_sub hl [2, 3, 4, 5, 0] rfl) kk
set_option maxHeartbeats 400000 in
set_option maxRecDepth 100000 in
theorem l_X5_countsFrom_33 (C : Cx p s m args meth c cX5_countsFrom 6 RX5 D cA) : ∀ (n : Nat) (σ : Nat → Nat → Int32) (x1 x2 x3 : Int32) (z : (Nat → Nat → Int32) × Int32), f_X5_countsFrom_33 n σ x1 x2 x3 = some z → ∀ (H : Heap) (locs : List Loc) (ls : Array Slot), St D A s.heap (mW q cA σ) H locs → lv_has ls 6 [(0, .ref (q 0)), (1, .int x1), (2, .int x2), (3, .int x3)] → (∀ (H : Heap) (locs : List Loc) (ls : Array Slot), St D A s.heap (mW q cA z.1) H locs → lv_has ls 6 [(0, .ref (q 0)), (1, .int x1), (2, .int x2), (3, .int z.2)] → W p l e rm_X5_countsFrom s m args below meth c H locs 0 0 Q (F0 m 139 ls [])) → W p l e rm_X5_countsFrom s m args below meth c H locs 0 0 Q (F0 m 33 ls []) := by
  obtain ⟨hx, hb, hml, hown, hts, hK, hlk⟩ := id C
  intro n
  induction n with
  | zero => intro σ x1 x2 x3 z hf; rw [f_X5_countsFrom_33] at hf; cases hf
  | succ n ih =>
    intro σ x1 x2 x3 z hf H locs ls h hl kk
    rw [f_X5_countsFrom_33] at hf
    refine lv_iload_n (pc := 33) hx hb dX5_countsFrom_33 rfl (lv_at hl 3 rfl) ?_
    refine lv_sipush (pc := 34) (v := 256) hx hb dX5_countsFrom_34 (by decide) ?_
    refine lv_icmp_ge (pc := 37) (tgt := 139) hx hb dX5_countsFrom_37 (by decide) (fun c9 => ?_) (fun c9 => ?_)
    · have hf := ifT c9 hf
      have hf : some (σ, x3) = some z := hf
      cases hf
      exact kk _ _ _ h (lv_sub hl [0, 1, 2, 3] rfl)
    · have hf := ifF c9 hf
      refine lv_iconst (pc := 40) (v := 0) hx hb dX5_countsFrom_40 (by decide) ?_
      refine lv_istore (pc := 41) (lv' := [(4, .int (0 : Int32)), (0, .ref (q 0)), (1, .int x1), (2, .int x2), (3, .int x3)]) hx hb dX5_countsFrom_41 hl (by decide) rfl (fun ls hl => ?_)
      obtain ⟨z2, hc2, hf⟩ := bdS hf
      refine l_X5_countsFrom_43 C _ _ _ _ _ _ _ hc2 _ _ _ h (lv_sub hl [1, 2, 3, 4, 0] rfl) (fun H locs ls h hl => ?_)
      refine lv_iinc (pc := 133) (v := (x3 + (1 : Int32))) (lv' := [(3, .int (x3 + (1 : Int32))), (0, .ref (q 0)), (1, .int x1), (2, .int x2), (4, .int z2.2)]) hx hb dX5_countsFrom_133 hl (k := 3) rfl rfl (by decide) rfl (fun ls hl => ?_)
      refine lv_goto (pc := 136) (tgt := 33) hx hb dX5_countsFrom_136 (by decide) ?_
      exact ih _ _ _ _ _ hf _ _ _ h (lv_sub hl [1, 2, 3, 0] rfl) kk
set_option maxHeartbeats 400000 in
set_option maxRecDepth 100000 in
theorem k_X5_countsFrom {q : Nat → Nat} {cA : Nat → ClassId} {D : va_G} (σ : Nat → Nat → Int32) (x1 x2 : Int32) {z : Int32 × (Nat → Nat → Int32)} (hf : f_X5_countsFrom σ x1 x2 = some z) : CtU yX5_countsFrom cX5_countsFrom 6 (some .int) rm_X5_countsFrom [.ref (q 0), .int x1, .int x2] D cA (mW q cA σ) (mW q cA z.2) (some (.int z.1)) 0 0 := by
  refine ctU_of (by decide) (Nat.le_of_ble_eq_true rfl) ?_
  intro p l e s m below meth c ls C hr hnm h hl
  have C : Cx p s m _ meth c cX5_countsFrom 6 RX5 D cA := C
  obtain ⟨hx, hb, hml, hown, hts, hK, hlk⟩ := id C
  replace hl : lv_has ls 6 [(0, .ref (q 0)), (1, .int x1), (2, .int x2)] := hl
  rw [f_X5_countsFrom] at hf
  refine lv_iconst (pc := 0) (v := 0) hx hb dX5_countsFrom_0 (by decide) ?_
  refine lv_istore_n (pc := 1) (lv' := [(3, .int (0 : Int32)), (0, .ref (q 0)), (1, .int x1), (2, .int x2)]) hx hb dX5_countsFrom_1 rfl hl (by decide) rfl (fun ls hl => ?_)
  obtain ⟨z1, hc1, hf⟩ := bdS hf
  refine l_X5_countsFrom_2 C _ _ _ _ _ _ hc1 _ _ _ h (lv_sub hl [1, 2, 3, 0] rfl) (fun H locs ls h hl => ?_)
  refine lv_iconst (pc := 31) (v := 0) hx hb dX5_countsFrom_31 (by decide) ?_
  refine lv_istore_n (pc := 32) (lv' := [(3, .int (0 : Int32)), (0, .ref (q 0)), (1, .int x1), (2, .int x2)]) hx hb dX5_countsFrom_32 rfl hl (by decide) rfl (fun ls hl => ?_)
  obtain ⟨z2, hc2, hf⟩ := bdS hf
  refine l_X5_countsFrom_33 C _ _ _ _ _ _ hc2 _ _ _ h (lv_sub hl [1, 2, 3, 0] rfl) (fun H locs ls h hl => ?_)
  refine lv_aload_n (pc := 139) hx hb dX5_countsFrom_139 rfl (lv_at hl 0 rfl) ?_
  refine g_get (pc := 140) (v := .ref (q 19)) C h.1 0 (mW_c0 _ _ _) fl_X5_64 rfl dX5_countsFrom_140 ?_
  refine lv_aload_n (pc := 143) hx hb dX5_countsFrom_143 rfl (lv_at hl 0 rfl) ?_
  refine lv_iload_n (pc := 144) hx hb dX5_countsFrom_144 rfl (lv_at hl 1 rfl) ?_
  obtain ⟨z3, hc3, hf⟩ := bdS hf
  refine call_VRs (pc := 145) (As := [.int x1]) (rest := [.ref (q 19)]) C h (k_X5_all z2.1 x1 hc3) cw_X5_99 0 (mW_c0 _ _ _) rfl rfl rfl hl.1 (Nat.le_of_ble_eq_true rfl) dX5_countsFrom_145 ⟨Nat.le_of_ble_eq_true rfl, Nat.le_of_ble_eq_true rfl⟩ rfl rfl ⟨Nat.le_of_ble_eq_true rfl, Nat.le_of_ble_eq_true rfl⟩ (fun H locs h => ?_)
  refine W.eq (g2 := F0 m 148 ls [.int z3, .ref (q 19)]) rfl ?_
  obtain ⟨hin, hf⟩ := ifS hf
  refine g_ild (pc := 148) (n := 256) (f := (z2.1 23)) C h.1 19 (mW_c19 _ _ _) hin dX5_countsFrom_148 ?_
  have hf : (some (((z2.1 23) z3.toNatClampNeg), z2.1)) = some z := hf
  cases hf
  exact ret_iU (pc := 149) C hr h dX5_countsFrom_149
abbrev rm_X5_orders : Room := { frames := 2, cells := 0, slots := 0, locals := 46 }
def f_X5_orders (σ : Nat → Nat → Int32) (x1 : Int32) : Option (Int32 × (Nat → Nat → Int32)) := (if (f_X5_goes σ (f_X5_isEnvelope σ x1) (1 : Int32) (1 : Int32)).1 = 0 then (some ((0 : Int32), (f_X5_goes σ (f_X5_isEnvelope σ x1) (1 : Int32) (1 : Int32)).2)) else ((f_X5_countsFrom (f_X5_goes σ (f_X5_isEnvelope σ x1) (1 : Int32) (1 : Int32)).2 x1 (0 : Int32)).bind fun z1 => (some (z1.1, z1.2))))
set_option maxHeartbeats 400000 in
set_option maxRecDepth 100000 in
theorem k_X5_orders {q : Nat → Nat} {cA : Nat → ClassId} {D : va_G} (σ : Nat → Nat → Int32) (x1 : Int32) {z : Int32 × (Nat → Nat → Int32)} (hf : f_X5_orders σ x1 = some z) : CtU yX5_orders cX5_orders 2 (some .int) rm_X5_orders [.ref (q 0), .int x1] D cA (mW q cA σ) (mW q cA z.2) (some (.int z.1)) 0 0 := by
  refine ctU_of (by decide) (Nat.le_of_ble_eq_true rfl) ?_
  intro p l e s m below meth c ls C hr hnm h hl
  have C : Cx p s m _ meth c cX5_orders 2 RX5 D cA := C
  obtain ⟨hx, hb, hml, hown, hts, hK, hlk⟩ := id C
  replace hl : lv_has ls 2 [(0, .ref (q 0)), (1, .int x1)] := hl
  rw [f_X5_orders] at hf
  refine lv_aload_n (pc := 0) hx hb dX5_orders_0 rfl (lv_at hl 0 rfl) ?_
  refine lv_aload_n (pc := 1) hx hb dX5_orders_1 rfl (lv_at hl 0 rfl) ?_
  refine lv_iload_n (pc := 2) hx hb dX5_orders_2 rfl (lv_at hl 1 rfl) ?_
  refine call_VRs (pc := 3) (As := [.int x1]) (rest := [.ref (q 0)]) C h (k_X5_isEnvelope σ x1 rfl) cw_X5_78 0 (mW_c0 _ _ _) rfl rfl rfl hl.1 (Nat.le_of_ble_eq_true rfl) dX5_orders_3 ⟨Nat.le_of_ble_eq_true rfl, Nat.le_of_ble_eq_true rfl⟩ rfl rfl ⟨Nat.le_of_ble_eq_true rfl, Nat.le_of_ble_eq_true rfl⟩ (fun H locs h => ?_)
  refine W.eq (g2 := F0 m 6 ls [.int (f_X5_isEnvelope σ x1), .ref (q 0)]) rfl ?_
  refine lv_iconst (pc := 6) (v := 1) hx hb dX5_orders_6 (by decide) ?_
  refine lv_iconst (pc := 7) (v := 1) hx hb dX5_orders_7 (by decide) ?_
  refine call_VUs (pc := 8) (As := [.int (f_X5_isEnvelope σ x1), .int (1 : Int32), .int (1 : Int32)]) (rest := []) C h (k_X5_goes σ (f_X5_isEnvelope σ x1) (1 : Int32) (1 : Int32) rfl) cw_X5_123 0 (mW_c0 _ _ _) rfl (mW_fst _ _ _ _) rfl rfl hl.1 (Nat.le_of_ble_eq_true rfl) dX5_orders_8 ⟨Nat.le_of_ble_eq_true rfl, Nat.le_of_ble_eq_true rfl⟩ rfl rfl ⟨Nat.le_of_ble_eq_true rfl, Nat.le_of_ble_eq_true rfl⟩ (fun H locs h => ?_)
  refine W.eq (g2 := F0 m 11 ls [.int (f_X5_goes σ (f_X5_isEnvelope σ x1) (1 : Int32) (1 : Int32)).1]) rfl ?_
  refine lv_if_eq (pc := 11) (tgt := 23) hx hb dX5_orders_11 (by decide) (fun c9 => ?_) (fun c9 => ?_)
  · have hf := ifT c9 hf
    refine lv_iconst (pc := 23) (v := 0) hx hb dX5_orders_23 (by decide) ?_
    have hf : (some ((0 : Int32), (f_X5_goes σ (f_X5_isEnvelope σ x1) (1 : Int32) (1 : Int32)).2)) = some z := hf
    cases hf
    exact ret_iU (pc := 24) C hr h dX5_orders_24
  · have hf := ifF c9 hf
    refine lv_aload_n (pc := 14) hx hb dX5_orders_14 rfl (lv_at hl 0 rfl) ?_
    refine lv_iload_n (pc := 15) hx hb dX5_orders_15 rfl (lv_at hl 1 rfl) ?_
    refine lv_iconst (pc := 16) (v := 0) hx hb dX5_orders_16 (by decide) ?_
    obtain ⟨z1, hc1, hf⟩ := bdS hf
    refine call_VUs (pc := 17) (As := [.int x1, .int (0 : Int32)]) (rest := []) C h (k_X5_countsFrom (f_X5_goes σ (f_X5_isEnvelope σ x1) (1 : Int32) (1 : Int32)).2 x1 (0 : Int32) hc1) cw_X5_173 0 (mW_c0 _ _ _) rfl (mW_fst _ _ _ _) rfl rfl hl.1 (Nat.le_of_ble_eq_true rfl) dX5_orders_17 ⟨Nat.le_of_ble_eq_true rfl, Nat.le_of_ble_eq_true rfl⟩ rfl rfl ⟨Nat.le_of_ble_eq_true rfl, Nat.le_of_ble_eq_true rfl⟩ (fun H locs h => ?_)
    refine W.eq (g2 := F0 m 20 ls [.int z1.1]) rfl ?_
    refine lv_goto (pc := 20) (tgt := 24) hx hb dX5_orders_20 (by decide) ?_
    have hf : (some (z1.1, z1.2)) = some z := hf
    cases hf
    exact ret_iU (pc := 24) C hr h dX5_orders_24
abbrev rm_X5_ordersByAll : Room := { frames := 3, cells := 0, slots := 0, locals := 67 }
def f_X5_ordersByAll (σ : Nat → Nat → Int32) (x1 : Int32) : Option (Int32 × (Nat → Nat → Int32)) := ((f_X5_orders σ x1).bind fun z1 => (some (z1.1, z1.2)))
set_option maxHeartbeats 400000 in
set_option maxRecDepth 100000 in
theorem k_X5_ordersByAll {q : Nat → Nat} {cA : Nat → ClassId} {D : va_G} (σ : Nat → Nat → Int32) (x1 : Int32) {z : Int32 × (Nat → Nat → Int32)} (hf : f_X5_ordersByAll σ x1 = some z) : CtU yX5_ordersByAll cX5_ordersByAll 2 (some .int) rm_X5_ordersByAll [.ref (q 0), .int x1] D cA (mW q cA σ) (mW q cA z.2) (some (.int z.1)) 0 0 := by
  refine ctU_of (by decide) (Nat.le_of_ble_eq_true rfl) ?_
  intro p l e s m below meth c ls C hr hnm h hl
  have C : Cx p s m _ meth c cX5_ordersByAll 2 RX5 D cA := C
  obtain ⟨hx, hb, hml, hown, hts, hK, hlk⟩ := id C
  replace hl : lv_has ls 2 [(0, .ref (q 0)), (1, .int x1)] := hl
  rw [f_X5_ordersByAll] at hf
  refine lv_aload_n (pc := 0) hx hb dX5_ordersByAll_0 rfl (lv_at hl 0 rfl) ?_
  refine lv_iload_n (pc := 1) hx hb dX5_ordersByAll_1 rfl (lv_at hl 1 rfl) ?_
  obtain ⟨z1, hc1, hf⟩ := bdS hf
  refine call_VUs (pc := 2) (As := [.int x1]) (rest := []) C h (k_X5_orders σ x1 hc1) cw_X5_176 0 (mW_c0 _ _ _) rfl (mW_fst _ _ _ _) rfl rfl hl.1 (Nat.le_of_ble_eq_true rfl) dX5_ordersByAll_2 ⟨Nat.le_of_ble_eq_true rfl, Nat.le_of_ble_eq_true rfl⟩ rfl rfl ⟨Nat.le_of_ble_eq_true rfl, Nat.le_of_ble_eq_true rfl⟩ (fun H locs h => ?_)
  refine W.eq (g2 := F0 m 5 ls [.int z1.1]) rfl ?_
  have hf : (some (z1.1, z1.2)) = some z := hf
  cases hf
  exact ret_iU (pc := 5) C hr h dX5_ordersByAll_5
abbrev rm_X5_ordersLeft : Room := { frames := 4, cells := 0, slots := 0, locals := 89 }
def f_X5_ordersLeft (σ : Nat → Nat → Int32) (x1 : Int32) : Option (Int32 × (Nat → Nat → Int32)) := (if (f_X5_goes σ (f_X5_isEnvelope σ x1) (1 : Int32) (1 : Int32)).1 = 0 then (some ((0 : Int32), (f_X5_goes σ (f_X5_isEnvelope σ x1) (1 : Int32) (1 : Int32)).2)) else ((f_X5_looks (f_X5_goes σ (f_X5_isEnvelope σ x1) (1 : Int32) (1 : Int32)).2 x1).bind fun z1 => ((f_X5_countsFrom z1 x1 (z1 19 0)).bind fun z2 => (some (z2.1, z2.2)))))
set_option maxHeartbeats 400000 in
set_option maxRecDepth 100000 in
theorem k_X5_ordersLeft {q : Nat → Nat} {cA : Nat → ClassId} {D : va_G} (σ : Nat → Nat → Int32) (x1 : Int32) {z : Int32 × (Nat → Nat → Int32)} (hf : f_X5_ordersLeft σ x1 = some z) : CtU yX5_ordersLeft cX5_ordersLeft 2 (some .int) rm_X5_ordersLeft [.ref (q 0), .int x1] D cA (mW q cA σ) (mW q cA z.2) (some (.int z.1)) 0 0 := by
  refine ctU_of (by decide) (Nat.le_of_ble_eq_true rfl) ?_
  intro p l e s m below meth c ls C hr hnm h hl
  have C : Cx p s m _ meth c cX5_ordersLeft 2 RX5 D cA := C
  obtain ⟨hx, hb, hml, hown, hts, hK, hlk⟩ := id C
  replace hl : lv_has ls 2 [(0, .ref (q 0)), (1, .int x1)] := hl
  rw [f_X5_ordersLeft] at hf
  refine lv_aload_n (pc := 0) hx hb dX5_ordersLeft_0 rfl (lv_at hl 0 rfl) ?_
  refine lv_aload_n (pc := 1) hx hb dX5_ordersLeft_1 rfl (lv_at hl 0 rfl) ?_
  refine lv_iload_n (pc := 2) hx hb dX5_ordersLeft_2 rfl (lv_at hl 1 rfl) ?_
  refine call_VRs (pc := 3) (As := [.int x1]) (rest := [.ref (q 0)]) C h (k_X5_isEnvelope σ x1 rfl) cw_X5_78 0 (mW_c0 _ _ _) rfl rfl rfl hl.1 (Nat.le_of_ble_eq_true rfl) dX5_ordersLeft_3 ⟨Nat.le_of_ble_eq_true rfl, Nat.le_of_ble_eq_true rfl⟩ rfl rfl ⟨Nat.le_of_ble_eq_true rfl, Nat.le_of_ble_eq_true rfl⟩ (fun H locs h => ?_)
  refine W.eq (g2 := F0 m 6 ls [.int (f_X5_isEnvelope σ x1), .ref (q 0)]) rfl ?_
  refine lv_iconst (pc := 6) (v := 1) hx hb dX5_ordersLeft_6 (by decide) ?_
  refine lv_iconst (pc := 7) (v := 1) hx hb dX5_ordersLeft_7 (by decide) ?_
  refine call_VUs (pc := 8) (As := [.int (f_X5_isEnvelope σ x1), .int (1 : Int32), .int (1 : Int32)]) (rest := []) C h (k_X5_goes σ (f_X5_isEnvelope σ x1) (1 : Int32) (1 : Int32) rfl) cw_X5_123 0 (mW_c0 _ _ _) rfl (mW_fst _ _ _ _) rfl rfl hl.1 (Nat.le_of_ble_eq_true rfl) dX5_ordersLeft_8 ⟨Nat.le_of_ble_eq_true rfl, Nat.le_of_ble_eq_true rfl⟩ rfl rfl ⟨Nat.le_of_ble_eq_true rfl, Nat.le_of_ble_eq_true rfl⟩ (fun H locs h => ?_)
  refine W.eq (g2 := F0 m 11 ls [.int (f_X5_goes σ (f_X5_isEnvelope σ x1) (1 : Int32) (1 : Int32)).1]) rfl ?_
  refine lv_if_ne (pc := 11) (tgt := 16) hx hb dX5_ordersLeft_11 (by decide) (fun c9 => ?_) (fun c9 => ?_)
  · have hf := ifF c9 hf
    refine lv_aload_n (pc := 16) hx hb dX5_ordersLeft_16 rfl (lv_at hl 0 rfl) ?_
    refine lv_iload_n (pc := 17) hx hb dX5_ordersLeft_17 rfl (lv_at hl 1 rfl) ?_
    obtain ⟨z1, hc1, hf⟩ := bdS hf
    refine call_VUs (pc := 18) (As := [.int x1]) (rest := []) C h (k_X5_looks (f_X5_goes σ (f_X5_isEnvelope σ x1) (1 : Int32) (1 : Int32)).2 x1 hc1) cw_X5_109 0 (mW_c0 _ _ _) rfl (mW_fst _ _ _ _) rfl rfl hl.1 (Nat.le_of_ble_eq_true rfl) dX5_ordersLeft_18 ⟨Nat.le_of_ble_eq_true rfl, Nat.le_of_ble_eq_true rfl⟩ rfl rfl ⟨Nat.le_of_ble_eq_true rfl, Nat.le_of_ble_eq_true rfl⟩ (fun H locs h => ?_)
    refine W.eq (g2 := F0 m 21 ls []) rfl ?_
    refine lv_aload_n (pc := 21) hx hb dX5_ordersLeft_21 rfl (lv_at hl 0 rfl) ?_
    refine lv_iload_n (pc := 22) hx hb dX5_ordersLeft_22 rfl (lv_at hl 1 rfl) ?_
    refine lv_aload_n (pc := 23) hx hb dX5_ordersLeft_23 rfl (lv_at hl 0 rfl) ?_
    refine g_get (pc := 24) (v := .int (z1 19 0)) C h.1 0 (mW_c0 _ _ _) fl_X5_89 rfl dX5_ordersLeft_24 ?_
    obtain ⟨z2, hc2, hf⟩ := bdS hf
    refine call_VUs (pc := 27) (As := [.int x1, .int (z1 19 0)]) (rest := []) C h (k_X5_countsFrom z1 x1 (z1 19 0) hc2) cw_X5_173 0 (mW_c0 _ _ _) rfl (mW_fst _ _ _ _) rfl rfl hl.1 (Nat.le_of_ble_eq_true rfl) dX5_ordersLeft_27 ⟨Nat.le_of_ble_eq_true rfl, Nat.le_of_ble_eq_true rfl⟩ rfl rfl ⟨Nat.le_of_ble_eq_true rfl, Nat.le_of_ble_eq_true rfl⟩ (fun H locs h => ?_)
    refine W.eq (g2 := F0 m 30 ls [.int z2.1]) rfl ?_
    have hf : (some (z2.1, z2.2)) = some z := hf
    cases hf
    exact ret_iU (pc := 30) C hr h dX5_ordersLeft_30
  · have hf := ifT c9 hf
    refine lv_iconst (pc := 14) (v := 0) hx hb dX5_ordersLeft_14 (by decide) ?_
    have hf : (some ((0 : Int32), (f_X5_goes σ (f_X5_isEnvelope σ x1) (1 : Int32) (1 : Int32)).2)) = some z := hf
    cases hf
    exact ret_iU (pc := 15) C hr h dX5_ordersLeft_15
abbrev rm_X5_events : Room := { frames := 2, cells := 0, slots := 0, locals := 43 }
def f_X5_events (σ : Nat → Nat → Int32) (x1 : Int32) : Option (Int32 × (Nat → Nat → Int32)) := (if (f_X5_goes σ (f_X5_isEnvelope σ x1) (1 : Int32) (1 : Int32)).1 = 0 then (some ((0 : Int32), (f_X5_goes σ (f_X5_isEnvelope σ x1) (1 : Int32) (1 : Int32)).2)) else (if inb x1 6 then (some ((((f_X5_goes σ (f_X5_isEnvelope σ x1) (1 : Int32) (1 : Int32)).2 5) x1.toNatClampNeg), (f_X5_goes σ (f_X5_isEnvelope σ x1) (1 : Int32) (1 : Int32)).2)) else none))
set_option maxHeartbeats 400000 in
set_option maxRecDepth 100000 in
theorem k_X5_events {q : Nat → Nat} {cA : Nat → ClassId} {D : va_G} (σ : Nat → Nat → Int32) (x1 : Int32) {z : Int32 × (Nat → Nat → Int32)} (hf : f_X5_events σ x1 = some z) : CtU yX5_events cX5_events 2 (some .int) rm_X5_events [.ref (q 0), .int x1] D cA (mW q cA σ) (mW q cA z.2) (some (.int z.1)) 0 0 := by
  refine ctU_of (by decide) (Nat.le_of_ble_eq_true rfl) ?_
  intro p l e s m below meth c ls C hr hnm h hl
  have C : Cx p s m _ meth c cX5_events 2 RX5 D cA := C
  obtain ⟨hx, hb, hml, hown, hts, hK, hlk⟩ := id C
  replace hl : lv_has ls 2 [(0, .ref (q 0)), (1, .int x1)] := hl
  rw [f_X5_events] at hf
  refine lv_aload_n (pc := 0) hx hb dX5_events_0 rfl (lv_at hl 0 rfl) ?_
  refine lv_aload_n (pc := 1) hx hb dX5_events_1 rfl (lv_at hl 0 rfl) ?_
  refine lv_iload_n (pc := 2) hx hb dX5_events_2 rfl (lv_at hl 1 rfl) ?_
  refine call_VRs (pc := 3) (As := [.int x1]) (rest := [.ref (q 0)]) C h (k_X5_isEnvelope σ x1 rfl) cw_X5_78 0 (mW_c0 _ _ _) rfl rfl rfl hl.1 (Nat.le_of_ble_eq_true rfl) dX5_events_3 ⟨Nat.le_of_ble_eq_true rfl, Nat.le_of_ble_eq_true rfl⟩ rfl rfl ⟨Nat.le_of_ble_eq_true rfl, Nat.le_of_ble_eq_true rfl⟩ (fun H locs h => ?_)
  refine W.eq (g2 := F0 m 6 ls [.int (f_X5_isEnvelope σ x1), .ref (q 0)]) rfl ?_
  refine lv_iconst (pc := 6) (v := 1) hx hb dX5_events_6 (by decide) ?_
  refine lv_iconst (pc := 7) (v := 1) hx hb dX5_events_7 (by decide) ?_
  refine call_VUs (pc := 8) (As := [.int (f_X5_isEnvelope σ x1), .int (1 : Int32), .int (1 : Int32)]) (rest := []) C h (k_X5_goes σ (f_X5_isEnvelope σ x1) (1 : Int32) (1 : Int32) rfl) cw_X5_123 0 (mW_c0 _ _ _) rfl (mW_fst _ _ _ _) rfl rfl hl.1 (Nat.le_of_ble_eq_true rfl) dX5_events_8 ⟨Nat.le_of_ble_eq_true rfl, Nat.le_of_ble_eq_true rfl⟩ rfl rfl ⟨Nat.le_of_ble_eq_true rfl, Nat.le_of_ble_eq_true rfl⟩ (fun H locs h => ?_)
  refine W.eq (g2 := F0 m 11 ls [.int (f_X5_goes σ (f_X5_isEnvelope σ x1) (1 : Int32) (1 : Int32)).1]) rfl ?_
  refine lv_if_eq (pc := 11) (tgt := 23) hx hb dX5_events_11 (by decide) (fun c9 => ?_) (fun c9 => ?_)
  · have hf := ifT c9 hf
    refine lv_iconst (pc := 23) (v := 0) hx hb dX5_events_23 (by decide) ?_
    have hf : (some ((0 : Int32), (f_X5_goes σ (f_X5_isEnvelope σ x1) (1 : Int32) (1 : Int32)).2)) = some z := hf
    cases hf
    exact ret_iU (pc := 24) C hr h dX5_events_24
  · have hf := ifF c9 hf
    refine lv_aload_n (pc := 14) hx hb dX5_events_14 rfl (lv_at hl 0 rfl) ?_
    refine g_get (pc := 15) (v := .ref (q 4)) C h.1 0 (mW_c0 _ _ _) fl_X5_19 rfl dX5_events_15 ?_
    refine lv_iload_n (pc := 18) hx hb dX5_events_18 rfl (lv_at hl 1 rfl) ?_
    obtain ⟨hin, hf⟩ := ifS hf
    refine g_ild (pc := 19) (n := 6) (f := ((f_X5_goes σ (f_X5_isEnvelope σ x1) (1 : Int32) (1 : Int32)).2 5)) C h.1 4 (mW_c4 _ _ _) hin dX5_events_19 ?_
    refine lv_goto (pc := 20) (tgt := 24) hx hb dX5_events_20 (by decide) ?_
    have hf : (some ((((f_X5_goes σ (f_X5_isEnvelope σ x1) (1 : Int32) (1 : Int32)).2 5) x1.toNatClampNeg), (f_X5_goes σ (f_X5_isEnvelope σ x1) (1 : Int32) (1 : Int32)).2)) = some z := hf
    cases hf
    exact ret_iU (pc := 24) C hr h dX5_events_24
abbrev rm_X5_kindOf : Room := { frames := 3, cells := 0, slots := 0, locals := 65 }
def f_X5_kindOf (σ : Nat → Nat → Int32) (x1 x2 : Int32) : Option (Int32 × (Nat → Nat → Int32)) := ((f_X5_isEvent σ x1 x2).bind fun z1 => (if (f_X5_goes σ z1 (1 : Int32) (1 : Int32)).1 = 0 then (some ((0 : Int32), (f_X5_goes σ z1 (1 : Int32) (1 : Int32)).2)) else (if inb (((50 : Int32) * x1) + x2) 300 then (some ((((f_X5_goes σ z1 (1 : Int32) (1 : Int32)).2 8) (((50 : Int32) * x1) + x2).toNatClampNeg), (f_X5_goes σ z1 (1 : Int32) (1 : Int32)).2)) else none)))
set_option maxHeartbeats 400000 in
set_option maxRecDepth 100000 in
theorem k_X5_kindOf {q : Nat → Nat} {cA : Nat → ClassId} {D : va_G} (σ : Nat → Nat → Int32) (x1 x2 : Int32) {z : Int32 × (Nat → Nat → Int32)} (hf : f_X5_kindOf σ x1 x2 = some z) : CtU yX5_kindOf cX5_kindOf 3 (some .int) rm_X5_kindOf [.ref (q 0), .int x1, .int x2] D cA (mW q cA σ) (mW q cA z.2) (some (.int z.1)) 0 0 := by
  refine ctU_of (by decide) (Nat.le_of_ble_eq_true rfl) ?_
  intro p l e s m below meth c ls C hr hnm h hl
  have C : Cx p s m _ meth c cX5_kindOf 3 RX5 D cA := C
  obtain ⟨hx, hb, hml, hown, hts, hK, hlk⟩ := id C
  replace hl : lv_has ls 3 [(0, .ref (q 0)), (1, .int x1), (2, .int x2)] := hl
  rw [f_X5_kindOf] at hf
  refine lv_aload_n (pc := 0) hx hb dX5_kindOf_0 rfl (lv_at hl 0 rfl) ?_
  refine lv_aload_n (pc := 1) hx hb dX5_kindOf_1 rfl (lv_at hl 0 rfl) ?_
  refine lv_iload_n (pc := 2) hx hb dX5_kindOf_2 rfl (lv_at hl 1 rfl) ?_
  refine lv_iload_n (pc := 3) hx hb dX5_kindOf_3 rfl (lv_at hl 2 rfl) ?_
  obtain ⟨z1, hc1, hf⟩ := bdS hf
  refine call_VRs (pc := 4) (As := [.int x1, .int x2]) (rest := [.ref (q 0)]) C h (k_X5_isEvent σ x1 x2 hc1) cw_X5_179 0 (mW_c0 _ _ _) rfl rfl rfl hl.1 (Nat.le_of_ble_eq_true rfl) dX5_kindOf_4 ⟨Nat.le_of_ble_eq_true rfl, Nat.le_of_ble_eq_true rfl⟩ rfl rfl ⟨Nat.le_of_ble_eq_true rfl, Nat.le_of_ble_eq_true rfl⟩ (fun H locs h => ?_)
  refine W.eq (g2 := F0 m 7 ls [.int z1, .ref (q 0)]) rfl ?_
  refine lv_iconst (pc := 7) (v := 1) hx hb dX5_kindOf_7 (by decide) ?_
  refine lv_iconst (pc := 8) (v := 1) hx hb dX5_kindOf_8 (by decide) ?_
  refine call_VUs (pc := 9) (As := [.int z1, .int (1 : Int32), .int (1 : Int32)]) (rest := []) C h (k_X5_goes σ z1 (1 : Int32) (1 : Int32) rfl) cw_X5_123 0 (mW_c0 _ _ _) rfl (mW_fst _ _ _ _) rfl rfl hl.1 (Nat.le_of_ble_eq_true rfl) dX5_kindOf_9 ⟨Nat.le_of_ble_eq_true rfl, Nat.le_of_ble_eq_true rfl⟩ rfl rfl ⟨Nat.le_of_ble_eq_true rfl, Nat.le_of_ble_eq_true rfl⟩ (fun H locs h => ?_)
  refine W.eq (g2 := F0 m 12 ls [.int (f_X5_goes σ z1 (1 : Int32) (1 : Int32)).1]) rfl ?_
  refine lv_if_eq (pc := 12) (tgt := 29) hx hb dX5_kindOf_12 (by decide) (fun c9 => ?_) (fun c9 => ?_)
  · have hf := ifT c9 hf
    refine lv_iconst (pc := 29) (v := 0) hx hb dX5_kindOf_29 (by decide) ?_
    have hf : (some ((0 : Int32), (f_X5_goes σ z1 (1 : Int32) (1 : Int32)).2)) = some z := hf
    cases hf
    exact ret_iU (pc := 30) C hr h dX5_kindOf_30
  · have hf := ifF c9 hf
    refine lv_aload_n (pc := 15) hx hb dX5_kindOf_15 rfl (lv_at hl 0 rfl) ?_
    refine g_get (pc := 16) (v := .ref (q 7)) C h.1 0 (mW_c0 _ _ _) fl_X5_28 rfl dX5_kindOf_16 ?_
    refine lv_bipush (pc := 19) (v := 50) hx hb dX5_kindOf_19 (by decide) ?_
    refine lv_iload_n (pc := 21) hx hb dX5_kindOf_21 rfl (lv_at hl 1 rfl) ?_
    refine lv_imul (pc := 22) hx hb dX5_kindOf_22 ?_
    refine lv_iload_n (pc := 23) hx hb dX5_kindOf_23 rfl (lv_at hl 2 rfl) ?_
    refine lv_iadd (pc := 24) hx hb dX5_kindOf_24 ?_
    obtain ⟨hin, hf⟩ := ifS hf
    refine g_ild (pc := 25) (n := 300) (f := ((f_X5_goes σ z1 (1 : Int32) (1 : Int32)).2 8)) C h.1 7 (mW_c7 _ _ _) hin dX5_kindOf_25 ?_
    refine lv_goto (pc := 26) (tgt := 30) hx hb dX5_kindOf_26 (by decide) ?_
    have hf : (some ((((f_X5_goes σ z1 (1 : Int32) (1 : Int32)).2 8) (((50 : Int32) * x1) + x2).toNatClampNeg), (f_X5_goes σ z1 (1 : Int32) (1 : Int32)).2)) = some z := hf
    cases hf
    exact ret_iU (pc := 30) C hr h dX5_kindOf_30
abbrev rm_X5_personOf : Room := { frames := 3, cells := 0, slots := 0, locals := 65 }
def f_X5_personOf (σ : Nat → Nat → Int32) (x1 x2 : Int32) : Option (Int32 × (Nat → Nat → Int32)) := ((f_X5_isEvent σ x1 x2).bind fun z1 => (if (f_X5_goes σ z1 (1 : Int32) (1 : Int32)).1 = 0 then (some ((0 : Int32), (f_X5_goes σ z1 (1 : Int32) (1 : Int32)).2)) else (if inb (((50 : Int32) * x1) + x2) 300 then (some ((((f_X5_goes σ z1 (1 : Int32) (1 : Int32)).2 9) (((50 : Int32) * x1) + x2).toNatClampNeg), (f_X5_goes σ z1 (1 : Int32) (1 : Int32)).2)) else none)))
set_option maxHeartbeats 400000 in
set_option maxRecDepth 100000 in
theorem k_X5_personOf {q : Nat → Nat} {cA : Nat → ClassId} {D : va_G} (σ : Nat → Nat → Int32) (x1 x2 : Int32) {z : Int32 × (Nat → Nat → Int32)} (hf : f_X5_personOf σ x1 x2 = some z) : CtU yX5_personOf cX5_personOf 3 (some .int) rm_X5_personOf [.ref (q 0), .int x1, .int x2] D cA (mW q cA σ) (mW q cA z.2) (some (.int z.1)) 0 0 := by
  refine ctU_of (by decide) (Nat.le_of_ble_eq_true rfl) ?_
  intro p l e s m below meth c ls C hr hnm h hl
  have C : Cx p s m _ meth c cX5_personOf 3 RX5 D cA := C
  obtain ⟨hx, hb, hml, hown, hts, hK, hlk⟩ := id C
  replace hl : lv_has ls 3 [(0, .ref (q 0)), (1, .int x1), (2, .int x2)] := hl
  rw [f_X5_personOf] at hf
  refine lv_aload_n (pc := 0) hx hb dX5_personOf_0 rfl (lv_at hl 0 rfl) ?_
  refine lv_aload_n (pc := 1) hx hb dX5_personOf_1 rfl (lv_at hl 0 rfl) ?_
  refine lv_iload_n (pc := 2) hx hb dX5_personOf_2 rfl (lv_at hl 1 rfl) ?_
  refine lv_iload_n (pc := 3) hx hb dX5_personOf_3 rfl (lv_at hl 2 rfl) ?_
  obtain ⟨z1, hc1, hf⟩ := bdS hf
  refine call_VRs (pc := 4) (As := [.int x1, .int x2]) (rest := [.ref (q 0)]) C h (k_X5_isEvent σ x1 x2 hc1) cw_X5_179 0 (mW_c0 _ _ _) rfl rfl rfl hl.1 (Nat.le_of_ble_eq_true rfl) dX5_personOf_4 ⟨Nat.le_of_ble_eq_true rfl, Nat.le_of_ble_eq_true rfl⟩ rfl rfl ⟨Nat.le_of_ble_eq_true rfl, Nat.le_of_ble_eq_true rfl⟩ (fun H locs h => ?_)
  refine W.eq (g2 := F0 m 7 ls [.int z1, .ref (q 0)]) rfl ?_
  refine lv_iconst (pc := 7) (v := 1) hx hb dX5_personOf_7 (by decide) ?_
  refine lv_iconst (pc := 8) (v := 1) hx hb dX5_personOf_8 (by decide) ?_
  refine call_VUs (pc := 9) (As := [.int z1, .int (1 : Int32), .int (1 : Int32)]) (rest := []) C h (k_X5_goes σ z1 (1 : Int32) (1 : Int32) rfl) cw_X5_123 0 (mW_c0 _ _ _) rfl (mW_fst _ _ _ _) rfl rfl hl.1 (Nat.le_of_ble_eq_true rfl) dX5_personOf_9 ⟨Nat.le_of_ble_eq_true rfl, Nat.le_of_ble_eq_true rfl⟩ rfl rfl ⟨Nat.le_of_ble_eq_true rfl, Nat.le_of_ble_eq_true rfl⟩ (fun H locs h => ?_)
  refine W.eq (g2 := F0 m 12 ls [.int (f_X5_goes σ z1 (1 : Int32) (1 : Int32)).1]) rfl ?_
  refine lv_if_eq (pc := 12) (tgt := 29) hx hb dX5_personOf_12 (by decide) (fun c9 => ?_) (fun c9 => ?_)
  · have hf := ifT c9 hf
    refine lv_iconst (pc := 29) (v := 0) hx hb dX5_personOf_29 (by decide) ?_
    have hf : (some ((0 : Int32), (f_X5_goes σ z1 (1 : Int32) (1 : Int32)).2)) = some z := hf
    cases hf
    exact ret_iU (pc := 30) C hr h dX5_personOf_30
  · have hf := ifF c9 hf
    refine lv_aload_n (pc := 15) hx hb dX5_personOf_15 rfl (lv_at hl 0 rfl) ?_
    refine g_get (pc := 16) (v := .ref (q 8)) C h.1 0 (mW_c0 _ _ _) fl_X5_31 rfl dX5_personOf_16 ?_
    refine lv_bipush (pc := 19) (v := 50) hx hb dX5_personOf_19 (by decide) ?_
    refine lv_iload_n (pc := 21) hx hb dX5_personOf_21 rfl (lv_at hl 1 rfl) ?_
    refine lv_imul (pc := 22) hx hb dX5_personOf_22 ?_
    refine lv_iload_n (pc := 23) hx hb dX5_personOf_23 rfl (lv_at hl 2 rfl) ?_
    refine lv_iadd (pc := 24) hx hb dX5_personOf_24 ?_
    obtain ⟨hin, hf⟩ := ifS hf
    refine g_ild (pc := 25) (n := 300) (f := ((f_X5_goes σ z1 (1 : Int32) (1 : Int32)).2 9)) C h.1 8 (mW_c8 _ _ _) hin dX5_personOf_25 ?_
    refine lv_goto (pc := 26) (tgt := 30) hx hb dX5_personOf_26 (by decide) ?_
    have hf : (some ((((f_X5_goes σ z1 (1 : Int32) (1 : Int32)).2 9) (((50 : Int32) * x1) + x2).toNatClampNeg), (f_X5_goes σ z1 (1 : Int32) (1 : Int32)).2)) = some z := hf
    cases hf
    exact ret_iU (pc := 30) C hr h dX5_personOf_30
abbrev rm_X5_dayOf : Room := { frames := 3, cells := 0, slots := 0, locals := 65 }
def f_X5_dayOf (σ : Nat → Nat → Int32) (x1 x2 : Int32) : Option (Int32 × (Nat → Nat → Int32)) := ((f_X5_isEvent σ x1 x2).bind fun z1 => (if (f_X5_goes σ z1 (1 : Int32) (1 : Int32)).1 = 0 then (some ((0 : Int32), (f_X5_goes σ z1 (1 : Int32) (1 : Int32)).2)) else (if inb (((50 : Int32) * x1) + x2) 300 then (some ((((f_X5_goes σ z1 (1 : Int32) (1 : Int32)).2 11) (((50 : Int32) * x1) + x2).toNatClampNeg), (f_X5_goes σ z1 (1 : Int32) (1 : Int32)).2)) else none)))
set_option maxHeartbeats 400000 in
set_option maxRecDepth 100000 in
theorem k_X5_dayOf {q : Nat → Nat} {cA : Nat → ClassId} {D : va_G} (σ : Nat → Nat → Int32) (x1 x2 : Int32) {z : Int32 × (Nat → Nat → Int32)} (hf : f_X5_dayOf σ x1 x2 = some z) : CtU yX5_dayOf cX5_dayOf 3 (some .int) rm_X5_dayOf [.ref (q 0), .int x1, .int x2] D cA (mW q cA σ) (mW q cA z.2) (some (.int z.1)) 0 0 := by
  refine ctU_of (by decide) (Nat.le_of_ble_eq_true rfl) ?_
  intro p l e s m below meth c ls C hr hnm h hl
  have C : Cx p s m _ meth c cX5_dayOf 3 RX5 D cA := C
  obtain ⟨hx, hb, hml, hown, hts, hK, hlk⟩ := id C
  replace hl : lv_has ls 3 [(0, .ref (q 0)), (1, .int x1), (2, .int x2)] := hl
  rw [f_X5_dayOf] at hf
  refine lv_aload_n (pc := 0) hx hb dX5_dayOf_0 rfl (lv_at hl 0 rfl) ?_
  refine lv_aload_n (pc := 1) hx hb dX5_dayOf_1 rfl (lv_at hl 0 rfl) ?_
  refine lv_iload_n (pc := 2) hx hb dX5_dayOf_2 rfl (lv_at hl 1 rfl) ?_
  refine lv_iload_n (pc := 3) hx hb dX5_dayOf_3 rfl (lv_at hl 2 rfl) ?_
  obtain ⟨z1, hc1, hf⟩ := bdS hf
  refine call_VRs (pc := 4) (As := [.int x1, .int x2]) (rest := [.ref (q 0)]) C h (k_X5_isEvent σ x1 x2 hc1) cw_X5_179 0 (mW_c0 _ _ _) rfl rfl rfl hl.1 (Nat.le_of_ble_eq_true rfl) dX5_dayOf_4 ⟨Nat.le_of_ble_eq_true rfl, Nat.le_of_ble_eq_true rfl⟩ rfl rfl ⟨Nat.le_of_ble_eq_true rfl, Nat.le_of_ble_eq_true rfl⟩ (fun H locs h => ?_)
  refine W.eq (g2 := F0 m 7 ls [.int z1, .ref (q 0)]) rfl ?_
  refine lv_iconst (pc := 7) (v := 1) hx hb dX5_dayOf_7 (by decide) ?_
  refine lv_iconst (pc := 8) (v := 1) hx hb dX5_dayOf_8 (by decide) ?_
  refine call_VUs (pc := 9) (As := [.int z1, .int (1 : Int32), .int (1 : Int32)]) (rest := []) C h (k_X5_goes σ z1 (1 : Int32) (1 : Int32) rfl) cw_X5_123 0 (mW_c0 _ _ _) rfl (mW_fst _ _ _ _) rfl rfl hl.1 (Nat.le_of_ble_eq_true rfl) dX5_dayOf_9 ⟨Nat.le_of_ble_eq_true rfl, Nat.le_of_ble_eq_true rfl⟩ rfl rfl ⟨Nat.le_of_ble_eq_true rfl, Nat.le_of_ble_eq_true rfl⟩ (fun H locs h => ?_)
  refine W.eq (g2 := F0 m 12 ls [.int (f_X5_goes σ z1 (1 : Int32) (1 : Int32)).1]) rfl ?_
  refine lv_if_eq (pc := 12) (tgt := 29) hx hb dX5_dayOf_12 (by decide) (fun c9 => ?_) (fun c9 => ?_)
  · have hf := ifT c9 hf
    refine lv_iconst (pc := 29) (v := 0) hx hb dX5_dayOf_29 (by decide) ?_
    have hf : (some ((0 : Int32), (f_X5_goes σ z1 (1 : Int32) (1 : Int32)).2)) = some z := hf
    cases hf
    exact ret_iU (pc := 30) C hr h dX5_dayOf_30
  · have hf := ifF c9 hf
    refine lv_aload_n (pc := 15) hx hb dX5_dayOf_15 rfl (lv_at hl 0 rfl) ?_
    refine g_get (pc := 16) (v := .ref (q 10)) C h.1 0 (mW_c0 _ _ _) fl_X5_37 rfl dX5_dayOf_16 ?_
    refine lv_bipush (pc := 19) (v := 50) hx hb dX5_dayOf_19 (by decide) ?_
    refine lv_iload_n (pc := 21) hx hb dX5_dayOf_21 rfl (lv_at hl 1 rfl) ?_
    refine lv_imul (pc := 22) hx hb dX5_dayOf_22 ?_
    refine lv_iload_n (pc := 23) hx hb dX5_dayOf_23 rfl (lv_at hl 2 rfl) ?_
    refine lv_iadd (pc := 24) hx hb dX5_dayOf_24 ?_
    obtain ⟨hin, hf⟩ := ifS hf
    refine g_ild (pc := 25) (n := 300) (f := ((f_X5_goes σ z1 (1 : Int32) (1 : Int32)).2 11)) C h.1 10 (mW_c10 _ _ _) hin dX5_dayOf_25 ?_
    refine lv_goto (pc := 26) (tgt := 30) hx hb dX5_dayOf_26 (by decide) ?_
    have hf : (some ((((f_X5_goes σ z1 (1 : Int32) (1 : Int32)).2 11) (((50 : Int32) * x1) + x2).toNatClampNeg), (f_X5_goes σ z1 (1 : Int32) (1 : Int32)).2)) = some z := hf
    cases hf
    exact ret_iU (pc := 30) C hr h dX5_dayOf_30
abbrev rm_X5_seal : Room := { frames := 3, cells := 0, slots := 0, locals := 65 }
def f_X5_seal_25 : Nat → (Nat → Nat → Int32) → Int32 → Int32 → Int32 → Int32 → Option (Int32 × Int32)
  | 0, _, _, _, _, _ => none
  | n + 1, σ, x1, x2, x3, x4 => (if (((50 : Int32) * x1) + x2) ≤ x4 then some (x3, x4) else (if inb x4 300 then (if inb x4 300 then (if inb x4 300 then (if inb x4 300 then (f_X5_seal_25 n σ x1 x2 (((((((31 : Int32) * x3) + ((7 : Int32) * ((σ 8) x4.toNatClampNeg))) + ((11 : Int32) * (((σ 9) x4.toNatClampNeg) + (1 : Int32)))) + ((13 : Int32) * (((σ 10) x4.toNatClampNeg) + (1 : Int32)))) + ((17 : Int32) * ((σ 11) x4.toNatClampNeg))) - ((((((31 : Int32) * x3) + ((7 : Int32) * ((σ 8) x4.toNatClampNeg))) + ((11 : Int32) * (((σ 9) x4.toNatClampNeg) + (1 : Int32)))) + ((13 : Int32) * (((σ 10) x4.toNatClampNeg) + (1 : Int32)))) + ((17 : Int32) * ((σ 11) x4.toNatClampNeg))) / (65521 : Int32) * (65521 : Int32)) (x4 + (1 : Int32))) else none) else none) else none) else none))
def f_X5_seal (σ : Nat → Nat → Int32) (x1 x2 : Int32) : Option (Int32 × (Nat → Nat → Int32)) := ((f_X5_areEvents σ x1 x2).bind fun z1 => (if (f_X5_goes σ z1 (1 : Int32) (1 : Int32)).1 = 0 then (some ((0 : Int32), (f_X5_goes σ z1 (1 : Int32) (1 : Int32)).2)) else ((f_X5_seal_25 FU (f_X5_goes σ z1 (1 : Int32) (1 : Int32)).2 x1 x2 (1 : Int32) ((50 : Int32) * x1)).bind fun z2 => (some (z2.1, (f_X5_goes σ z1 (1 : Int32) (1 : Int32)).2)))))
set_option maxHeartbeats 400000 in
set_option maxRecDepth 100000 in
theorem l_X5_seal_25 (C : Cx p s m args meth c cX5_seal 5 RX5 D cA) : ∀ (n : Nat) (σ : Nat → Nat → Int32) (x1 x2 x3 x4 : Int32) (z : Int32 × Int32), f_X5_seal_25 n σ x1 x2 x3 x4 = some z → ∀ (H : Heap) (locs : List Loc) (ls : Array Slot), St D A s.heap (mW q cA σ) H locs → lv_has ls 5 [(0, .ref (q 0)), (1, .int x1), (2, .int x2), (3, .int x3), (4, .int x4)] → (∀ (H : Heap) (locs : List Loc) (ls : Array Slot), St D A s.heap (mW q cA σ) H locs → lv_has ls 5 [(0, .ref (q 0)), (1, .int x1), (2, .int x2), (3, .int z.1), (4, .int z.2)] → W p l e rm_X5_seal s m args below meth c H locs 0 0 Q (F0 m 98 ls [])) → W p l e rm_X5_seal s m args below meth c H locs 0 0 Q (F0 m 25 ls []) := by
  obtain ⟨hx, hb, hml, hown, hts, hK, hlk⟩ := id C
  intro n
  induction n with
  | zero => intro σ x1 x2 x3 x4 z hf; rw [f_X5_seal_25] at hf; cases hf
  | succ n ih =>
    intro σ x1 x2 x3 x4 z hf H locs ls h hl kk
    rw [f_X5_seal_25] at hf
    refine lv_iload (pc := 25) hx hb dX5_seal_25 (lv_at hl 4 rfl) ?_
    refine lv_bipush (pc := 27) (v := 50) hx hb dX5_seal_27 (by decide) ?_
    refine lv_iload_n (pc := 29) hx hb dX5_seal_29 rfl (lv_at hl 1 rfl) ?_
    refine lv_imul (pc := 30) hx hb dX5_seal_30 ?_
    refine lv_iload_n (pc := 31) hx hb dX5_seal_31 rfl (lv_at hl 2 rfl) ?_
    refine lv_iadd (pc := 32) hx hb dX5_seal_32 ?_
    refine lv_icmp_ge (pc := 33) (tgt := 98) hx hb dX5_seal_33 (by decide) (fun c9 => ?_) (fun c9 => ?_)
    · have hf := ifT c9 hf
      have hf : some (x3, x4) = some z := hf
      cases hf
      exact kk _ _ _ h (lv_sub hl [0, 1, 2, 3, 4] rfl)
    · have hf := ifF c9 hf
      refine lv_bipush (pc := 36) (v := 31) hx hb dX5_seal_36 (by decide) ?_
      refine lv_iload_n (pc := 38) hx hb dX5_seal_38 rfl (lv_at hl 3 rfl) ?_
      refine lv_imul (pc := 39) hx hb dX5_seal_39 ?_
      refine lv_bipush (pc := 40) (v := 7) hx hb dX5_seal_40 (by decide) ?_
      refine lv_aload_n (pc := 42) hx hb dX5_seal_42 rfl (lv_at hl 0 rfl) ?_
      refine g_get (pc := 43) (v := .ref (q 7)) C h.1 0 (mW_c0 _ _ _) fl_X5_28 rfl dX5_seal_43 ?_
      refine lv_iload (pc := 46) hx hb dX5_seal_46 (lv_at hl 4 rfl) ?_
      obtain ⟨hin, hf⟩ := ifS hf
      refine g_ild (pc := 48) (n := 300) (f := (σ 8)) C h.1 7 (mW_c7 _ _ _) hin dX5_seal_48 ?_
      refine lv_imul (pc := 49) hx hb dX5_seal_49 ?_
      refine lv_iadd (pc := 50) hx hb dX5_seal_50 ?_
      refine lv_bipush (pc := 51) (v := 11) hx hb dX5_seal_51 (by decide) ?_
      refine lv_aload_n (pc := 53) hx hb dX5_seal_53 rfl (lv_at hl 0 rfl) ?_
      refine g_get (pc := 54) (v := .ref (q 8)) C h.1 0 (mW_c0 _ _ _) fl_X5_31 rfl dX5_seal_54 ?_
      refine lv_iload (pc := 57) hx hb dX5_seal_57 (lv_at hl 4 rfl) ?_
      obtain ⟨hin, hf⟩ := ifS hf
      refine g_ild (pc := 59) (n := 300) (f := (σ 9)) C h.1 8 (mW_c8 _ _ _) hin dX5_seal_59 ?_
      refine lv_iconst (pc := 60) (v := 1) hx hb dX5_seal_60 (by decide) ?_
      refine lv_iadd (pc := 61) hx hb dX5_seal_61 ?_
      refine lv_imul (pc := 62) hx hb dX5_seal_62 ?_
      refine lv_iadd (pc := 63) hx hb dX5_seal_63 ?_
      refine lv_bipush (pc := 64) (v := 13) hx hb dX5_seal_64 (by decide) ?_
      refine lv_aload_n (pc := 66) hx hb dX5_seal_66 rfl (lv_at hl 0 rfl) ?_
      refine g_get (pc := 67) (v := .ref (q 9)) C h.1 0 (mW_c0 _ _ _) fl_X5_34 rfl dX5_seal_67 ?_
      refine lv_iload (pc := 70) hx hb dX5_seal_70 (lv_at hl 4 rfl) ?_
      obtain ⟨hin, hf⟩ := ifS hf
      refine g_ild (pc := 72) (n := 300) (f := (σ 10)) C h.1 9 (mW_c9 _ _ _) hin dX5_seal_72 ?_
      refine lv_iconst (pc := 73) (v := 1) hx hb dX5_seal_73 (by decide) ?_
      refine lv_iadd (pc := 74) hx hb dX5_seal_74 ?_
      refine lv_imul (pc := 75) hx hb dX5_seal_75 ?_
      refine lv_iadd (pc := 76) hx hb dX5_seal_76 ?_
      refine lv_bipush (pc := 77) (v := 17) hx hb dX5_seal_77 (by decide) ?_
      refine lv_aload_n (pc := 79) hx hb dX5_seal_79 rfl (lv_at hl 0 rfl) ?_
      refine g_get (pc := 80) (v := .ref (q 10)) C h.1 0 (mW_c0 _ _ _) fl_X5_37 rfl dX5_seal_80 ?_
      refine lv_iload (pc := 83) hx hb dX5_seal_83 (lv_at hl 4 rfl) ?_
      obtain ⟨hin, hf⟩ := ifS hf
      refine g_ild (pc := 85) (n := 300) (f := (σ 11)) C h.1 10 (mW_c10 _ _ _) hin dX5_seal_85 ?_
      refine lv_imul (pc := 86) hx hb dX5_seal_86 ?_
      refine lv_iadd (pc := 87) hx hb dX5_seal_87 ?_
      refine lv_ldc (pc := 88) (v := 65521) hx hb hown (hts _ kc_X5_185) dX5_seal_88 ?_
      refine lv_irem (pc := 90) hx hb dX5_seal_90 (by decide) ?_
      refine lv_istore_n (pc := 91) (lv' := [(3, .int (((((((31 : Int32) * x3) + ((7 : Int32) * ((σ 8) x4.toNatClampNeg))) + ((11 : Int32) * (((σ 9) x4.toNatClampNeg) + (1 : Int32)))) + ((13 : Int32) * (((σ 10) x4.toNatClampNeg) + (1 : Int32)))) + ((17 : Int32) * ((σ 11) x4.toNatClampNeg))) - ((((((31 : Int32) * x3) + ((7 : Int32) * ((σ 8) x4.toNatClampNeg))) + ((11 : Int32) * (((σ 9) x4.toNatClampNeg) + (1 : Int32)))) + ((13 : Int32) * (((σ 10) x4.toNatClampNeg) + (1 : Int32)))) + ((17 : Int32) * ((σ 11) x4.toNatClampNeg))) / (65521 : Int32) * (65521 : Int32))), (0, .ref (q 0)), (1, .int x1), (2, .int x2), (4, .int x4)]) hx hb dX5_seal_91 rfl hl (by decide) rfl (fun ls hl => ?_)
      refine lv_iinc (pc := 92) (v := (x4 + (1 : Int32))) (lv' := [(4, .int (x4 + (1 : Int32))), (3, .int (((((((31 : Int32) * x3) + ((7 : Int32) * ((σ 8) x4.toNatClampNeg))) + ((11 : Int32) * (((σ 9) x4.toNatClampNeg) + (1 : Int32)))) + ((13 : Int32) * (((σ 10) x4.toNatClampNeg) + (1 : Int32)))) + ((17 : Int32) * ((σ 11) x4.toNatClampNeg))) - ((((((31 : Int32) * x3) + ((7 : Int32) * ((σ 8) x4.toNatClampNeg))) + ((11 : Int32) * (((σ 9) x4.toNatClampNeg) + (1 : Int32)))) + ((13 : Int32) * (((σ 10) x4.toNatClampNeg) + (1 : Int32)))) + ((17 : Int32) * ((σ 11) x4.toNatClampNeg))) / (65521 : Int32) * (65521 : Int32))), (0, .ref (q 0)), (1, .int x1), (2, .int x2)]) hx hb dX5_seal_92 hl (k := 4) rfl rfl (by decide) rfl (fun ls hl => ?_)
      refine lv_goto (pc := 95) (tgt := 25) hx hb dX5_seal_95 (by decide) ?_
      exact ih _ _ _ _ _ _ hf _ _ _ h (lv_sub hl [2, 3, 4, 1, 0] rfl) kk
set_option maxHeartbeats 400000 in
set_option maxRecDepth 100000 in
theorem k_X5_seal {q : Nat → Nat} {cA : Nat → ClassId} {D : va_G} (σ : Nat → Nat → Int32) (x1 x2 : Int32) {z : Int32 × (Nat → Nat → Int32)} (hf : f_X5_seal σ x1 x2 = some z) : CtU yX5_seal cX5_seal 5 (some .int) rm_X5_seal [.ref (q 0), .int x1, .int x2] D cA (mW q cA σ) (mW q cA z.2) (some (.int z.1)) 0 0 := by
  refine ctU_of (by decide) (Nat.le_of_ble_eq_true rfl) ?_
  intro p l e s m below meth c ls C hr hnm h hl
  have C : Cx p s m _ meth c cX5_seal 5 RX5 D cA := C
  obtain ⟨hx, hb, hml, hown, hts, hK, hlk⟩ := id C
  replace hl : lv_has ls 5 [(0, .ref (q 0)), (1, .int x1), (2, .int x2)] := hl
  rw [f_X5_seal] at hf
  refine lv_aload_n (pc := 0) hx hb dX5_seal_0 rfl (lv_at hl 0 rfl) ?_
  refine lv_aload_n (pc := 1) hx hb dX5_seal_1 rfl (lv_at hl 0 rfl) ?_
  refine lv_iload_n (pc := 2) hx hb dX5_seal_2 rfl (lv_at hl 1 rfl) ?_
  refine lv_iload_n (pc := 3) hx hb dX5_seal_3 rfl (lv_at hl 2 rfl) ?_
  obtain ⟨z1, hc1, hf⟩ := bdS hf
  refine call_VRs (pc := 4) (As := [.int x1, .int x2]) (rest := [.ref (q 0)]) C h (k_X5_areEvents σ x1 x2 hc1) cw_X5_182 0 (mW_c0 _ _ _) rfl rfl rfl hl.1 (Nat.le_of_ble_eq_true rfl) dX5_seal_4 ⟨Nat.le_of_ble_eq_true rfl, Nat.le_of_ble_eq_true rfl⟩ rfl rfl ⟨Nat.le_of_ble_eq_true rfl, Nat.le_of_ble_eq_true rfl⟩ (fun H locs h => ?_)
  refine W.eq (g2 := F0 m 7 ls [.int z1, .ref (q 0)]) rfl ?_
  refine lv_iconst (pc := 7) (v := 1) hx hb dX5_seal_7 (by decide) ?_
  refine lv_iconst (pc := 8) (v := 1) hx hb dX5_seal_8 (by decide) ?_
  refine call_VUs (pc := 9) (As := [.int z1, .int (1 : Int32), .int (1 : Int32)]) (rest := []) C h (k_X5_goes σ z1 (1 : Int32) (1 : Int32) rfl) cw_X5_123 0 (mW_c0 _ _ _) rfl (mW_fst _ _ _ _) rfl rfl hl.1 (Nat.le_of_ble_eq_true rfl) dX5_seal_9 ⟨Nat.le_of_ble_eq_true rfl, Nat.le_of_ble_eq_true rfl⟩ rfl rfl ⟨Nat.le_of_ble_eq_true rfl, Nat.le_of_ble_eq_true rfl⟩ (fun H locs h => ?_)
  refine W.eq (g2 := F0 m 12 ls [.int (f_X5_goes σ z1 (1 : Int32) (1 : Int32)).1]) rfl ?_
  refine lv_if_ne (pc := 12) (tgt := 17) hx hb dX5_seal_12 (by decide) (fun c9 => ?_) (fun c9 => ?_)
  · have hf := ifF c9 hf
    refine lv_iconst (pc := 17) (v := 1) hx hb dX5_seal_17 (by decide) ?_
    refine lv_istore_n (pc := 18) (lv' := [(3, .int (1 : Int32)), (0, .ref (q 0)), (1, .int x1), (2, .int x2)]) hx hb dX5_seal_18 rfl hl (by decide) rfl (fun ls hl => ?_)
    refine lv_bipush (pc := 19) (v := 50) hx hb dX5_seal_19 (by decide) ?_
    refine lv_iload_n (pc := 21) hx hb dX5_seal_21 rfl (lv_at hl 2 rfl) ?_
    refine lv_imul (pc := 22) hx hb dX5_seal_22 ?_
    refine lv_istore (pc := 23) (lv' := [(4, .int ((50 : Int32) * x1)), (3, .int (1 : Int32)), (0, .ref (q 0)), (1, .int x1), (2, .int x2)]) hx hb dX5_seal_23 hl (by decide) rfl (fun ls hl => ?_)
    obtain ⟨z2, hc2, hf⟩ := bdS hf
    refine l_X5_seal_25 C _ _ _ _ _ _ _ hc2 _ _ _ h (lv_sub hl [2, 3, 4, 1, 0] rfl) (fun H locs ls h hl => ?_)
    refine lv_iload_n (pc := 98) hx hb dX5_seal_98 rfl (lv_at hl 3 rfl) ?_
    have hf : (some (z2.1, (f_X5_goes σ z1 (1 : Int32) (1 : Int32)).2)) = some z := hf
    cases hf
    exact ret_iU (pc := 99) C hr h dX5_seal_99
  · have hf := ifT c9 hf
    refine lv_iconst (pc := 15) (v := 0) hx hb dX5_seal_15 (by decide) ?_
    have hf : (some ((0 : Int32), (f_X5_goes σ z1 (1 : Int32) (1 : Int32)).2)) = some z := hf
    cases hf
    exact ret_iU (pc := 16) C hr h dX5_seal_16
abbrev rm_X5_stateBehind : Room := { frames := 3, cells := 0, slots := 0, locals := 68 }
def f_X5_stateBehind (σ : Nat → Nat → Int32) (x1 x2 : Int32) : Option (Int32 × (Nat → Nat → Int32)) := ((f_X5_areEvents σ x1 x2).bind fun z1 => (if (f_X5_goes σ z1 (1 : Int32) (1 : Int32)).1 = 0 then (some ((0 : Int32), (f_X5_goes σ z1 (1 : Int32) (1 : Int32)).2)) else ((f_X5_tells (f_X5_goes σ z1 (1 : Int32) (1 : Int32)).2 x1 x2).bind fun z2 => (some ((z2 18 0), z2)))))
set_option maxHeartbeats 400000 in
set_option maxRecDepth 100000 in
theorem k_X5_stateBehind {q : Nat → Nat} {cA : Nat → ClassId} {D : va_G} (σ : Nat → Nat → Int32) (x1 x2 : Int32) {z : Int32 × (Nat → Nat → Int32)} (hf : f_X5_stateBehind σ x1 x2 = some z) : CtU yX5_stateBehind cX5_stateBehind 3 (some .int) rm_X5_stateBehind [.ref (q 0), .int x1, .int x2] D cA (mW q cA σ) (mW q cA z.2) (some (.int z.1)) 0 0 := by
  refine ctU_of (by decide) (Nat.le_of_ble_eq_true rfl) ?_
  intro p l e s m below meth c ls C hr hnm h hl
  have C : Cx p s m _ meth c cX5_stateBehind 3 RX5 D cA := C
  obtain ⟨hx, hb, hml, hown, hts, hK, hlk⟩ := id C
  replace hl : lv_has ls 3 [(0, .ref (q 0)), (1, .int x1), (2, .int x2)] := hl
  rw [f_X5_stateBehind] at hf
  refine lv_aload_n (pc := 0) hx hb dX5_stateBehind_0 rfl (lv_at hl 0 rfl) ?_
  refine lv_aload_n (pc := 1) hx hb dX5_stateBehind_1 rfl (lv_at hl 0 rfl) ?_
  refine lv_iload_n (pc := 2) hx hb dX5_stateBehind_2 rfl (lv_at hl 1 rfl) ?_
  refine lv_iload_n (pc := 3) hx hb dX5_stateBehind_3 rfl (lv_at hl 2 rfl) ?_
  obtain ⟨z1, hc1, hf⟩ := bdS hf
  refine call_VRs (pc := 4) (As := [.int x1, .int x2]) (rest := [.ref (q 0)]) C h (k_X5_areEvents σ x1 x2 hc1) cw_X5_182 0 (mW_c0 _ _ _) rfl rfl rfl hl.1 (Nat.le_of_ble_eq_true rfl) dX5_stateBehind_4 ⟨Nat.le_of_ble_eq_true rfl, Nat.le_of_ble_eq_true rfl⟩ rfl rfl ⟨Nat.le_of_ble_eq_true rfl, Nat.le_of_ble_eq_true rfl⟩ (fun H locs h => ?_)
  refine W.eq (g2 := F0 m 7 ls [.int z1, .ref (q 0)]) rfl ?_
  refine lv_iconst (pc := 7) (v := 1) hx hb dX5_stateBehind_7 (by decide) ?_
  refine lv_iconst (pc := 8) (v := 1) hx hb dX5_stateBehind_8 (by decide) ?_
  refine call_VUs (pc := 9) (As := [.int z1, .int (1 : Int32), .int (1 : Int32)]) (rest := []) C h (k_X5_goes σ z1 (1 : Int32) (1 : Int32) rfl) cw_X5_123 0 (mW_c0 _ _ _) rfl (mW_fst _ _ _ _) rfl rfl hl.1 (Nat.le_of_ble_eq_true rfl) dX5_stateBehind_9 ⟨Nat.le_of_ble_eq_true rfl, Nat.le_of_ble_eq_true rfl⟩ rfl rfl ⟨Nat.le_of_ble_eq_true rfl, Nat.le_of_ble_eq_true rfl⟩ (fun H locs h => ?_)
  refine W.eq (g2 := F0 m 12 ls [.int (f_X5_goes σ z1 (1 : Int32) (1 : Int32)).1]) rfl ?_
  refine lv_if_ne (pc := 12) (tgt := 17) hx hb dX5_stateBehind_12 (by decide) (fun c9 => ?_) (fun c9 => ?_)
  · have hf := ifF c9 hf
    refine lv_aload_n (pc := 17) hx hb dX5_stateBehind_17 rfl (lv_at hl 0 rfl) ?_
    refine lv_iload_n (pc := 18) hx hb dX5_stateBehind_18 rfl (lv_at hl 1 rfl) ?_
    refine lv_iload_n (pc := 19) hx hb dX5_stateBehind_19 rfl (lv_at hl 2 rfl) ?_
    obtain ⟨z2, hc2, hf⟩ := bdS hf
    refine call_VUs (pc := 20) (As := [.int x1, .int x2]) (rest := []) C h (k_X5_tells (f_X5_goes σ z1 (1 : Int32) (1 : Int32)).2 x1 x2 hc2) cw_X5_106 0 (mW_c0 _ _ _) rfl (mW_fst _ _ _ _) rfl rfl hl.1 (Nat.le_of_ble_eq_true rfl) dX5_stateBehind_20 ⟨Nat.le_of_ble_eq_true rfl, Nat.le_of_ble_eq_true rfl⟩ rfl rfl ⟨Nat.le_of_ble_eq_true rfl, Nat.le_of_ble_eq_true rfl⟩ (fun H locs h => ?_)
    refine W.eq (g2 := F0 m 23 ls []) rfl ?_
    refine lv_aload_n (pc := 23) hx hb dX5_stateBehind_23 rfl (lv_at hl 0 rfl) ?_
    refine g_get (pc := 24) (v := .int (z2 18 0)) C h.1 0 (mW_c0 _ _ _) fl_X5_92 rfl dX5_stateBehind_24 ?_
    have hf : (some ((z2 18 0), z2)) = some z := hf
    cases hf
    exact ret_iU (pc := 27) C hr h dX5_stateBehind_27
  · have hf := ifT c9 hf
    refine lv_iconst (pc := 15) (v := 0) hx hb dX5_stateBehind_15 (by decide) ?_
    have hf : (some ((0 : Int32), (f_X5_goes σ z1 (1 : Int32) (1 : Int32)).2)) = some z := hf
    cases hf
    exact ret_iU (pc := 16) C hr h dX5_stateBehind_16
abbrev rm_X5_openBehind : Room := { frames := 3, cells := 0, slots := 0, locals := 68 }
def f_X5_openBehind (σ : Nat → Nat → Int32) (x1 x2 : Int32) : Option (Int32 × (Nat → Nat → Int32)) := ((f_X5_areEvents σ x1 x2).bind fun z1 => (if (f_X5_goes σ z1 (1 : Int32) (1 : Int32)).1 = 0 then (some ((0 : Int32), (f_X5_goes σ z1 (1 : Int32) (1 : Int32)).2)) else ((f_X5_tells (f_X5_goes σ z1 (1 : Int32) (1 : Int32)).2 x1 x2).bind fun z2 => (some ((f_X5_open z2), z2)))))
set_option maxHeartbeats 400000 in
set_option maxRecDepth 100000 in
theorem k_X5_openBehind {q : Nat → Nat} {cA : Nat → ClassId} {D : va_G} (σ : Nat → Nat → Int32) (x1 x2 : Int32) {z : Int32 × (Nat → Nat → Int32)} (hf : f_X5_openBehind σ x1 x2 = some z) : CtU yX5_openBehind cX5_openBehind 3 (some .int) rm_X5_openBehind [.ref (q 0), .int x1, .int x2] D cA (mW q cA σ) (mW q cA z.2) (some (.int z.1)) 0 0 := by
  refine ctU_of (by decide) (Nat.le_of_ble_eq_true rfl) ?_
  intro p l e s m below meth c ls C hr hnm h hl
  have C : Cx p s m _ meth c cX5_openBehind 3 RX5 D cA := C
  obtain ⟨hx, hb, hml, hown, hts, hK, hlk⟩ := id C
  replace hl : lv_has ls 3 [(0, .ref (q 0)), (1, .int x1), (2, .int x2)] := hl
  rw [f_X5_openBehind] at hf
  refine lv_aload_n (pc := 0) hx hb dX5_openBehind_0 rfl (lv_at hl 0 rfl) ?_
  refine lv_aload_n (pc := 1) hx hb dX5_openBehind_1 rfl (lv_at hl 0 rfl) ?_
  refine lv_iload_n (pc := 2) hx hb dX5_openBehind_2 rfl (lv_at hl 1 rfl) ?_
  refine lv_iload_n (pc := 3) hx hb dX5_openBehind_3 rfl (lv_at hl 2 rfl) ?_
  obtain ⟨z1, hc1, hf⟩ := bdS hf
  refine call_VRs (pc := 4) (As := [.int x1, .int x2]) (rest := [.ref (q 0)]) C h (k_X5_areEvents σ x1 x2 hc1) cw_X5_182 0 (mW_c0 _ _ _) rfl rfl rfl hl.1 (Nat.le_of_ble_eq_true rfl) dX5_openBehind_4 ⟨Nat.le_of_ble_eq_true rfl, Nat.le_of_ble_eq_true rfl⟩ rfl rfl ⟨Nat.le_of_ble_eq_true rfl, Nat.le_of_ble_eq_true rfl⟩ (fun H locs h => ?_)
  refine W.eq (g2 := F0 m 7 ls [.int z1, .ref (q 0)]) rfl ?_
  refine lv_iconst (pc := 7) (v := 1) hx hb dX5_openBehind_7 (by decide) ?_
  refine lv_iconst (pc := 8) (v := 1) hx hb dX5_openBehind_8 (by decide) ?_
  refine call_VUs (pc := 9) (As := [.int z1, .int (1 : Int32), .int (1 : Int32)]) (rest := []) C h (k_X5_goes σ z1 (1 : Int32) (1 : Int32) rfl) cw_X5_123 0 (mW_c0 _ _ _) rfl (mW_fst _ _ _ _) rfl rfl hl.1 (Nat.le_of_ble_eq_true rfl) dX5_openBehind_9 ⟨Nat.le_of_ble_eq_true rfl, Nat.le_of_ble_eq_true rfl⟩ rfl rfl ⟨Nat.le_of_ble_eq_true rfl, Nat.le_of_ble_eq_true rfl⟩ (fun H locs h => ?_)
  refine W.eq (g2 := F0 m 12 ls [.int (f_X5_goes σ z1 (1 : Int32) (1 : Int32)).1]) rfl ?_
  refine lv_if_ne (pc := 12) (tgt := 17) hx hb dX5_openBehind_12 (by decide) (fun c9 => ?_) (fun c9 => ?_)
  · have hf := ifF c9 hf
    refine lv_aload_n (pc := 17) hx hb dX5_openBehind_17 rfl (lv_at hl 0 rfl) ?_
    refine lv_iload_n (pc := 18) hx hb dX5_openBehind_18 rfl (lv_at hl 1 rfl) ?_
    refine lv_iload_n (pc := 19) hx hb dX5_openBehind_19 rfl (lv_at hl 2 rfl) ?_
    obtain ⟨z2, hc2, hf⟩ := bdS hf
    refine call_VUs (pc := 20) (As := [.int x1, .int x2]) (rest := []) C h (k_X5_tells (f_X5_goes σ z1 (1 : Int32) (1 : Int32)).2 x1 x2 hc2) cw_X5_106 0 (mW_c0 _ _ _) rfl (mW_fst _ _ _ _) rfl rfl hl.1 (Nat.le_of_ble_eq_true rfl) dX5_openBehind_20 ⟨Nat.le_of_ble_eq_true rfl, Nat.le_of_ble_eq_true rfl⟩ rfl rfl ⟨Nat.le_of_ble_eq_true rfl, Nat.le_of_ble_eq_true rfl⟩ (fun H locs h => ?_)
    refine W.eq (g2 := F0 m 23 ls []) rfl ?_
    refine lv_aload_n (pc := 23) hx hb dX5_openBehind_23 rfl (lv_at hl 0 rfl) ?_
    refine call_VRs (pc := 24) (As := []) (rest := []) C h (k_X5_open z2 rfl) cw_X5_137 0 (mW_c0 _ _ _) rfl rfl rfl hl.1 (Nat.le_of_ble_eq_true rfl) dX5_openBehind_24 ⟨Nat.le_of_ble_eq_true rfl, Nat.le_of_ble_eq_true rfl⟩ rfl rfl ⟨Nat.le_of_ble_eq_true rfl, Nat.le_of_ble_eq_true rfl⟩ (fun H locs h => ?_)
    refine W.eq (g2 := F0 m 27 ls [.int (f_X5_open z2)]) rfl ?_
    have hf : (some ((f_X5_open z2), z2)) = some z := hf
    cases hf
    exact ret_iU (pc := 27) C hr h dX5_openBehind_27
  · have hf := ifT c9 hf
    refine lv_iconst (pc := 15) (v := 0) hx hb dX5_openBehind_15 (by decide) ?_
    have hf : (some ((0 : Int32), (f_X5_goes σ z1 (1 : Int32) (1 : Int32)).2)) = some z := hf
    cases hf
    exact ret_iU (pc := 16) C hr h dX5_openBehind_16
end
