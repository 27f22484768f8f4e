section
variable {p : Program} {l : Launch} {e : Env} {R : Room} {s : State} {m : MethodId} {args : Array Value} {below : List Frame} {meth : Method} {c : Code} {Q : State → Prop}
variable {D : va_G} {cA : Nat → ClassId} {A : Nat → Prop} {n : Nat} {q0 : Nat → Nat} {q : Nat → Nat → Nat}
abbrev rm_X4_reasonFor : Room := { frames := 1, cells := 0, slots := 0, locals := 22 }
def f_X4_reasonFor (σ0 τ : (Nat → Nat → Int32)) (x1 x3 : Int32) : Option (Int32) := (if (τ 11 0) = (1 : Int32) then (if (f_X4_has (τ 16 0) x3) = 0 then (some (3 : Int32)) else (if (rg 8 (τ 0) x3) = x1 then (some (0 : Int32)) else (xn (f_X4_standinOf (rg 8 (τ 0) x3)) fun z1 => (if (f_X3_otherOn (ds σ0 z1) (σ0 1 0)) = x1 then (if (σ0 (3 + z1) 4) < (σ0 (3 + z1) 3) then (some (1 : Int32)) else (some (5 : Int32))) else (some (4 : Int32)))))) else (some (2 : Int32)))
set_option maxHeartbeats 400000 in
set_option maxRecDepth 100000 in
theorem k_X4_reasonFor {n k0 : Nat} (hn : n ≤ 6) (hk0 : k0 < n) {q0 : Nat → Nat} {q : Nat → Nat → Nat} {cA : Nat → ClassId} {D : va_G} (σ0 τ : (Nat → Nat → Int32)) (x1 x3 : Int32) {z : Int32} (hf : f_X4_reasonFor σ0 τ x1 x3 = some z) : CtR yX4_reasonFor cX4_reasonFor 6 (some .int) rm_X4_reasonFor [.ref (q0 0), .int x1, .ref (q k0 0), .int x3] D cA (reW n k0 q0 q cA σ0 τ) (some (.int z)) 0 0 := by
  refine ctR_of (by decide) (Nat.le_of_ble_eq_true rfl) ?_
  intro p l e s m below meth c ls C hr hnm h hl
  have C : Cx p s m _ meth c cX4_reasonFor 6 RX4 D cA := C
  obtain ⟨hx, hb, hml, hown, hts, hK, hlk⟩ := id C
  replace hl : lv_has ls 6 [(0, .ref (q0 0)), (1, .int x1), (2, .ref (q k0 0)), (3, .int x3)] := hl
  rw [f_X4_reasonFor] at hf
  refine lv_aload_n (pc := 0) hx hb dX4_reasonFor_0 rfl (lv_at hl 2 rfl) ?_
  refine g_get (pc := 1) (v := .int (τ 11 0)) C h.1 13 (reW_c13 ..) fl_X4_137 rfl dX4_reasonFor_1 ?_
  refine lv_iconst (pc := 4) (v := 1) hx hb dX4_reasonFor_4 (by decide) ?_
  refine lv_icmp_eq (pc := 5) (tgt := 10) hx hb dX4_reasonFor_5 (by decide) (fun c9 => ?_) (fun c9 => ?_)
  · have hf := ifT c9 hf
    refine lv_aload_n (pc := 10) hx hb dX4_reasonFor_10 rfl (lv_at hl 2 rfl) ?_
    refine g_get (pc := 11) (v := .int (τ 16 0)) C h.1 13 (reW_c13 ..) fl_X4_247 rfl dX4_reasonFor_11 ?_
    refine lv_iload_n (pc := 14) hx hb dX4_reasonFor_14 rfl (lv_at hl 3 rfl) ?_
    refine call_SRR (pc := 15) (As := [.int (τ 16 0), .int x3]) (rest := []) C h (k_X4_has (τ 16 0) x3 rfl) cw_X4_82 [] rfl (by decide) rfl rfl hl.1 (Nat.le_of_ble_eq_true rfl) dX4_reasonFor_15 ⟨Nat.le_of_ble_eq_true rfl, Nat.le_of_ble_eq_true rfl⟩ rfl rfl ⟨Nat.le_of_ble_eq_true rfl, Nat.le_of_ble_eq_true rfl⟩ (fun H locs h => ?_)
    refine W.eq (g2 := F0 m 18 ls [.int (f_X4_has (τ 16 0) x3)]) rfl ?_
    refine lv_if_ne (pc := 18) (tgt := 23) hx hb dX4_reasonFor_18 (by decide) (fun c9 => ?_) (fun c9 => ?_)
    · have hf := ifF c9 hf
      refine lv_aload_n (pc := 23) hx hb dX4_reasonFor_23 rfl (lv_at hl 2 rfl) ?_
      refine g_get (pc := 24) (v := .ref (q k0 1)) C h.1 13 (reW_c13 ..) fl_X4_118 rfl dX4_reasonFor_24 ?_
      refine lv_iload_n (pc := 27) hx hb dX4_reasonFor_27 rfl (lv_at hl 3 rfl) ?_
      refine call_rgetR (pc := 28) (rest := []) C h (by decide) (by decide) (reW_c14 ..) (reW_c19 ..) cw_X4_121 hl.1 (Nat.le_of_ble_eq_true rfl) dX4_reasonFor_28 ⟨Nat.le_of_ble_eq_true rfl, Nat.le_of_ble_eq_true rfl⟩ rfl rfl ⟨Nat.le_of_ble_eq_true rfl, Nat.le_of_ble_eq_true rfl⟩ (fun H locs h => ?_)
      refine lv_istore (pc := 31) (lv' := [(4, .int (rg 8 (τ 0) x3)), (0, .ref (q0 0)), (1, .int x1), (2, .ref (q k0 0)), (3, .int x3)]) hx hb dX4_reasonFor_31 hl (by decide) rfl (fun ls hl => ?_)
      refine lv_iload (pc := 33) hx hb dX4_reasonFor_33 (lv_at hl 0 rfl) ?_
      refine lv_iload_n (pc := 35) hx hb dX4_reasonFor_35 rfl (lv_at hl 2 rfl) ?_
      refine lv_icmp_ne (pc := 36) (tgt := 41) hx hb dX4_reasonFor_36 (by decide) (fun c9 => ?_) (fun c9 => ?_)
      · have hf := ifF c9 hf
        refine lv_aload_n (pc := 41) hx hb dX4_reasonFor_41 rfl (lv_at hl 1 rfl) ?_
        refine lv_iload (pc := 42) hx hb dX4_reasonFor_42 (lv_at hl 0 rfl) ?_
        obtain ⟨z1, hc1, hf⟩ := xnS hf
        refine call_VRR (pc := 44) (As := [.int (rg 8 (τ 0) x3)]) (rest := []) C h (k_X4_standinOf (n := n) (q0 := q0) (q := q) σ0 (rg 8 (τ 0) x3) hc1) cw_X4_124 0 (reW_c0 ..) rfl (List.range 13) (reW_f ..) (by decide) rfl rfl hl.1 (Nat.le_of_ble_eq_true rfl) dX4_reasonFor_44 ⟨Nat.le_of_ble_eq_true rfl, Nat.le_of_ble_eq_true rfl⟩ rfl rfl ⟨Nat.le_of_ble_eq_true rfl, Nat.le_of_ble_eq_true rfl⟩ (fun H locs h => ?_)
        refine W.eq (g2 := F0 m 47 ls [.ref (q0 (5 + z1))]) rfl ?_
        have hp1 : z1 < 8 := stAt_lt hc1
        refine lv_astore (pc := 47) (lv' := [(5, .ref (q0 (5 + z1))), (4, .int (rg 8 (τ 0) x3)), (0, .ref (q0 0)), (1, .int x1), (2, .ref (q k0 0)), (3, .int x3)]) hx hb dX4_reasonFor_47 hl (by decide) rfl (fun ls hl => ?_)
        refine lv_aload (pc := 49) hx hb dX4_reasonFor_49 (lv_at hl 0 rfl) ?_
        refine lv_aload_n (pc := 51) hx hb dX4_reasonFor_51 rfl (lv_at hl 2 rfl) ?_
        refine g_get (pc := 52) (v := .int (σ0 1 0)) C h.1 0 (reW_c0 ..) fl_X4_98 rfl dX4_reasonFor_52 ?_
        refine call_VRR (pc := 55) (As := [.int (σ0 1 0)]) (rest := []) C h (k_X3_otherOn (q := fun i => q0 (5 + z1)) (ds σ0 z1) (σ0 1 0) rfl) cw_X4_162 (5 + z1) (reW_cs hp1 ..) rfl [5 + z1] (reW_ds hp1 ..) (by simp [va_nd]) rfl rfl hl.1 (Nat.le_of_ble_eq_true rfl) dX4_reasonFor_55 ⟨Nat.le_of_ble_eq_true rfl, Nat.le_of_ble_eq_true rfl⟩ rfl rfl ⟨Nat.le_of_ble_eq_true rfl, Nat.le_of_ble_eq_true rfl⟩ (fun H locs h => ?_)
        refine W.eq (g2 := F0 m 58 ls [.int (f_X3_otherOn (ds σ0 z1) (σ0 1 0))]) rfl ?_
        refine lv_iload_n (pc := 58) hx hb dX4_reasonFor_58 rfl (lv_at hl 3 rfl) ?_
        refine lv_icmp_eq (pc := 59) (tgt := 64) hx hb dX4_reasonFor_59 (by decide) (fun c9 => ?_) (fun c9 => ?_)
        · have hf := ifT c9 hf
          refine lv_aload (pc := 64) hx hb dX4_reasonFor_64 (lv_at hl 0 rfl) ?_
          refine g_get (pc := 66) (v := .int (σ0 (3 + z1) 4)) C h.1 (5 + z1) (reW_cs hp1 ..) fl_X4_128 rfl dX4_reasonFor_66 ?_
          refine lv_aload (pc := 69) hx hb dX4_reasonFor_69 (lv_at hl 0 rfl) ?_
          refine g_get (pc := 71) (v := .int (σ0 (3 + z1) 3)) C h.1 (5 + z1) (reW_cs hp1 ..) fl_X4_157 rfl dX4_reasonFor_71 ?_
          refine lv_icmp_lt (pc := 74) (tgt := 81) hx hb dX4_reasonFor_74 (by decide) (fun c9 => ?_) (fun c9 => ?_)
          · have hf := ifT c9 hf
            refine lv_iconst (pc := 81) (v := 1) hx hb dX4_reasonFor_81 (by decide) ?_
            have hf : (some (1 : Int32)) = some z := hf
            cases hf
            exact ret_iR (pc := 82) C hr h dX4_reasonFor_82
          · have hf := ifF c9 hf
            refine lv_iconst (pc := 77) (v := 5) hx hb dX4_reasonFor_77 (by decide) ?_
            refine lv_goto (pc := 78) (tgt := 82) hx hb dX4_reasonFor_78 (by decide) ?_
            have hf : (some (5 : Int32)) = some z := hf
            cases hf
            exact ret_iR (pc := 82) C hr h dX4_reasonFor_82
        · have hf := ifF c9 hf
          refine lv_iconst (pc := 62) (v := 4) hx hb dX4_reasonFor_62 (by decide) ?_
          have hf : (some (4 : Int32)) = some z := hf
          cases hf
          exact ret_iR (pc := 63) C hr h dX4_reasonFor_63
      · have hf := ifT c9 hf
        refine lv_iconst (pc := 39) (v := 0) hx hb dX4_reasonFor_39 (by decide) ?_
        have hf : (some (0 : Int32)) = some z := hf
        cases hf
        exact ret_iR (pc := 40) C hr h dX4_reasonFor_40
    · have hf := ifT c9 hf
      refine lv_iconst (pc := 21) (v := 3) hx hb dX4_reasonFor_21 (by decide) ?_
      have hf : (some (3 : Int32)) = some z := hf
      cases hf
      exact ret_iR (pc := 22) C hr h dX4_reasonFor_22
  · have hf := ifF c9 hf
    refine lv_iconst (pc := 8) (v := 2) hx hb dX4_reasonFor_8 (by decide) ?_
    have hf : (some (2 : Int32)) = some z := hf
    cases hf
    exact ret_iR (pc := 9) C hr h dX4_reasonFor_9
abbrev rm_X4_addSlot : Room := { frames := 2, cells := 0, slots := 0, locals := 46 }
def f_X4_addSlot (n : Nat) (σ0 : (Nat → Nat → Int32)) (σ : (Nat → Nat → Nat → Int32)) (x1 x2 x3 : Int32) : Option (String ⊕ (Int32 × (Nat → Nat → Int32) × (Nat → Nat → Nat → Int32))) := (xb (f_X4_envelopeAt n x1) fun z1 => (xb (f_X4_refuseNoPerson x2) fun z2 => (if x3 < 0 then (some (.inl "java/lang/IllegalArgumentException")) else (if x3 ≤ (f_X0_allSlots (σ z1)) then (xb (f_X4_refuseNoDraft (σ z1)) fun z3 => (if ((σ z1) 10 0) < (8 : Int32) then ((f_X0_append (σ z1) x2 x3).bind fun z4 => (lt z4 fun t5 => (some (.inr (((t5 10 0) - (1 : Int32)), (σ0, va_up σ z1 t5)))))) else (some (.inl "java/lang/IllegalStateException")))) else (some (.inl "java/lang/IllegalArgumentException"))))))
set_option maxHeartbeats 400000 in
set_option maxRecDepth 100000 in
theorem k_X4_addSlot {n : Nat} (hn : n ≤ 6) {q0 : Nat → Nat} {q : Nat → Nat → Nat} {cA : Nat → ClassId} {D : va_G} (σ0 : (Nat → Nat → Int32)) (σ : (Nat → Nat → Nat → Int32)) (x1 x2 x3 : Int32) {z : Int32 × (Nat → Nat → Int32) × (Nat → Nat → Nat → Int32)} (hf : f_X4_addSlot n σ0 σ x1 x2 x3 = some (.inr z)) : CtU yX4_addSlot cX4_addSlot 5 (some .int) rm_X4_addSlot [.ref (q0 0), .int x1, .int x2, .int x3] D cA (sW n q0 q cA σ0 σ) (sW n q0 q cA z.2.1 z.2.2) (some (.int z.1)) 0 0 := by
  refine ctU_of (by decide) (Nat.le_of_ble_eq_true rfl) ?_
  intro p l e s m below meth c ls C hr hnm h hl
  have C : Cx p s m _ meth c cX4_addSlot 5 RX4 D cA := C
  obtain ⟨hx, hb, hml, hown, hts, hK, hlk⟩ := id C
  replace hl : lv_has ls 5 [(0, .ref (q0 0)), (1, .int x1), (2, .int x2), (3, .int x3)] := hl
  rw [f_X4_addSlot] at hf
  refine lv_aload_n (pc := 0) hx hb dX4_addSlot_0 rfl (lv_at hl 0 rfl) ?_
  refine lv_iload_n (pc := 1) hx hb dX4_addSlot_1 rfl (lv_at hl 1 rfl) ?_
  obtain ⟨z1, hc1, hf⟩ := xbR hf
  refine call_VR (pc := 2) (As := [.int x1]) (rest := []) C h (k_X4_envelopeAt hn (q0 := q0) (q := q) σ0 x1 hc1) cw_X4_43 0 (sW_c0 ..) rfl (List.range 13) (sW_f ..) (by decide) rfl rfl hl.1 (Nat.le_of_ble_eq_true rfl) dX4_addSlot_2 ⟨Nat.le_of_ble_eq_true rfl, Nat.le_of_ble_eq_true rfl⟩ rfl rfl ⟨Nat.le_of_ble_eq_true rfl, Nat.le_of_ble_eq_true rfl⟩ (fun H locs h => ?_)
  refine W.eq (g2 := F0 m 5 ls [.ref (q z1 0)]) rfl ?_
  have hk1 : z1 < n := envAt_lt hn hc1
  have h := St_perm (foc_perm hk1 q0 q cA σ0 σ) h
  refine lv_astore (pc := 5) (lv' := [(4, .ref (q z1 0)), (0, .ref (q0 0)), (1, .int x1), (2, .int x2), (3, .int x3)]) hx hb dX4_addSlot_5 hl (by decide) rfl (fun ls hl => ?_)
  refine lv_iload_n (pc := 7) hx hb dX4_addSlot_7 rfl (lv_at hl 3 rfl) ?_
  obtain ⟨z2, hc2, hf⟩ := xbR hf
  refine call_SR (pc := 8) (As := [.int x2]) (rest := []) C h (k_X4_refuseNoPerson x2 hc2) cw_X4_47 [] rfl (by decide) rfl rfl hl.1 (Nat.le_of_ble_eq_true rfl) dX4_addSlot_8 ⟨Nat.le_of_ble_eq_true rfl, Nat.le_of_ble_eq_true rfl⟩ rfl rfl ⟨Nat.le_of_ble_eq_true rfl, Nat.le_of_ble_eq_true rfl⟩ (fun H locs h => ?_)
  refine W.eq (g2 := F0 m 11 ls []) rfl ?_
  refine lv_iload_n (pc := 11) hx hb dX4_addSlot_11 rfl (lv_at hl 4 rfl) ?_
  refine lv_if_lt (pc := 12) (tgt := 24) hx hb dX4_addSlot_12 (by decide) (fun c9 => ?_) (fun c9 => ?_)
  · have hf := ifT c9 hf
    cases hf
  · have hf := ifF c9 hf
    refine lv_iload_n (pc := 15) hx hb dX4_addSlot_15 rfl (lv_at hl 4 rfl) ?_
    refine lv_aload (pc := 16) hx hb dX4_addSlot_16 (lv_at hl 0 rfl) ?_
    refine call_VR (pc := 18) (As := []) (rest := [.int x3]) C h (k_X0_allSlots (q := q z1) (σ z1) rfl) cw_X4_50 13 (fkW_c13 ..) rfl [13, 14, 15, 16, 17, 18, 19, 20, 21, 22, 23, 24, 25, 26, 27, 28, 29, 30, 31, 32] (fkW_e ..) (by decide) rfl rfl hl.1 (Nat.le_of_ble_eq_true rfl) dX4_addSlot_18 ⟨Nat.le_of_ble_eq_true rfl, Nat.le_of_ble_eq_true rfl⟩ rfl rfl ⟨Nat.le_of_ble_eq_true rfl, Nat.le_of_ble_eq_true rfl⟩ (fun H locs h => ?_)
    refine W.eq (g2 := F0 m 21 ls [.int (f_X0_allSlots (σ z1)), .int x3]) rfl ?_
    refine lv_icmp_le (pc := 21) (tgt := 34) hx hb dX4_addSlot_21 (by decide) (fun c9 => ?_) (fun c9 => ?_)
    · have hf := ifT c9 hf
      refine lv_aload (pc := 34) hx hb dX4_addSlot_34 (lv_at hl 0 rfl) ?_
      obtain ⟨z3, hc3, hf⟩ := xbR hf
      refine call_SR (pc := 36) (As := [.ref (q z1 0)]) (rest := []) C h (k_X4_refuseNoDraft (q := q z1) (σ z1) hc3) cw_X4_59 [13, 14, 15, 16, 17, 18, 19, 20, 21, 22, 23, 24, 25, 26, 27, 28, 29, 30, 31, 32] (fkW_e ..) (by decide) rfl rfl hl.1 (Nat.le_of_ble_eq_true rfl) dX4_addSlot_36 ⟨Nat.le_of_ble_eq_true rfl, Nat.le_of_ble_eq_true rfl⟩ rfl rfl ⟨Nat.le_of_ble_eq_true rfl, Nat.le_of_ble_eq_true rfl⟩ (fun H locs h => ?_)
      refine W.eq (g2 := F0 m 39 ls []) rfl ?_
      refine lv_aload (pc := 39) hx hb dX4_addSlot_39 (lv_at hl 0 rfl) ?_
      refine g_get (pc := 41) (v := .int ((σ z1) 10 0)) C h.1 13 (fkW_c13 ..) fl_X4_63 rfl dX4_addSlot_41 ?_
      refine lv_bipush (pc := 44) (v := 8) hx hb dX4_addSlot_44 (by decide) ?_
      refine lv_icmp_lt (pc := 46) (tgt := 59) hx hb dX4_addSlot_46 (by decide) (fun c9 => ?_) (fun c9 => ?_)
      · have hf := ifT c9 hf
        refine lv_aload (pc := 59) hx hb dX4_addSlot_59 (lv_at hl 0 rfl) ?_
        refine lv_iload_n (pc := 61) hx hb dX4_addSlot_61 rfl (lv_at hl 3 rfl) ?_
        refine lv_iload_n (pc := 62) hx hb dX4_addSlot_62 rfl (lv_at hl 4 rfl) ?_
        obtain ⟨z4, hc4, hf⟩ := bdS hf
        obtain ⟨t5, et5, hf⟩ := ltS hf
        refine call_VU (pc := 63) (As := [.int x2, .int x3]) (rest := []) (ws' := (fkW n z1 q0 q cA σ0 t5 σ)) C h (k_X0_append (q := q z1) (σ z1) x2 x3 hc4) cw_X4_68 13 (fkW_c13 ..) rfl [13, 14, 15, 16, 17, 18, 19, 20, 21, 22, 23, 24, 25, 26, 27, 28, 29, 30, 31, 32] (fkW_e ..) (by decide) (eW_fst _ _ _ _) ((fkW_ep ..).trans (congrArg (fun w => fkW n z1 q0 q cA σ0 w σ) et5.symm)) rfl rfl hl.1 (Nat.le_of_ble_eq_true rfl) dX4_addSlot_63 ⟨Nat.le_of_ble_eq_true rfl, Nat.le_of_ble_eq_true rfl⟩ rfl rfl ⟨Nat.le_of_ble_eq_true rfl, Nat.le_of_ble_eq_true rfl⟩ (fun H locs h => ?_)
        refine W.eq (g2 := F0 m 66 ls []) rfl ?_
        refine lv_aload (pc := 66) hx hb dX4_addSlot_66 (lv_at hl 0 rfl) ?_
        refine g_get (pc := 68) (v := .int (t5 10 0)) C h.1 13 (fkW_c13 ..) fl_X4_63 rfl dX4_addSlot_68 ?_
        refine lv_iconst (pc := 71) (v := 1) hx hb dX4_addSlot_71 (by decide) ?_
        refine lv_isub (pc := 72) hx hb dX4_addSlot_72 ?_
        cases hf
        have h := St_perm (unf_perm hk1 q0 q cA σ0 t5 σ) h
        exact ret_iU (pc := 73) C hr h dX4_addSlot_73
      · have hf := ifF c9 hf
        cases hf
    · have hf := ifF c9 hf
      cases hf
abbrev rmT_X4_addSlot : Room := { frames := 7, cells := 1, slots := 6, locals := 104 }
set_option maxHeartbeats 400000 in
set_option maxRecDepth 100000 in
theorem kT_X4_addSlot {n : Nat} (hn : n ≤ 6) {q0 : Nat → Nat} {q : Nat → Nat → Nat} {cA : Nat → ClassId} {D : va_G} (σ0 : (Nat → Nat → Int32)) (σ : (Nat → Nat → Nat → Int32)) (x1 x2 x3 : Int32) {E : String} (hf : f_X4_addSlot n σ0 σ x1 x2 x3 = some (.inl E)) : CtT yX4_addSlot cX4_addSlot 5 (some .int) rmT_X4_addSlot [.ref (q0 0), .int x1, .int x2, .int x3] D cA (sW n q0 q cA σ0 σ) E := by
  refine ctT_of (by decide) (Nat.le_of_ble_eq_true rfl) ?_
  intro p l e s m below meth c ls hl0 C hex hX h hl
  have C : Cx p s m _ meth c cX4_addSlot 5 RX4 D cA := C
  obtain ⟨hx, hb, hml, hown, hts, hK, hlk⟩ := id C
  replace hl : lv_has ls 5 [(0, .ref (q0 0)), (1, .int x1), (2, .int x2), (3, .int x3)] := hl
  rw [f_X4_addSlot] at hf
  refine lv_aload_n (pc := 0) hx hb dX4_addSlot_0 rfl (lv_at hl 0 rfl) ?_
  refine lv_iload_n (pc := 1) hx hb dX4_addSlot_1 rfl (lv_at hl 1 rfl) ?_
  rcases xbT hf with hc0 | ⟨z1, hc1, hf⟩
  · exact call_TV (pc := 2) (As := [.int x1]) (rest := []) (Qc := QF) C hl0 hex hX h (kT_X4_envelopeAt hn (q0 := q0) (q := q) σ0 x1 hc0) cw_X4_43 0 (sW_c0 ..) rfl (List.range 13) (sW_f ..) (by decide) rfl rfl hl.1 (Nat.le_of_ble_eq_true rfl) dX4_addSlot_2 ⟨Nat.le_of_ble_eq_true rfl, Nat.le_of_ble_eq_true rfl⟩ rfl rfl ⟨Nat.le_of_ble_eq_true rfl, Nat.le_of_ble_eq_true rfl⟩
  · refine call_VRR (pc := 2) (As := [.int x1]) (rest := []) C h (k_X4_envelopeAt hn (q0 := q0) (q := q) σ0 x1 hc1) cw_X4_43 0 (sW_c0 ..) rfl (List.range 13) (sW_f ..) (by decide) rfl rfl hl.1 (Nat.le_of_ble_eq_true rfl) dX4_addSlot_2 ⟨Nat.le_of_ble_eq_true rfl, Nat.le_of_ble_eq_true rfl⟩ rfl rfl ⟨Nat.le_of_ble_eq_true rfl, Nat.le_of_ble_eq_true rfl⟩ (fun H locs h => ?_)
    refine W.eq (g2 := F0 m 5 ls [.ref (q z1 0)]) rfl ?_
    have hk1 : z1 < n := envAt_lt hn hc1
    have h := SR_perm (foc_perm hk1 q0 q cA σ0 σ) h
    refine lv_astore (pc := 5) (lv' := [(4, .ref (q z1 0)), (0, .ref (q0 0)), (1, .int x1), (2, .int x2), (3, .int x3)]) hx hb dX4_addSlot_5 hl (by decide) rfl (fun ls hl => ?_)
    refine lv_iload_n (pc := 7) hx hb dX4_addSlot_7 rfl (lv_at hl 3 rfl) ?_
    rcases xbT hf with hc0 | ⟨z2, hc2, hf⟩
    · exact call_TS (pc := 8) (As := [.int x2]) (rest := []) (Qc := QF) C hl0 hex hX h (kT_X4_refuseNoPerson x2 hc0) cw_X4_47 [] rfl (by decide) rfl rfl hl.1 (Nat.le_of_ble_eq_true rfl) dX4_addSlot_8 ⟨Nat.le_of_ble_eq_true rfl, Nat.le_of_ble_eq_true rfl⟩ rfl rfl ⟨Nat.le_of_ble_eq_true rfl, Nat.le_of_ble_eq_true rfl⟩
    · refine call_SRR (pc := 8) (As := [.int x2]) (rest := []) C h (k_X4_refuseNoPerson x2 hc2) cw_X4_47 [] rfl (by decide) rfl rfl hl.1 (Nat.le_of_ble_eq_true rfl) dX4_addSlot_8 ⟨Nat.le_of_ble_eq_true rfl, Nat.le_of_ble_eq_true rfl⟩ rfl rfl ⟨Nat.le_of_ble_eq_true rfl, Nat.le_of_ble_eq_true rfl⟩ (fun H locs h => ?_)
      refine W.eq (g2 := F0 m 11 ls []) rfl ?_
      refine lv_iload_n (pc := 11) hx hb dX4_addSlot_11 rfl (lv_at hl 4 rfl) ?_
      refine lv_if_lt (pc := 12) (tgt := 24) hx hb dX4_addSlot_12 (by decide) (fun c9 => ?_) (fun c9 => ?_)
      · have hf := ifT c9 hf
        cases hf
        exact g_throw (pc := 24) (rest := []) C hl0 hex hX h tw_IllegalArgumentException (is := 56) (text := "before has a slot that the envelope does not have") (by decide +kernel) hl.1 dX4_addSlot_24 dX4_addSlot_27 dX4_addSlot_28 dX4_addSlot_30 dX4_addSlot_33 (Nat.le_of_ble_eq_true rfl) (Nat.le_of_ble_eq_true rfl) (Nat.le_of_ble_eq_true rfl) (Nat.le_of_ble_eq_true rfl) (Nat.le_of_ble_eq_true rfl) (Nat.le_of_ble_eq_true rfl)
      · have hf := ifF c9 hf
        refine lv_iload_n (pc := 15) hx hb dX4_addSlot_15 rfl (lv_at hl 4 rfl) ?_
        refine lv_aload (pc := 16) hx hb dX4_addSlot_16 (lv_at hl 0 rfl) ?_
        refine call_VRR (pc := 18) (As := []) (rest := [.int x3]) C h (k_X0_allSlots (q := q z1) (σ z1) rfl) cw_X4_50 13 (fkW_c13 ..) rfl [13, 14, 15, 16, 17, 18, 19, 20, 21, 22, 23, 24, 25, 26, 27, 28, 29, 30, 31, 32] (fkW_e ..) (by decide) rfl rfl hl.1 (Nat.le_of_ble_eq_true rfl) dX4_addSlot_18 ⟨Nat.le_of_ble_eq_true rfl, Nat.le_of_ble_eq_true rfl⟩ rfl rfl ⟨Nat.le_of_ble_eq_true rfl, Nat.le_of_ble_eq_true rfl⟩ (fun H locs h => ?_)
        refine W.eq (g2 := F0 m 21 ls [.int (f_X0_allSlots (σ z1)), .int x3]) rfl ?_
        refine lv_icmp_le (pc := 21) (tgt := 34) hx hb dX4_addSlot_21 (by decide) (fun c9 => ?_) (fun c9 => ?_)
        · have hf := ifT c9 hf
          refine lv_aload (pc := 34) hx hb dX4_addSlot_34 (lv_at hl 0 rfl) ?_
          rcases xbT hf with hc0 | ⟨z3, hc3, hf⟩
          · exact call_TS (pc := 36) (As := [.ref (q z1 0)]) (rest := []) (Qc := QF) C hl0 hex hX h (kT_X4_refuseNoDraft (q := q z1) (σ z1) hc0) cw_X4_59 [13, 14, 15, 16, 17, 18, 19, 20, 21, 22, 23, 24, 25, 26, 27, 28, 29, 30, 31, 32] (fkW_e ..) (by decide) rfl rfl hl.1 (Nat.le_of_ble_eq_true rfl) dX4_addSlot_36 ⟨Nat.le_of_ble_eq_true rfl, Nat.le_of_ble_eq_true rfl⟩ rfl rfl ⟨Nat.le_of_ble_eq_true rfl, Nat.le_of_ble_eq_true rfl⟩
          · refine call_SRR (pc := 36) (As := [.ref (q z1 0)]) (rest := []) C h (k_X4_refuseNoDraft (q := q z1) (σ z1) hc3) cw_X4_59 [13, 14, 15, 16, 17, 18, 19, 20, 21, 22, 23, 24, 25, 26, 27, 28, 29, 30, 31, 32] (fkW_e ..) (by decide) rfl rfl hl.1 (Nat.le_of_ble_eq_true rfl) dX4_addSlot_36 ⟨Nat.le_of_ble_eq_true rfl, Nat.le_of_ble_eq_true rfl⟩ rfl rfl ⟨Nat.le_of_ble_eq_true rfl, Nat.le_of_ble_eq_true rfl⟩ (fun H locs h => ?_)
            refine W.eq (g2 := F0 m 39 ls []) rfl ?_
            refine lv_aload (pc := 39) hx hb dX4_addSlot_39 (lv_at hl 0 rfl) ?_
            refine g_get (pc := 41) (v := .int ((σ z1) 10 0)) C h.1 13 (fkW_c13 ..) fl_X4_63 rfl dX4_addSlot_41 ?_
            refine lv_bipush (pc := 44) (v := 8) hx hb dX4_addSlot_44 (by decide) ?_
            refine lv_icmp_lt (pc := 46) (tgt := 59) hx hb dX4_addSlot_46 (by decide) (fun c9 => ?_) (fun c9 => ?_)
            · have hf := ifT c9 hf
              refine lv_aload (pc := 59) hx hb dX4_addSlot_59 (lv_at hl 0 rfl) ?_
              refine lv_iload_n (pc := 61) hx hb dX4_addSlot_61 rfl (lv_at hl 3 rfl) ?_
              refine lv_iload_n (pc := 62) hx hb dX4_addSlot_62 rfl (lv_at hl 4 rfl) ?_
              obtain ⟨z4, hc4, hf⟩ := bdS hf
              obtain ⟨t5, _, hf⟩ := ltS hf
              cases hf
            · have hf := ifF c9 hf
              cases hf
              exact g_throw (pc := 49) (rest := []) C hl0 hex hX h tw_IllegalStateException (is := 66) (text := "the envelope has 8 slots") (by decide +kernel) hl.1 dX4_addSlot_49 dX4_addSlot_52 dX4_addSlot_53 dX4_addSlot_55 dX4_addSlot_58 (Nat.le_of_ble_eq_true rfl) (Nat.le_of_ble_eq_true rfl) (Nat.le_of_ble_eq_true rfl) (Nat.le_of_ble_eq_true rfl) (Nat.le_of_ble_eq_true rfl) (Nat.le_of_ble_eq_true rfl)
        · have hf := ifF c9 hf
          cases hf
          exact g_throw (pc := 24) (rest := []) C hl0 hex hX h tw_IllegalArgumentException (is := 56) (text := "before has a slot that the envelope does not have") (by decide +kernel) hl.1 dX4_addSlot_24 dX4_addSlot_27 dX4_addSlot_28 dX4_addSlot_30 dX4_addSlot_33 (Nat.le_of_ble_eq_true rfl) (Nat.le_of_ble_eq_true rfl) (Nat.le_of_ble_eq_true rfl) (Nat.le_of_ble_eq_true rfl) (Nat.le_of_ble_eq_true rfl) (Nat.le_of_ble_eq_true rfl)
abbrev rm_X4_addRound : Room := { frames := 2, cells := 0, slots := 0, locals := 46 }
def f_X4_addRound_65 : Nat → Nat → (Nat → Nat → Int32) → (Nat → Nat → Nat → Int32) → Nat → (Nat → Nat → Int32) → Int32 → Int32 → Int32 → Int32 → Option ((Nat → Nat → Int32) × (Nat → Nat → Int32) × Int32)
  | 0, _, _, _, _, _, _, _, _, _ => none
  | fu + 1, n, σ0, σ, k0, τ, x1, x2, x4, x5 => (if (8 : Int32) ≤ x5 then some (σ0, τ, x5) else (if (f_X4_has x2 x5) = 0 then (f_X4_addRound_65 fu n σ0 σ k0 τ x1 x2 x4 (x5 + (1 : Int32))) else ((f_X0_append τ x5 x4).bind fun z3 => (lt z3 fun t4 => (f_X4_addRound_65 fu n σ0 σ k0 t4 x1 x2 x4 (x5 + (1 : Int32)))))))
def f_X4_addRound (n : Nat) (σ0 : (Nat → Nat → Int32)) (σ : (Nat → Nat → Nat → Int32)) (x1 x2 : Int32) : Option (String ⊕ (Int32 × (Nat → Nat → Int32) × (Nat → Nat → Nat → Int32))) := (xb (f_X4_envelopeAt n x1) fun z1 => (if x2 < (1 : Int32) then (some (.inl "java/lang/IllegalArgumentException")) else (if x2 < (256 : Int32) then (xb (f_X4_refuseNoDraft (σ z1)) fun z2 => (if (((σ z1) 10 0) + (f_J6_bitCount_0f7a4 x2)) ≤ (8 : Int32) then ((f_X4_addRound_65 FU n σ0 σ z1 (σ z1) x1 x2 (f_X0_allSlots (σ z1)) (0 : Int32)).bind fun z3 => (some (.inr ((z3.2.1 10 0), (z3.1, va_up σ z1 z3.2.1))))) else (some (.inl "java/lang/IllegalStateException")))) else (some (.inl "java/lang/IllegalArgumentException")))))
set_option maxHeartbeats 400000 in
set_option maxRecDepth 100000 in
theorem l_X4_addRound_65 (hn : n ≤ 6) (C : Cx p s m args meth c cX4_addRound 6 RX4 D cA) : ∀ (fu : Nat) (σ0 : (Nat → Nat → Int32)) (σ : (Nat → Nat → Nat → Int32)) (k0 : Nat) (τ : (Nat → Nat → Int32)) (x1 x2 x4 x5 : Int32) (z : (Nat → Nat → Int32) × (Nat → Nat → Int32) × Int32), f_X4_addRound_65 fu n σ0 σ k0 τ x1 x2 x4 x5 = some z → k0 < n → ∀ (H : Heap) (locs : List Loc) (ls : Array Slot), St D A s.heap (fkW n k0 q0 q cA σ0 τ σ) H locs → lv_has ls 6 [(0, .ref (q0 0)), (1, .int x1), (2, .int x2), (3, .ref (q k0 0)), (4, .int x4), (5, .int x5)] → (∀ (H : Heap) (locs : List Loc) (ls : Array Slot), St D A s.heap (fkW n k0 q0 q cA z.1 z.2.1 σ) H locs → lv_has ls 6 [(0, .ref (q0 0)), (1, .int x1), (2, .int x2), (3, .ref (q k0 0)), (4, .int x4), (5, .int z.2.2)] → W p l e rm_X4_addRound s m args below meth c H locs 0 0 Q (F0 m 95 ls [])) → W p l e rm_X4_addRound s m args below meth c H locs 0 0 Q (F0 m 65 ls []) := by
  obtain ⟨hx, hb, hml, hown, hts, hK, hlk⟩ := id C
  intro fu
  induction fu with
  | zero => intro σ0 σ k0 τ x1 x2 x4 x5 z hf; rw [f_X4_addRound_65] at hf; cases hf
  | succ fu ih =>
    intro σ0 σ k0 τ x1 x2 x4 x5 z hf hk0 H locs ls h hl kk
    rw [f_X4_addRound_65] at hf
    refine lv_iload (pc := 65) hx hb dX4_addRound_65 (lv_at hl 5 rfl) ?_
    refine lv_bipush (pc := 67) (v := 8) hx hb dX4_addRound_67 (by decide) ?_
    refine lv_icmp_ge (pc := 69) (tgt := 95) hx hb dX4_addRound_69 (by decide) (fun c9 => ?_) (fun c9 => ?_)
    · have hf := ifT c9 hf
      have hf : some (σ0, τ, x5) = some z := hf
      cases hf
      exact kk _ _ _ h (lv_sub hl [0, 1, 2, 3, 4, 5] rfl)
    · have hf := ifF c9 hf
      refine lv_iload_n (pc := 72) hx hb dX4_addRound_72 rfl (lv_at hl 2 rfl) ?_
      refine lv_iload (pc := 73) hx hb dX4_addRound_73 (lv_at hl 5 rfl) ?_
      refine call_SR (pc := 75) (As := [.int x2, .int x5]) (rest := []) C h (k_X4_has x2 x5 rfl) cw_X4_82 [] rfl (by decide) rfl rfl hl.1 (Nat.le_of_ble_eq_true rfl) dX4_addRound_75 ⟨Nat.le_of_ble_eq_true rfl, Nat.le_of_ble_eq_true rfl⟩ rfl rfl ⟨Nat.le_of_ble_eq_true rfl, Nat.le_of_ble_eq_true rfl⟩ (fun H locs h => ?_)
      refine W.eq (g2 := F0 m 78 ls [.int (f_X4_has x2 x5)]) rfl ?_
      refine lv_if_eq (pc := 78) (tgt := 89) hx hb dX4_addRound_78 (by decide) (fun c9 => ?_) (fun c9 => ?_)
      · have hf := ifT c9 hf
        refine lv_iinc (pc := 89) (v := (x5 + (1 : Int32))) (lv' := [(5, .int (x5 + (1 : Int32))), (0, .ref (q0 0)), (1, .int x1), (2, .int x2), (3, .ref (q k0 0)), (4, .int x4)]) hx hb dX4_addRound_89 hl (k := 5) rfl rfl (by decide) rfl (fun ls hl => ?_)
        refine lv_goto (pc := 92) (tgt := 65) hx hb dX4_addRound_92 (by decide) ?_
        exact ih _ _ _ _ _ _ _ _ _ hf hk0 _ _ _ h (lv_sub hl [1, 2, 3, 4, 5, 0] rfl) kk
      · have hf := ifF c9 hf
        refine lv_aload_n (pc := 81) hx hb dX4_addRound_81 rfl (lv_at hl 3 rfl) ?_
        refine lv_iload (pc := 82) hx hb dX4_addRound_82 (lv_at hl 5 rfl) ?_
        refine lv_iload (pc := 84) hx hb dX4_addRound_84 (lv_at hl 4 rfl) ?_
        obtain ⟨z3, hc3, hf⟩ := bdS hf
        obtain ⟨t4, et4, hf⟩ := ltS hf
        refine call_VU (pc := 86) (As := [.int x5, .int x4]) (rest := []) (ws' := (fkW n k0 q0 q cA σ0 t4 σ)) C h (k_X0_append (q := q k0) τ x5 x4 hc3) cw_X4_68 13 (fkW_c13 ..) rfl [13, 14, 15, 16, 17, 18, 19, 20, 21, 22, 23, 24, 25, 26, 27, 28, 29, 30, 31, 32] (fkW_e ..) (by decide) (eW_fst _ _ _ _) ((fkW_ep ..).trans (congrArg (fun w => fkW n k0 q0 q cA σ0 w σ) et4.symm)) rfl rfl hl.1 (Nat.le_of_ble_eq_true rfl) dX4_addRound_86 ⟨Nat.le_of_ble_eq_true rfl, Nat.le_of_ble_eq_true rfl⟩ rfl rfl ⟨Nat.le_of_ble_eq_true rfl, Nat.le_of_ble_eq_true rfl⟩ (fun H locs h => ?_)
        refine W.eq (g2 := F0 m 89 ls []) rfl ?_
        refine lv_iinc (pc := 89) (v := (x5 + (1 : Int32))) (lv' := [(5, .int (x5 + (1 : Int32))), (0, .ref (q0 0)), (1, .int x1), (2, .int x2), (3, .ref (q k0 0)), (4, .int x4)]) hx hb dX4_addRound_89 hl (k := 5) rfl rfl (by decide) rfl (fun ls hl => ?_)
        refine lv_goto (pc := 92) (tgt := 65) hx hb dX4_addRound_92 (by decide) ?_
        exact ih _ _ _ _ _ _ _ _ _ hf hk0 _ _ _ h (lv_sub hl [1, 2, 3, 4, 5, 0] rfl) kk
set_option maxHeartbeats 400000 in
set_option maxRecDepth 100000 in
theorem k_X4_addRound {n : Nat} (hn : n ≤ 6) {q0 : Nat → Nat} {q : Nat → Nat → Nat} {cA : Nat → ClassId} {D : va_G} (σ0 : (Nat → Nat → Int32)) (σ : (Nat → Nat → Nat → Int32)) (x1 x2 : Int32) {z : Int32 × (Nat → Nat → Int32) × (Nat → Nat → Nat → Int32)} (hf : f_X4_addRound n σ0 σ x1 x2 = some (.inr z)) : CtU yX4_addRound cX4_addRound 6 (some .int) rm_X4_addRound [.ref (q0 0), .int x1, .int x2] D cA (sW n q0 q cA σ0 σ) (sW n q0 q cA z.2.1 z.2.2) (some (.int z.1)) 0 0 := by
  refine ctU_of (by decide) (Nat.le_of_ble_eq_true rfl) ?_
  intro p l e s m below meth c ls C hr hnm h hl
  have C : Cx p s m _ meth c cX4_addRound 6 RX4 D cA := C
  obtain ⟨hx, hb, hml, hown, hts, hK, hlk⟩ := id C
  replace hl : lv_has ls 6 [(0, .ref (q0 0)), (1, .int x1), (2, .int x2)] := hl
  rw [f_X4_addRound] at hf
  refine lv_aload_n (pc := 0) hx hb dX4_addRound_0 rfl (lv_at hl 0 rfl) ?_
  refine lv_iload_n (pc := 1) hx hb dX4_addRound_1 rfl (lv_at hl 1 rfl) ?_
  obtain ⟨z1, hc1, hf⟩ := xbR hf
  refine call_VR (pc := 2) (As := [.int x1]) (rest := []) C h (k_X4_envelopeAt hn (q0 := q0) (q := q) σ0 x1 hc1) cw_X4_43 0 (sW_c0 ..) rfl (List.range 13) (sW_f ..) (by decide) rfl rfl hl.1 (Nat.le_of_ble_eq_true rfl) dX4_addRound_2 ⟨Nat.le_of_ble_eq_true rfl, Nat.le_of_ble_eq_true rfl⟩ rfl rfl ⟨Nat.le_of_ble_eq_true rfl, Nat.le_of_ble_eq_true rfl⟩ (fun H locs h => ?_)
  refine W.eq (g2 := F0 m 5 ls [.ref (q z1 0)]) rfl ?_
  have hk1 : z1 < n := envAt_lt hn hc1
  have h := St_perm (foc_perm hk1 q0 q cA σ0 σ) h
  refine lv_astore_n (pc := 5) (lv' := [(3, .ref (q z1 0)), (0, .ref (q0 0)), (1, .int x1), (2, .int x2)]) hx hb dX4_addRound_5 rfl hl (by decide) rfl (fun ls hl => ?_)
  refine lv_iload_n (pc := 6) hx hb dX4_addRound_6 rfl (lv_at hl 3 rfl) ?_
  refine lv_iconst (pc := 7) (v := 1) hx hb dX4_addRound_7 (by decide) ?_
  refine lv_icmp_lt (pc := 8) (tgt := 18) hx hb dX4_addRound_8 (by decide) (fun c9 => ?_) (fun c9 => ?_)
  · have hf := ifT c9 hf
    cases hf
  · have hf := ifF c9 hf
    refine lv_iload_n (pc := 11) hx hb dX4_addRound_11 rfl (lv_at hl 3 rfl) ?_
    refine lv_sipush (pc := 12) (v := 256) hx hb dX4_addRound_12 (by decide) ?_
    refine lv_icmp_lt (pc := 15) (tgt := 28) hx hb dX4_addRound_15 (by decide) (fun c9 => ?_) (fun c9 => ?_)
    · have hf := ifT c9 hf
      refine lv_aload_n (pc := 28) hx hb dX4_addRound_28 rfl (lv_at hl 0 rfl) ?_
      obtain ⟨z2, hc2, hf⟩ := xbR hf
      refine call_SR (pc := 29) (As := [.ref (q z1 0)]) (rest := []) C h (k_X4_refuseNoDraft (q := q z1) (σ z1) hc2) cw_X4_59 [13, 14, 15, 16, 17, 18, 19, 20, 21, 22, 23, 24, 25, 26, 27, 28, 29, 30, 31, 32] (fkW_e ..) (by decide) rfl rfl hl.1 (Nat.le_of_ble_eq_true rfl) dX4_addRound_29 ⟨Nat.le_of_ble_eq_true rfl, Nat.le_of_ble_eq_true rfl⟩ rfl rfl ⟨Nat.le_of_ble_eq_true rfl, Nat.le_of_ble_eq_true rfl⟩ (fun H locs h => ?_)
      refine W.eq (g2 := F0 m 32 ls []) rfl ?_
      refine lv_aload_n (pc := 32) hx hb dX4_addRound_32 rfl (lv_at hl 0 rfl) ?_
      refine g_get (pc := 33) (v := .int ((σ z1) 10 0)) C h.1 13 (fkW_c13 ..) fl_X4_63 rfl dX4_addRound_33 ?_
      refine lv_iload_n (pc := 36) hx hb dX4_addRound_36 rfl (lv_at hl 3 rfl) ?_
      refine call_SR (pc := 37) (As := [.int x2]) (rest := [.int ((σ z1) 10 0)]) C h (k_J6_bitCount_0f7a4 x2 rfl) cw_X4_74 [] rfl (by decide) rfl rfl hl.1 (Nat.le_of_ble_eq_true rfl) dX4_addRound_37 ⟨Nat.le_of_ble_eq_true rfl, Nat.le_of_ble_eq_true rfl⟩ rfl rfl ⟨Nat.le_of_ble_eq_true rfl, Nat.le_of_ble_eq_true rfl⟩ (fun H locs h => ?_)
      refine W.eq (g2 := F0 m 40 ls [.int (f_J6_bitCount_0f7a4 x2), .int ((σ z1) 10 0)]) rfl ?_
      refine lv_iadd (pc := 40) hx hb dX4_addRound_40 ?_
      refine lv_bipush (pc := 41) (v := 8) hx hb dX4_addRound_41 (by decide) ?_
      refine lv_icmp_le (pc := 43) (tgt := 56) hx hb dX4_addRound_43 (by decide) (fun c9 => ?_) (fun c9 => ?_)
      · have hf := ifT c9 hf
        refine lv_aload_n (pc := 56) hx hb dX4_addRound_56 rfl (lv_at hl 0 rfl) ?_
        refine call_VR (pc := 57) (As := []) (rest := []) C h (k_X0_allSlots (q := q z1) (σ z1) rfl) cw_X4_50 13 (fkW_c13 ..) rfl [13, 14, 15, 16, 17, 18, 19, 20, 21, 22, 23, 24, 25, 26, 27, 28, 29, 30, 31, 32] (fkW_e ..) (by decide) rfl rfl hl.1 (Nat.le_of_ble_eq_true rfl) dX4_addRound_57 ⟨Nat.le_of_ble_eq_true rfl, Nat.le_of_ble_eq_true rfl⟩ rfl rfl ⟨Nat.le_of_ble_eq_true rfl, Nat.le_of_ble_eq_true rfl⟩ (fun H locs h => ?_)
        refine W.eq (g2 := F0 m 60 ls [.int (f_X0_allSlots (σ z1))]) rfl ?_
        refine lv_istore (pc := 60) (lv' := [(4, .int (f_X0_allSlots (σ z1))), (3, .ref (q z1 0)), (0, .ref (q0 0)), (1, .int x1), (2, .int x2)]) hx hb dX4_addRound_60 hl (by decide) rfl (fun ls hl => ?_)
        refine lv_iconst (pc := 62) (v := 0) hx hb dX4_addRound_62 (by decide) ?_
        refine lv_istore (pc := 63) (lv' := [(5, .int (0 : Int32)), (4, .int (f_X0_allSlots (σ z1))), (3, .ref (q z1 0)), (0, .ref (q0 0)), (1, .int x1), (2, .int x2)]) hx hb dX4_addRound_63 hl (by decide) rfl (fun ls hl => ?_)
        obtain ⟨z3, hc3, hf⟩ := bdS hf
        refine l_X4_addRound_65 hn C _ _ _ _ _ _ _ _ _ _ hc3 hk1 _ _ _ h (lv_sub hl [3, 4, 5, 2, 1, 0] rfl) (fun H locs ls h hl => ?_)
        refine lv_aload_n (pc := 95) hx hb dX4_addRound_95 rfl (lv_at hl 3 rfl) ?_
        refine g_get (pc := 96) (v := .int (z3.2.1 10 0)) C h.1 13 (fkW_c13 ..) fl_X4_63 rfl dX4_addRound_96 ?_
        cases hf
        have h := St_perm (unf_perm hk1 q0 q cA z3.1 z3.2.1 σ) h
        exact ret_iU (pc := 99) C hr h dX4_addRound_99
      · have hf := ifF c9 hf
        cases hf
    · have hf := ifF c9 hf
      cases hf
abbrev rmT_X4_addRound : Room := { frames := 7, cells := 1, slots := 6, locals := 104 }
set_option maxHeartbeats 400000 in
set_option maxRecDepth 100000 in
theorem kT_X4_addRound {n : Nat} (hn : n ≤ 6) {q0 : Nat → Nat} {q : Nat → Nat → Nat} {cA : Nat → ClassId} {D : va_G} (σ0 : (Nat → Nat → Int32)) (σ : (Nat → Nat → Nat → Int32)) (x1 x2 : Int32) {E : String} (hf : f_X4_addRound n σ0 σ x1 x2 = some (.inl E)) : CtT yX4_addRound cX4_addRound 6 (some .int) rmT_X4_addRound [.ref (q0 0), .int x1, .int x2] D cA (sW n q0 q cA σ0 σ) E := by
  refine ctT_of (by decide) (Nat.le_of_ble_eq_true rfl) ?_
  intro p l e s m below meth c ls hl0 C hex hX h hl
  have C : Cx p s m _ meth c cX4_addRound 6 RX4 D cA := C
  obtain ⟨hx, hb, hml, hown, hts, hK, hlk⟩ := id C
  replace hl : lv_has ls 6 [(0, .ref (q0 0)), (1, .int x1), (2, .int x2)] := hl
  rw [f_X4_addRound] at hf
  refine lv_aload_n (pc := 0) hx hb dX4_addRound_0 rfl (lv_at hl 0 rfl) ?_
  refine lv_iload_n (pc := 1) hx hb dX4_addRound_1 rfl (lv_at hl 1 rfl) ?_
  rcases xbT hf with hc0 | ⟨z1, hc1, hf⟩
  · exact call_TV (pc := 2) (As := [.int x1]) (rest := []) (Qc := QF) C hl0 hex hX h (kT_X4_envelopeAt hn (q0 := q0) (q := q) σ0 x1 hc0) cw_X4_43 0 (sW_c0 ..) rfl (List.range 13) (sW_f ..) (by decide) rfl rfl hl.1 (Nat.le_of_ble_eq_true rfl) dX4_addRound_2 ⟨Nat.le_of_ble_eq_true rfl, Nat.le_of_ble_eq_true rfl⟩ rfl rfl ⟨Nat.le_of_ble_eq_true rfl, Nat.le_of_ble_eq_true rfl⟩
  · refine call_VRR (pc := 2) (As := [.int x1]) (rest := []) C h (k_X4_envelopeAt hn (q0 := q0) (q := q) σ0 x1 hc1) cw_X4_43 0 (sW_c0 ..) rfl (List.range 13) (sW_f ..) (by decide) rfl rfl hl.1 (Nat.le_of_ble_eq_true rfl) dX4_addRound_2 ⟨Nat.le_of_ble_eq_true rfl, Nat.le_of_ble_eq_true rfl⟩ rfl rfl ⟨Nat.le_of_ble_eq_true rfl, Nat.le_of_ble_eq_true rfl⟩ (fun H locs h => ?_)
    refine W.eq (g2 := F0 m 5 ls [.ref (q z1 0)]) rfl ?_
    have hk1 : z1 < n := envAt_lt hn hc1
    have h := SR_perm (foc_perm hk1 q0 q cA σ0 σ) h
    refine lv_astore_n (pc := 5) (lv' := [(3, .ref (q z1 0)), (0, .ref (q0 0)), (1, .int x1), (2, .int x2)]) hx hb dX4_addRound_5 rfl hl (by decide) rfl (fun ls hl => ?_)
    refine lv_iload_n (pc := 6) hx hb dX4_addRound_6 rfl (lv_at hl 3 rfl) ?_
    refine lv_iconst (pc := 7) (v := 1) hx hb dX4_addRound_7 (by decide) ?_
    refine lv_icmp_lt (pc := 8) (tgt := 18) hx hb dX4_addRound_8 (by decide) (fun c9 => ?_) (fun c9 => ?_)
    · have hf := ifT c9 hf
      cases hf
      exact g_throw (pc := 18) (rest := []) C hl0 hex hX h tw_IllegalArgumentException (is := 72) (text := "people is not 1 to 255") (by decide +kernel) hl.1 dX4_addRound_18 dX4_addRound_21 dX4_addRound_22 dX4_addRound_24 dX4_addRound_27 (Nat.le_of_ble_eq_true rfl) (Nat.le_of_ble_eq_true rfl) (Nat.le_of_ble_eq_true rfl) (Nat.le_of_ble_eq_true rfl) (Nat.le_of_ble_eq_true rfl) (Nat.le_of_ble_eq_true rfl)
    · have hf := ifF c9 hf
      refine lv_iload_n (pc := 11) hx hb dX4_addRound_11 rfl (lv_at hl 3 rfl) ?_
      refine lv_sipush (pc := 12) (v := 256) hx hb dX4_addRound_12 (by decide) ?_
      refine lv_icmp_lt (pc := 15) (tgt := 28) hx hb dX4_addRound_15 (by decide) (fun c9 => ?_) (fun c9 => ?_)
      · have hf := ifT c9 hf
        refine lv_aload_n (pc := 28) hx hb dX4_addRound_28 rfl (lv_at hl 0 rfl) ?_
        rcases xbT hf with hc0 | ⟨z2, hc2, hf⟩
        · exact call_TS (pc := 29) (As := [.ref (q z1 0)]) (rest := []) (Qc := QF) C hl0 hex hX h (kT_X4_refuseNoDraft (q := q z1) (σ z1) hc0) cw_X4_59 [13, 14, 15, 16, 17, 18, 19, 20, 21, 22, 23, 24, 25, 26, 27, 28, 29, 30, 31, 32] (fkW_e ..) (by decide) rfl rfl hl.1 (Nat.le_of_ble_eq_true rfl) dX4_addRound_29 ⟨Nat.le_of_ble_eq_true rfl, Nat.le_of_ble_eq_true rfl⟩ rfl rfl ⟨Nat.le_of_ble_eq_true rfl, Nat.le_of_ble_eq_true rfl⟩
        · refine call_SRR (pc := 29) (As := [.ref (q z1 0)]) (rest := []) C h (k_X4_refuseNoDraft (q := q z1) (σ z1) hc2) cw_X4_59 [13, 14, 15, 16, 17, 18, 19, 20, 21, 22, 23, 24, 25, 26, 27, 28, 29, 30, 31, 32] (fkW_e ..) (by decide) rfl rfl hl.1 (Nat.le_of_ble_eq_true rfl) dX4_addRound_29 ⟨Nat.le_of_ble_eq_true rfl, Nat.le_of_ble_eq_true rfl⟩ rfl rfl ⟨Nat.le_of_ble_eq_true rfl, Nat.le_of_ble_eq_true rfl⟩ (fun H locs h => ?_)
          refine W.eq (g2 := F0 m 32 ls []) rfl ?_
          refine lv_aload_n (pc := 32) hx hb dX4_addRound_32 rfl (lv_at hl 0 rfl) ?_
          refine g_get (pc := 33) (v := .int ((σ z1) 10 0)) C h.1 13 (fkW_c13 ..) fl_X4_63 rfl dX4_addRound_33 ?_
          refine lv_iload_n (pc := 36) hx hb dX4_addRound_36 rfl (lv_at hl 3 rfl) ?_
          refine call_SRR (pc := 37) (As := [.int x2]) (rest := [.int ((σ z1) 10 0)]) C h (k_J6_bitCount_0f7a4 x2 rfl) cw_X4_74 [] rfl (by decide) rfl rfl hl.1 (Nat.le_of_ble_eq_true rfl) dX4_addRound_37 ⟨Nat.le_of_ble_eq_true rfl, Nat.le_of_ble_eq_true rfl⟩ rfl rfl ⟨Nat.le_of_ble_eq_true rfl, Nat.le_of_ble_eq_true rfl⟩ (fun H locs h => ?_)
          refine W.eq (g2 := F0 m 40 ls [.int (f_J6_bitCount_0f7a4 x2), .int ((σ z1) 10 0)]) rfl ?_
          refine lv_iadd (pc := 40) hx hb dX4_addRound_40 ?_
          refine lv_bipush (pc := 41) (v := 8) hx hb dX4_addRound_41 (by decide) ?_
          refine lv_icmp_le (pc := 43) (tgt := 56) hx hb dX4_addRound_43 (by decide) (fun c9 => ?_) (fun c9 => ?_)
          · have hf := ifT c9 hf
            refine lv_aload_n (pc := 56) hx hb dX4_addRound_56 rfl (lv_at hl 0 rfl) ?_
            refine call_VRR (pc := 57) (As := []) (rest := []) C h (k_X0_allSlots (q := q z1) (σ z1) rfl) cw_X4_50 13 (fkW_c13 ..) rfl [13, 14, 15, 16, 17, 18, 19, 20, 21, 22, 23, 24, 25, 26, 27, 28, 29, 30, 31, 32] (fkW_e ..) (by decide) rfl rfl hl.1 (Nat.le_of_ble_eq_true rfl) dX4_addRound_57 ⟨Nat.le_of_ble_eq_true rfl, Nat.le_of_ble_eq_true rfl⟩ rfl rfl ⟨Nat.le_of_ble_eq_true rfl, Nat.le_of_ble_eq_true rfl⟩ (fun H locs h => ?_)
            refine W.eq (g2 := F0 m 60 ls [.int (f_X0_allSlots (σ z1))]) rfl ?_
            refine lv_istore (pc := 60) (lv' := [(4, .int (f_X0_allSlots (σ z1))), (3, .ref (q z1 0)), (0, .ref (q0 0)), (1, .int x1), (2, .int x2)]) hx hb dX4_addRound_60 hl (by decide) rfl (fun ls hl => ?_)
            refine lv_iconst (pc := 62) (v := 0) hx hb dX4_addRound_62 (by decide) ?_
            refine lv_istore (pc := 63) (lv' := [(5, .int (0 : Int32)), (4, .int (f_X0_allSlots (σ z1))), (3, .ref (q z1 0)), (0, .ref (q0 0)), (1, .int x1), (2, .int x2)]) hx hb dX4_addRound_63 hl (by decide) rfl (fun ls hl => ?_)
            obtain ⟨z3, hc3, hf⟩ := bdS hf
            cases hf
          · have hf := ifF c9 hf
            cases hf
            exact g_throw (pc := 46) (rest := []) C hl0 hex hX h tw_IllegalStateException (is := 80) (text := "the envelope would have more than 8 slots") (by decide +kernel) hl.1 dX4_addRound_46 dX4_addRound_49 dX4_addRound_50 dX4_addRound_52 dX4_addRound_55 (Nat.le_of_ble_eq_true rfl) (Nat.le_of_ble_eq_true rfl) (Nat.le_of_ble_eq_true rfl) (Nat.le_of_ble_eq_true rfl) (Nat.le_of_ble_eq_true rfl) (Nat.le_of_ble_eq_true rfl)
      · have hf := ifF c9 hf
        cases hf
        exact g_throw (pc := 18) (rest := []) C hl0 hex hX h tw_IllegalArgumentException (is := 72) (text := "people is not 1 to 255") (by decide +kernel) hl.1 dX4_addRound_18 dX4_addRound_21 dX4_addRound_22 dX4_addRound_24 dX4_addRound_27 (Nat.le_of_ble_eq_true rfl) (Nat.le_of_ble_eq_true rfl) (Nat.le_of_ble_eq_true rfl) (Nat.le_of_ble_eq_true rfl) (Nat.le_of_ble_eq_true rfl) (Nat.le_of_ble_eq_true rfl)
abbrev rm_X4_setTimes : Room := { frames := 1, cells := 0, slots := 0, locals := 22 }
def f_X4_setTimes (n : Nat) (σ0 : (Nat → Nat → Int32)) (σ : (Nat → Nat → Nat → Int32)) (x1 x2 x3 : Int32) : Option (String ⊕ ((Nat → Nat → Int32) × (Nat → Nat → Nat → Int32))) := (xb (f_X4_envelopeAt n x1) fun z1 => (if x2 < 0 then (some (.inl "java/lang/IllegalArgumentException")) else (if x2 ≤ (30 : Int32) then (if x3 < 0 then (some (.inl "java/lang/IllegalArgumentException")) else (if x3 ≤ (60 : Int32) then (xb (f_X4_refuseNoDraft (σ z1)) fun z2 => (lt (va_up (σ z1) 12 (fun _ => x2)) fun t3 => (lt (va_up t3 13 (fun _ => x3)) fun t4 => (some (.inr (σ0, va_up σ z1 t4)))))) else (some (.inl "java/lang/IllegalArgumentException")))) else (some (.inl "java/lang/IllegalArgumentException")))))
set_option maxHeartbeats 400000 in
set_option maxRecDepth 100000 in
theorem k_X4_setTimes {n : Nat} (hn : n ≤ 6) {q0 : Nat → Nat} {q : Nat → Nat → Nat} {cA : Nat → ClassId} {D : va_G} (σ0 : (Nat → Nat → Int32)) (σ : (Nat → Nat → Nat → Int32)) (x1 x2 x3 : Int32) {z : (Nat → Nat → Int32) × (Nat → Nat → Nat → Int32)} (hf : f_X4_setTimes n σ0 σ x1 x2 x3 = some (.inr z)) : CtU yX4_setTimes cX4_setTimes 5 none rm_X4_setTimes [.ref (q0 0), .int x1, .int x2, .int x3] D cA (sW n q0 q cA σ0 σ) (sW n q0 q cA z.1 z.2) none 0 0 := by
  refine ctU_of (by decide) (Nat.le_of_ble_eq_true rfl) ?_
  intro p l e s m below meth c ls C hr hnm h hl
  have C : Cx p s m _ meth c cX4_setTimes 5 RX4 D cA := C
  obtain ⟨hx, hb, hml, hown, hts, hK, hlk⟩ := id C
  replace hl : lv_has ls 5 [(0, .ref (q0 0)), (1, .int x1), (2, .int x2), (3, .int x3)] := hl
  rw [f_X4_setTimes] at hf
  refine lv_aload_n (pc := 0) hx hb dX4_setTimes_0 rfl (lv_at hl 0 rfl) ?_
  refine lv_iload_n (pc := 1) hx hb dX4_setTimes_1 rfl (lv_at hl 1 rfl) ?_
  obtain ⟨z1, hc1, hf⟩ := xbR hf
  refine call_VR (pc := 2) (As := [.int x1]) (rest := []) C h (k_X4_envelopeAt hn (q0 := q0) (q := q) σ0 x1 hc1) cw_X4_43 0 (sW_c0 ..) rfl (List.range 13) (sW_f ..) (by decide) rfl rfl hl.1 (Nat.le_of_ble_eq_true rfl) dX4_setTimes_2 ⟨Nat.le_of_ble_eq_true rfl, Nat.le_of_ble_eq_true rfl⟩ rfl rfl ⟨Nat.le_of_ble_eq_true rfl, Nat.le_of_ble_eq_true rfl⟩ (fun H locs h => ?_)
  refine W.eq (g2 := F0 m 5 ls [.ref (q z1 0)]) rfl ?_
  have hk1 : z1 < n := envAt_lt hn hc1
  have h := St_perm (foc_perm hk1 q0 q cA σ0 σ) h
  refine lv_astore (pc := 5) (lv' := [(4, .ref (q z1 0)), (0, .ref (q0 0)), (1, .int x1), (2, .int x2), (3, .int x3)]) hx hb dX4_setTimes_5 hl (by decide) rfl (fun ls hl => ?_)
  refine lv_iload_n (pc := 7) hx hb dX4_setTimes_7 rfl (lv_at hl 3 rfl) ?_
  refine lv_if_lt (pc := 8) (tgt := 17) hx hb dX4_setTimes_8 (by decide) (fun c9 => ?_) (fun c9 => ?_)
  · have hf := ifT c9 hf
    cases hf
  · have hf := ifF c9 hf
    refine lv_iload_n (pc := 11) hx hb dX4_setTimes_11 rfl (lv_at hl 3 rfl) ?_
    refine lv_bipush (pc := 12) (v := 30) hx hb dX4_setTimes_12 (by decide) ?_
    refine lv_icmp_le (pc := 14) (tgt := 27) hx hb dX4_setTimes_14 (by decide) (fun c9 => ?_) (fun c9 => ?_)
    · have hf := ifT c9 hf
      refine lv_iload_n (pc := 27) hx hb dX4_setTimes_27 rfl (lv_at hl 4 rfl) ?_
      refine lv_if_lt (pc := 28) (tgt := 37) hx hb dX4_setTimes_28 (by decide) (fun c9 => ?_) (fun c9 => ?_)
      · have hf := ifT c9 hf
        cases hf
      · have hf := ifF c9 hf
        refine lv_iload_n (pc := 31) hx hb dX4_setTimes_31 rfl (lv_at hl 4 rfl) ?_
        refine lv_bipush (pc := 32) (v := 60) hx hb dX4_setTimes_32 (by decide) ?_
        refine lv_icmp_le (pc := 34) (tgt := 47) hx hb dX4_setTimes_34 (by decide) (fun c9 => ?_) (fun c9 => ?_)
        · have hf := ifT c9 hf
          refine lv_aload (pc := 47) hx hb dX4_setTimes_47 (lv_at hl 0 rfl) ?_
          obtain ⟨z2, hc2, hf⟩ := xbR hf
          refine call_SR (pc := 49) (As := [.ref (q z1 0)]) (rest := []) C h (k_X4_refuseNoDraft (q := q z1) (σ z1) hc2) cw_X4_59 [13, 14, 15, 16, 17, 18, 19, 20, 21, 22, 23, 24, 25, 26, 27, 28, 29, 30, 31, 32] (fkW_e ..) (by decide) rfl rfl hl.1 (Nat.le_of_ble_eq_true rfl) dX4_setTimes_49 ⟨Nat.le_of_ble_eq_true rfl, Nat.le_of_ble_eq_true rfl⟩ rfl rfl ⟨Nat.le_of_ble_eq_true rfl, Nat.le_of_ble_eq_true rfl⟩ (fun H locs h => ?_)
          refine W.eq (g2 := F0 m 52 ls []) rfl ?_
          refine lv_aload (pc := 52) hx hb dX4_setTimes_52 (lv_at hl 0 rfl) ?_
          refine lv_iload_n (pc := 54) hx hb dX4_setTimes_54 rfl (lv_at hl 3 rfl) ?_
          obtain ⟨t3, et3, hf⟩ := ltS hf
          refine g_puti (pc := 55) (v := x2) (ws' := (fkW n z1 q0 q cA σ0 t3 σ)) C h 13 (fkW_c13 ..) fp_X4_90 (Nat.le_of_ble_eq_true rfl) ((fkW_w13_8 ..).trans (congrArg (fun w => fkW n z1 q0 q cA σ0 w σ) et3.symm)) dX4_setTimes_55 (fun H locs h => ?_)
          refine lv_aload (pc := 58) hx hb dX4_setTimes_58 (lv_at hl 0 rfl) ?_
          refine lv_iload_n (pc := 60) hx hb dX4_setTimes_60 rfl (lv_at hl 4 rfl) ?_
          obtain ⟨t4, et4, hf⟩ := ltS hf
          refine g_puti (pc := 61) (v := x3) (ws' := (fkW n z1 q0 q cA σ0 t4 σ)) C h 13 (fkW_c13 ..) fp_X4_93 (Nat.le_of_ble_eq_true rfl) ((fkW_w13_9 ..).trans (congrArg (fun w => fkW n z1 q0 q cA σ0 w σ) et4.symm)) dX4_setTimes_61 (fun H locs h => ?_)
          cases hf
          have h := St_perm (unf_perm hk1 q0 q cA σ0 t4 σ) h
          exact ret_vU (pc := 64) C hr h dX4_setTimes_64
        · have hf := ifF c9 hf
          cases hf
    · have hf := ifF c9 hf
      cases hf
abbrev rmT_X4_setTimes : Room := { frames := 7, cells := 1, slots := 6, locals := 104 }
set_option maxHeartbeats 400000 in
set_option maxRecDepth 100000 in
theorem kT_X4_setTimes {n : Nat} (hn : n ≤ 6) {q0 : Nat → Nat} {q : Nat → Nat → Nat} {cA : Nat → ClassId} {D : va_G} (σ0 : (Nat → Nat → Int32)) (σ : (Nat → Nat → Nat → Int32)) (x1 x2 x3 : Int32) {E : String} (hf : f_X4_setTimes n σ0 σ x1 x2 x3 = some (.inl E)) : CtT yX4_setTimes cX4_setTimes 5 none rmT_X4_setTimes [.ref (q0 0), .int x1, .int x2, .int x3] D cA (sW n q0 q cA σ0 σ) E := by
  refine ctT_of (by decide) (Nat.le_of_ble_eq_true rfl) ?_
  intro p l e s m below meth c ls hl0 C hex hX h hl
  have C : Cx p s m _ meth c cX4_setTimes 5 RX4 D cA := C
  obtain ⟨hx, hb, hml, hown, hts, hK, hlk⟩ := id C
  replace hl : lv_has ls 5 [(0, .ref (q0 0)), (1, .int x1), (2, .int x2), (3, .int x3)] := hl
  rw [f_X4_setTimes] at hf
  refine lv_aload_n (pc := 0) hx hb dX4_setTimes_0 rfl (lv_at hl 0 rfl) ?_
  refine lv_iload_n (pc := 1) hx hb dX4_setTimes_1 rfl (lv_at hl 1 rfl) ?_
  rcases xbT hf with hc0 | ⟨z1, hc1, hf⟩
  · exact call_TV (pc := 2) (As := [.int x1]) (rest := []) (Qc := QF) C hl0 hex hX h (kT_X4_envelopeAt hn (q0 := q0) (q := q) σ0 x1 hc0) cw_X4_43 0 (sW_c0 ..) rfl (List.range 13) (sW_f ..) (by decide) rfl rfl hl.1 (Nat.le_of_ble_eq_true rfl) dX4_setTimes_2 ⟨Nat.le_of_ble_eq_true rfl, Nat.le_of_ble_eq_true rfl⟩ rfl rfl ⟨Nat.le_of_ble_eq_true rfl, Nat.le_of_ble_eq_true rfl⟩
  · refine call_VRR (pc := 2) (As := [.int x1]) (rest := []) C h (k_X4_envelopeAt hn (q0 := q0) (q := q) σ0 x1 hc1) cw_X4_43 0 (sW_c0 ..) rfl (List.range 13) (sW_f ..) (by decide) rfl rfl hl.1 (Nat.le_of_ble_eq_true rfl) dX4_setTimes_2 ⟨Nat.le_of_ble_eq_true rfl, Nat.le_of_ble_eq_true rfl⟩ rfl rfl ⟨Nat.le_of_ble_eq_true rfl, Nat.le_of_ble_eq_true rfl⟩ (fun H locs h => ?_)
    refine W.eq (g2 := F0 m 5 ls [.ref (q z1 0)]) rfl ?_
    have hk1 : z1 < n := envAt_lt hn hc1
    have h := SR_perm (foc_perm hk1 q0 q cA σ0 σ) h
    refine lv_astore (pc := 5) (lv' := [(4, .ref (q z1 0)), (0, .ref (q0 0)), (1, .int x1), (2, .int x2), (3, .int x3)]) hx hb dX4_setTimes_5 hl (by decide) rfl (fun ls hl => ?_)
    refine lv_iload_n (pc := 7) hx hb dX4_setTimes_7 rfl (lv_at hl 3 rfl) ?_
    refine lv_if_lt (pc := 8) (tgt := 17) hx hb dX4_setTimes_8 (by decide) (fun c9 => ?_) (fun c9 => ?_)
    · have hf := ifT c9 hf
      cases hf
      exact g_throw (pc := 17) (rest := []) C hl0 hex hX h tw_IllegalArgumentException (is := 86) (text := "pace is not 0 to 30") (by decide +kernel) hl.1 dX4_setTimes_17 dX4_setTimes_20 dX4_setTimes_21 dX4_setTimes_23 dX4_setTimes_26 (Nat.le_of_ble_eq_true rfl) (Nat.le_of_ble_eq_true rfl) (Nat.le_of_ble_eq_true rfl) (Nat.le_of_ble_eq_true rfl) (Nat.le_of_ble_eq_true rfl) (Nat.le_of_ble_eq_true rfl)
    · have hf := ifF c9 hf
      refine lv_iload_n (pc := 11) hx hb dX4_setTimes_11 rfl (lv_at hl 3 rfl) ?_
      refine lv_bipush (pc := 12) (v := 30) hx hb dX4_setTimes_12 (by decide) ?_
      refine lv_icmp_le (pc := 14) (tgt := 27) hx hb dX4_setTimes_14 (by decide) (fun c9 => ?_) (fun c9 => ?_)
      · have hf := ifT c9 hf
        refine lv_iload_n (pc := 27) hx hb dX4_setTimes_27 rfl (lv_at hl 4 rfl) ?_
        refine lv_if_lt (pc := 28) (tgt := 37) hx hb dX4_setTimes_28 (by decide) (fun c9 => ?_) (fun c9 => ?_)
        · have hf := ifT c9 hf
          cases hf
          exact g_throw (pc := 37) (rest := []) C hl0 hex hX h tw_IllegalArgumentException (is := 88) (text := "term is not 0 to 60") (by decide +kernel) hl.1 dX4_setTimes_37 dX4_setTimes_40 dX4_setTimes_41 dX4_setTimes_43 dX4_setTimes_46 (Nat.le_of_ble_eq_true rfl) (Nat.le_of_ble_eq_true rfl) (Nat.le_of_ble_eq_true rfl) (Nat.le_of_ble_eq_true rfl) (Nat.le_of_ble_eq_true rfl) (Nat.le_of_ble_eq_true rfl)
        · have hf := ifF c9 hf
          refine lv_iload_n (pc := 31) hx hb dX4_setTimes_31 rfl (lv_at hl 4 rfl) ?_
          refine lv_bipush (pc := 32) (v := 60) hx hb dX4_setTimes_32 (by decide) ?_
          refine lv_icmp_le (pc := 34) (tgt := 47) hx hb dX4_setTimes_34 (by decide) (fun c9 => ?_) (fun c9 => ?_)
          · have hf := ifT c9 hf
            refine lv_aload (pc := 47) hx hb dX4_setTimes_47 (lv_at hl 0 rfl) ?_
            rcases xbT hf with hc0 | ⟨z2, hc2, hf⟩
            · exact call_TS (pc := 49) (As := [.ref (q z1 0)]) (rest := []) (Qc := QF) C hl0 hex hX h (kT_X4_refuseNoDraft (q := q z1) (σ z1) hc0) cw_X4_59 [13, 14, 15, 16, 17, 18, 19, 20, 21, 22, 23, 24, 25, 26, 27, 28, 29, 30, 31, 32] (fkW_e ..) (by decide) rfl rfl hl.1 (Nat.le_of_ble_eq_true rfl) dX4_setTimes_49 ⟨Nat.le_of_ble_eq_true rfl, Nat.le_of_ble_eq_true rfl⟩ rfl rfl ⟨Nat.le_of_ble_eq_true rfl, Nat.le_of_ble_eq_true rfl⟩
            · refine call_SRR (pc := 49) (As := [.ref (q z1 0)]) (rest := []) C h (k_X4_refuseNoDraft (q := q z1) (σ z1) hc2) cw_X4_59 [13, 14, 15, 16, 17, 18, 19, 20, 21, 22, 23, 24, 25, 26, 27, 28, 29, 30, 31, 32] (fkW_e ..) (by decide) rfl rfl hl.1 (Nat.le_of_ble_eq_true rfl) dX4_setTimes_49 ⟨Nat.le_of_ble_eq_true rfl, Nat.le_of_ble_eq_true rfl⟩ rfl rfl ⟨Nat.le_of_ble_eq_true rfl, Nat.le_of_ble_eq_true rfl⟩ (fun H locs h => ?_)
              refine W.eq (g2 := F0 m 52 ls []) rfl ?_
              refine lv_aload (pc := 52) hx hb dX4_setTimes_52 (lv_at hl 0 rfl) ?_
              refine lv_iload_n (pc := 54) hx hb dX4_setTimes_54 rfl (lv_at hl 3 rfl) ?_
              obtain ⟨t3, _, hf⟩ := ltS hf
              obtain ⟨t4, _, hf⟩ := ltS hf
              cases hf
          · have hf := ifF c9 hf
            cases hf
            exact g_throw (pc := 37) (rest := []) C hl0 hex hX h tw_IllegalArgumentException (is := 88) (text := "term is not 0 to 60") (by decide +kernel) hl.1 dX4_setTimes_37 dX4_setTimes_40 dX4_setTimes_41 dX4_setTimes_43 dX4_setTimes_46 (Nat.le_of_ble_eq_true rfl) (Nat.le_of_ble_eq_true rfl) (Nat.le_of_ble_eq_true rfl) (Nat.le_of_ble_eq_true rfl) (Nat.le_of_ble_eq_true rfl) (Nat.le_of_ble_eq_true rfl)
      · have hf := ifF c9 hf
        cases hf
        exact g_throw (pc := 17) (rest := []) C hl0 hex hX h tw_IllegalArgumentException (is := 86) (text := "pace is not 0 to 30") (by decide +kernel) hl.1 dX4_setTimes_17 dX4_setTimes_20 dX4_setTimes_21 dX4_setTimes_23 dX4_setTimes_26 (Nat.le_of_ble_eq_true rfl) (Nat.le_of_ble_eq_true rfl) (Nat.le_of_ble_eq_true rfl) (Nat.le_of_ble_eq_true rfl) (Nat.le_of_ble_eq_true rfl) (Nat.le_of_ble_eq_true rfl)
abbrev rm_X4_send : Room := { frames := 4, cells := 0, slots := 0, locals := 88 }
def f_X4_send (n : Nat) (σ0 : (Nat → Nat → Int32)) (σ : (Nat → Nat → Nat → Int32)) (x1 : Int32) : Option (String ⊕ (Int32 × (Nat → Nat → Int32) × (Nat → Nat → Nat → Int32))) := (xb (f_X4_envelopeAt n x1) fun z1 => (xb (f_X4_refuseNoDraft (σ z1)) fun z2 => (if ((σ z1) 10 0) = 0 then (some (.inl "java/lang/IllegalStateException")) else ((f_X0_start (σ z1) (σ0 1 0)).bind fun z3 => (lt z3.2 fun t4 => (some (.inr (z3.1, (σ0, va_up σ z1 t4)))))))))
set_option maxHeartbeats 400000 in
set_option maxRecDepth 100000 in
theorem k_X4_send {n : Nat} (hn : n ≤ 6) {q0 : Nat → Nat} {q : Nat → Nat → Nat} {cA : Nat → ClassId} {D : va_G} (σ0 : (Nat → Nat → Int32)) (σ : (Nat → Nat → Nat → Int32)) (x1 : Int32) {z : Int32 × (Nat → Nat → Int32) × (Nat → Nat → Nat → Int32)} (hf : f_X4_send n σ0 σ x1 = some (.inr z)) : CtU yX4_send cX4_send 3 (some .int) rm_X4_send [.ref (q0 0), .int x1] D cA (sW n q0 q cA σ0 σ) (sW n q0 q cA z.2.1 z.2.2) (some (.int z.1)) 0 0 := by
  refine ctU_of (by decide) (Nat.le_of_ble_eq_true rfl) ?_
  intro p l e s m below meth c ls C hr hnm h hl
  have C : Cx p s m _ meth c cX4_send 3 RX4 D cA := C
  obtain ⟨hx, hb, hml, hown, hts, hK, hlk⟩ := id C
  replace hl : lv_has ls 3 [(0, .ref (q0 0)), (1, .int x1)] := hl
  rw [f_X4_send] at hf
  refine lv_aload_n (pc := 0) hx hb dX4_send_0 rfl (lv_at hl 0 rfl) ?_
  refine lv_iload_n (pc := 1) hx hb dX4_send_1 rfl (lv_at hl 1 rfl) ?_
  obtain ⟨z1, hc1, hf⟩ := xbR hf
  refine call_VR (pc := 2) (As := [.int x1]) (rest := []) C h (k_X4_envelopeAt hn (q0 := q0) (q := q) σ0 x1 hc1) cw_X4_43 0 (sW_c0 ..) rfl (List.range 13) (sW_f ..) (by decide) rfl rfl hl.1 (Nat.le_of_ble_eq_true rfl) dX4_send_2 ⟨Nat.le_of_ble_eq_true rfl, Nat.le_of_ble_eq_true rfl⟩ rfl rfl ⟨Nat.le_of_ble_eq_true rfl, Nat.le_of_ble_eq_true rfl⟩ (fun H locs h => ?_)
  refine W.eq (g2 := F0 m 5 ls [.ref (q z1 0)]) rfl ?_
  have hk1 : z1 < n := envAt_lt hn hc1
  have h := St_perm (foc_perm hk1 q0 q cA σ0 σ) h
  refine lv_astore_n (pc := 5) (lv' := [(2, .ref (q z1 0)), (0, .ref (q0 0)), (1, .int x1)]) hx hb dX4_send_5 rfl hl (by decide) rfl (fun ls hl => ?_)
  refine lv_aload_n (pc := 6) hx hb dX4_send_6 rfl (lv_at hl 0 rfl) ?_
  obtain ⟨z2, hc2, hf⟩ := xbR hf
  refine call_SR (pc := 7) (As := [.ref (q z1 0)]) (rest := []) C h (k_X4_refuseNoDraft (q := q z1) (σ z1) hc2) cw_X4_59 [13, 14, 15, 16, 17, 18, 19, 20, 21, 22, 23, 24, 25, 26, 27, 28, 29, 30, 31, 32] (fkW_e ..) (by decide) rfl rfl hl.1 (Nat.le_of_ble_eq_true rfl) dX4_send_7 ⟨Nat.le_of_ble_eq_true rfl, Nat.le_of_ble_eq_true rfl⟩ rfl rfl ⟨Nat.le_of_ble_eq_true rfl, Nat.le_of_ble_eq_true rfl⟩ (fun H locs h => ?_)
  refine W.eq (g2 := F0 m 10 ls []) rfl ?_
  refine lv_aload_n (pc := 10) hx hb dX4_send_10 rfl (lv_at hl 0 rfl) ?_
  refine g_get (pc := 11) (v := .int ((σ z1) 10 0)) C h.1 13 (fkW_c13 ..) fl_X4_63 rfl dX4_send_11 ?_
  refine lv_if_ne (pc := 14) (tgt := 27) hx hb dX4_send_14 (by decide) (fun c9 => ?_) (fun c9 => ?_)
  · have hf := ifF c9 hf
    refine lv_aload_n (pc := 27) hx hb dX4_send_27 rfl (lv_at hl 0 rfl) ?_
    refine lv_aload_n (pc := 28) hx hb dX4_send_28 rfl (lv_at hl 1 rfl) ?_
    refine g_get (pc := 29) (v := .int (σ0 1 0)) C h.1 0 (fkW_c0 ..) fl_X4_98 rfl dX4_send_29 ?_
    obtain ⟨z3, hc3, hf⟩ := bdS hf
    obtain ⟨t4, et4, hf⟩ := ltS hf
    refine call_VU (pc := 32) (As := [.int (σ0 1 0)]) (rest := []) (ws' := (fkW n z1 q0 q cA σ0 t4 σ)) C h (k_X0_start (q := q z1) (σ z1) (σ0 1 0) hc3) cw_X4_101 13 (fkW_c13 ..) rfl [13, 14, 15, 16, 17, 18, 19, 20, 21, 22, 23, 24, 25, 26, 27, 28, 29, 30, 31, 32] (fkW_e ..) (by decide) (eW_fst _ _ _ _) ((fkW_ep ..).trans (congrArg (fun w => fkW n z1 q0 q cA σ0 w σ) et4.symm)) rfl rfl hl.1 (Nat.le_of_ble_eq_true rfl) dX4_send_32 ⟨Nat.le_of_ble_eq_true rfl, Nat.le_of_ble_eq_true rfl⟩ rfl rfl ⟨Nat.le_of_ble_eq_true rfl, Nat.le_of_ble_eq_true rfl⟩ (fun H locs h => ?_)
    refine W.eq (g2 := F0 m 35 ls [.int z3.1]) rfl ?_
    cases hf
    have h := St_perm (unf_perm hk1 q0 q cA σ0 t4 σ) h
    exact ret_iU (pc := 35) C hr h dX4_send_35
  · have hf := ifT c9 hf
    cases hf
abbrev rmT_X4_send : Room := { frames := 7, cells := 1, slots := 6, locals := 104 }
set_option maxHeartbeats 400000 in
set_option maxRecDepth 100000 in
theorem kT_X4_send {n : Nat} (hn : n ≤ 6) {q0 : Nat → Nat} {q : Nat → Nat → Nat} {cA : Nat → ClassId} {D : va_G} (σ0 : (Nat → Nat → Int32)) (σ : (Nat → Nat → Nat → Int32)) (x1 : Int32) {E : String} (hf : f_X4_send n σ0 σ x1 = some (.inl E)) : CtT yX4_send cX4_send 3 (some .int) rmT_X4_send [.ref (q0 0), .int x1] D cA (sW n q0 q cA σ0 σ) E := by
  refine ctT_of (by decide) (Nat.le_of_ble_eq_true rfl) ?_
  intro p l e s m below meth c ls hl0 C hex hX h hl
  have C : Cx p s m _ meth c cX4_send 3 RX4 D cA := C
  obtain ⟨hx, hb, hml, hown, hts, hK, hlk⟩ := id C
  replace hl : lv_has ls 3 [(0, .ref (q0 0)), (1, .int x1)] := hl
  rw [f_X4_send] at hf
  refine lv_aload_n (pc := 0) hx hb dX4_send_0 rfl (lv_at hl 0 rfl) ?_
  refine lv_iload_n (pc := 1) hx hb dX4_send_1 rfl (lv_at hl 1 rfl) ?_
  rcases xbT hf with hc0 | ⟨z1, hc1, hf⟩
  · exact call_TV (pc := 2) (As := [.int x1]) (rest := []) (Qc := QF) C hl0 hex hX h (kT_X4_envelopeAt hn (q0 := q0) (q := q) σ0 x1 hc0) cw_X4_43 0 (sW_c0 ..) rfl (List.range 13) (sW_f ..) (by decide) rfl rfl hl.1 (Nat.le_of_ble_eq_true rfl) dX4_send_2 ⟨Nat.le_of_ble_eq_true rfl, Nat.le_of_ble_eq_true rfl⟩ rfl rfl ⟨Nat.le_of_ble_eq_true rfl, Nat.le_of_ble_eq_true rfl⟩
  · refine call_VRR (pc := 2) (As := [.int x1]) (rest := []) C h (k_X4_envelopeAt hn (q0 := q0) (q := q) σ0 x1 hc1) cw_X4_43 0 (sW_c0 ..) rfl (List.range 13) (sW_f ..) (by decide) rfl rfl hl.1 (Nat.le_of_ble_eq_true rfl) dX4_send_2 ⟨Nat.le_of_ble_eq_true rfl, Nat.le_of_ble_eq_true rfl⟩ rfl rfl ⟨Nat.le_of_ble_eq_true rfl, Nat.le_of_ble_eq_true rfl⟩ (fun H locs h => ?_)
    refine W.eq (g2 := F0 m 5 ls [.ref (q z1 0)]) rfl ?_
    have hk1 : z1 < n := envAt_lt hn hc1
    have h := SR_perm (foc_perm hk1 q0 q cA σ0 σ) h
    refine lv_astore_n (pc := 5) (lv' := [(2, .ref (q z1 0)), (0, .ref (q0 0)), (1, .int x1)]) hx hb dX4_send_5 rfl hl (by decide) rfl (fun ls hl => ?_)
    refine lv_aload_n (pc := 6) hx hb dX4_send_6 rfl (lv_at hl 0 rfl) ?_
    rcases xbT hf with hc0 | ⟨z2, hc2, hf⟩
    · exact call_TS (pc := 7) (As := [.ref (q z1 0)]) (rest := []) (Qc := QF) C hl0 hex hX h (kT_X4_refuseNoDraft (q := q z1) (σ z1) hc0) cw_X4_59 [13, 14, 15, 16, 17, 18, 19, 20, 21, 22, 23, 24, 25, 26, 27, 28, 29, 30, 31, 32] (fkW_e ..) (by decide) rfl rfl hl.1 (Nat.le_of_ble_eq_true rfl) dX4_send_7 ⟨Nat.le_of_ble_eq_true rfl, Nat.le_of_ble_eq_true rfl⟩ rfl rfl ⟨Nat.le_of_ble_eq_true rfl, Nat.le_of_ble_eq_true rfl⟩
    · refine call_SRR (pc := 7) (As := [.ref (q z1 0)]) (rest := []) C h (k_X4_refuseNoDraft (q := q z1) (σ z1) hc2) cw_X4_59 [13, 14, 15, 16, 17, 18, 19, 20, 21, 22, 23, 24, 25, 26, 27, 28, 29, 30, 31, 32] (fkW_e ..) (by decide) rfl rfl hl.1 (Nat.le_of_ble_eq_true rfl) dX4_send_7 ⟨Nat.le_of_ble_eq_true rfl, Nat.le_of_ble_eq_true rfl⟩ rfl rfl ⟨Nat.le_of_ble_eq_true rfl, Nat.le_of_ble_eq_true rfl⟩ (fun H locs h => ?_)
      refine W.eq (g2 := F0 m 10 ls []) rfl ?_
      refine lv_aload_n (pc := 10) hx hb dX4_send_10 rfl (lv_at hl 0 rfl) ?_
      refine g_get (pc := 11) (v := .int ((σ z1) 10 0)) C h.1 13 (fkW_c13 ..) fl_X4_63 rfl dX4_send_11 ?_
      refine lv_if_ne (pc := 14) (tgt := 27) hx hb dX4_send_14 (by decide) (fun c9 => ?_) (fun c9 => ?_)
      · have hf := ifF c9 hf
        refine lv_aload_n (pc := 27) hx hb dX4_send_27 rfl (lv_at hl 0 rfl) ?_
        refine lv_aload_n (pc := 28) hx hb dX4_send_28 rfl (lv_at hl 1 rfl) ?_
        refine g_get (pc := 29) (v := .int (σ0 1 0)) C h.1 0 (fkW_c0 ..) fl_X4_98 rfl dX4_send_29 ?_
        obtain ⟨z3, hc3, hf⟩ := bdS hf
        obtain ⟨t4, _, hf⟩ := ltS hf
        cases hf
      · have hf := ifT c9 hf
        cases hf
        exact g_throw (pc := 17) (rest := []) C hl0 hex hX h tw_IllegalStateException (is := 96) (text := "the envelope has no slots") (by decide +kernel) hl.1 dX4_send_17 dX4_send_20 dX4_send_21 dX4_send_23 dX4_send_26 (Nat.le_of_ble_eq_true rfl) (Nat.le_of_ble_eq_true rfl) (Nat.le_of_ble_eq_true rfl) (Nat.le_of_ble_eq_true rfl) (Nat.le_of_ble_eq_true rfl) (Nat.le_of_ble_eq_true rfl)
abbrev rm_X4_sign : Room := { frames := 4, cells := 0, slots := 0, locals := 91 }
def f_X4_sign (n : Nat) (σ0 : (Nat → Nat → Int32)) (σ : (Nat → Nat → Nat → Int32)) (x1 x2 x3 : Int32) : Option (String ⊕ (Int32 × (Nat → Nat → Int32) × (Nat → Nat → Nat → Int32))) := (xb (f_X4_refuseNoPerson x1) fun z1 => (xb (f_X4_envelopeAt n x2) fun z2 => (xb (f_X4_refuseNoSlot (σ z2) x3) fun z3 => ((f_X4_reasonFor σ0 (σ z2) x1 x3).bind fun z4 => (if z4 = 0 then (if z4 = 0 then ((f_X0_mark (σ z2) (1 : Int32) x1 x3 (σ0 1 0)).bind fun z5 => (lt z5.2 fun t6 => (some (.inr (z5.1, (σ0, va_up σ z2 t6)))))) else (xb (f_X4_standinOf (rg 8 ((σ z2) 0) x3)) fun z5 => (lt (va_up σ0 (3 + z5) (upd (σ0 (3 + z5)) 4 ((σ0 (3 + z5) 4) + (1 : Int32)))) fun t6 => ((f_X0_mark (σ z2) (2 : Int32) x1 x3 (t6 1 0)).bind fun z7 => (lt z7.2 fun t8 => (some (.inr (z7.1, (t6, va_up σ z2 t8))))))))) else (if z4 = (1 : Int32) then (if z4 = 0 then ((f_X0_mark (σ z2) (1 : Int32) x1 x3 (σ0 1 0)).bind fun z5 => (lt z5.2 fun t6 => (some (.inr (z5.1, (σ0, va_up σ z2 t6)))))) else (xb (f_X4_standinOf (rg 8 ((σ z2) 0) x3)) fun z5 => (lt (va_up σ0 (3 + z5) (upd (σ0 (3 + z5)) 4 ((σ0 (3 + z5) 4) + (1 : Int32)))) fun t6 => ((f_X0_mark (σ z2) (2 : Int32) x1 x3 (t6 1 0)).bind fun z7 => (lt z7.2 fun t8 => (some (.inr (z7.1, (t6, va_up σ z2 t8))))))))) else (some (.inl "java/lang/IllegalStateException"))))))))
set_option maxHeartbeats 400000 in
set_option maxRecDepth 100000 in
theorem k_X4_sign {n : Nat} (hn : n ≤ 6) {q0 : Nat → Nat} {q : Nat → Nat → Nat} {cA : Nat → ClassId} {D : va_G} (σ0 : (Nat → Nat → Int32)) (σ : (Nat → Nat → Nat → Int32)) (x1 x2 x3 : Int32) {z : Int32 × (Nat → Nat → Int32) × (Nat → Nat → Nat → Int32)} (hf : f_X4_sign n σ0 σ x1 x2 x3 = some (.inr z)) : CtU yX4_sign cX4_sign 6 (some .int) rm_X4_sign [.ref (q0 0), .int x1, .int x2, .int x3] D cA (sW n q0 q cA σ0 σ) (sW n q0 q cA z.2.1 z.2.2) (some (.int z.1)) 0 0 := by
  refine ctU_of (by decide) (Nat.le_of_ble_eq_true rfl) ?_
  intro p l e s m below meth c ls C hr hnm h hl
  have C : Cx p s m _ meth c cX4_sign 6 RX4 D cA := C
  obtain ⟨hx, hb, hml, hown, hts, hK, hlk⟩ := id C
  replace hl : lv_has ls 6 [(0, .ref (q0 0)), (1, .int x1), (2, .int x2), (3, .int x3)] := hl
  rw [f_X4_sign] at hf
  refine lv_iload_n (pc := 0) hx hb dX4_sign_0 rfl (lv_at hl 1 rfl) ?_
  obtain ⟨z1, hc1, hf⟩ := xbR hf
  refine call_SR (pc := 1) (As := [.int x1]) (rest := []) C h (k_X4_refuseNoPerson x1 hc1) cw_X4_47 [] rfl (by decide) rfl rfl hl.1 (Nat.le_of_ble_eq_true rfl) dX4_sign_1 ⟨Nat.le_of_ble_eq_true rfl, Nat.le_of_ble_eq_true rfl⟩ rfl rfl ⟨Nat.le_of_ble_eq_true rfl, Nat.le_of_ble_eq_true rfl⟩ (fun H locs h => ?_)
  refine W.eq (g2 := F0 m 4 ls []) rfl ?_
  refine lv_aload_n (pc := 4) hx hb dX4_sign_4 rfl (lv_at hl 0 rfl) ?_
  refine lv_iload_n (pc := 5) hx hb dX4_sign_5 rfl (lv_at hl 2 rfl) ?_
  obtain ⟨z2, hc2, hf⟩ := xbR hf
  refine call_VR (pc := 6) (As := [.int x2]) (rest := []) C h (k_X4_envelopeAt hn (q0 := q0) (q := q) σ0 x2 hc2) cw_X4_43 0 (sW_c0 ..) rfl (List.range 13) (sW_f ..) (by decide) rfl rfl hl.1 (Nat.le_of_ble_eq_true rfl) dX4_sign_6 ⟨Nat.le_of_ble_eq_true rfl, Nat.le_of_ble_eq_true rfl⟩ rfl rfl ⟨Nat.le_of_ble_eq_true rfl, Nat.le_of_ble_eq_true rfl⟩ (fun H locs h => ?_)
  refine W.eq (g2 := F0 m 9 ls [.ref (q z2 0)]) rfl ?_
  have hk2 : z2 < n := envAt_lt hn hc2
  have h := St_perm (foc_perm hk2 q0 q cA σ0 σ) h
  refine lv_astore (pc := 9) (lv' := [(4, .ref (q z2 0)), (0, .ref (q0 0)), (1, .int x1), (2, .int x2), (3, .int x3)]) hx hb dX4_sign_9 hl (by decide) rfl (fun ls hl => ?_)
  refine lv_aload (pc := 11) hx hb dX4_sign_11 (lv_at hl 0 rfl) ?_
  refine lv_iload_n (pc := 13) hx hb dX4_sign_13 rfl (lv_at hl 4 rfl) ?_
  obtain ⟨z3, hc3, hf⟩ := xbR hf
  refine call_SR (pc := 14) (As := [.ref (q z2 0), .int x3]) (rest := []) C h (k_X4_refuseNoSlot (q := q z2) (σ z2) x3 hc3) cw_X4_104 [13, 14, 15, 16, 17, 18, 19, 20, 21, 22, 23, 24, 25, 26, 27, 28, 29, 30, 31, 32] (fkW_e ..) (by decide) rfl rfl hl.1 (Nat.le_of_ble_eq_true rfl) dX4_sign_14 ⟨Nat.le_of_ble_eq_true rfl, Nat.le_of_ble_eq_true rfl⟩ rfl rfl ⟨Nat.le_of_ble_eq_true rfl, Nat.le_of_ble_eq_true rfl⟩ (fun H locs h => ?_)
  refine W.eq (g2 := F0 m 17 ls []) rfl ?_
  refine lv_aload_n (pc := 17) hx hb dX4_sign_17 rfl (lv_at hl 1 rfl) ?_
  refine lv_iload_n (pc := 18) hx hb dX4_sign_18 rfl (lv_at hl 2 rfl) ?_
  refine lv_aload (pc := 19) hx hb dX4_sign_19 (lv_at hl 0 rfl) ?_
  refine lv_iload_n (pc := 21) hx hb dX4_sign_21 rfl (lv_at hl 4 rfl) ?_
  obtain ⟨z4, hc4, hf⟩ := bdS hf
  refine call_VR (pc := 22) (As := [.int x1, .ref (q z2 0), .int x3]) (rest := []) C h (k_X4_reasonFor hn hk2 (q0 := q0) (q := q) σ0 (σ z2) x1 x3 hc4) cw_X4_108 0 (fkW_c0 ..) rfl (List.range 33) (fkW_re ..) (by decide) rfl rfl hl.1 (Nat.le_of_ble_eq_true rfl) dX4_sign_22 ⟨Nat.le_of_ble_eq_true rfl, Nat.le_of_ble_eq_true rfl⟩ rfl rfl ⟨Nat.le_of_ble_eq_true rfl, Nat.le_of_ble_eq_true rfl⟩ (fun H locs h => ?_)
  refine W.eq (g2 := F0 m 25 ls [.int z4]) rfl ?_
  refine lv_istore (pc := 25) (lv' := [(5, .int z4), (4, .ref (q z2 0)), (0, .ref (q0 0)), (1, .int x1), (2, .int x2), (3, .int x3)]) hx hb dX4_sign_25 hl (by decide) rfl (fun ls hl => ?_)
  refine lv_iload (pc := 27) hx hb dX4_sign_27 (lv_at hl 0 rfl) ?_
  refine lv_if_eq (pc := 29) (tgt := 48) hx hb dX4_sign_29 (by decide) (fun c9 => ?_) (fun c9 => ?_)
  · have hf := ifT c9 hf
    refine lv_iload (pc := 48) hx hb dX4_sign_48 (lv_at hl 0 rfl) ?_
    refine lv_if_ne (pc := 50) (tgt := 66) hx hb dX4_sign_50 (by decide) (fun c9 => ?_) (fun c9 => ?_)
    · have hf := ifF c9 hf
      refine lv_aload_n (pc := 66) hx hb dX4_sign_66 rfl (lv_at hl 2 rfl) ?_
      refine lv_aload (pc := 67) hx hb dX4_sign_67 (lv_at hl 1 rfl) ?_
      refine g_get (pc := 69) (v := .ref (q z2 1)) C h.1 13 (fkW_c13 ..) fl_X4_118 rfl dX4_sign_69 ?_
      refine lv_iload_n (pc := 72) hx hb dX4_sign_72 rfl (lv_at hl 5 rfl) ?_
      refine call_rget (pc := 73) (rest := [.ref (q0 0)]) C h (by decide) (by decide) (fkW_c14 ..) (fkW_c19 ..) cw_X4_121 hl.1 (Nat.le_of_ble_eq_true rfl) dX4_sign_73 ⟨Nat.le_of_ble_eq_true rfl, Nat.le_of_ble_eq_true rfl⟩ rfl rfl ⟨Nat.le_of_ble_eq_true rfl, Nat.le_of_ble_eq_true rfl⟩ (fun H locs h => ?_)
      obtain ⟨z5, hc5, hf⟩ := xbR hf
      refine call_VR (pc := 76) (As := [.int (rg 8 ((σ z2) 0) x3)]) (rest := []) C h (k_X4_standinOf (n := n) (q0 := q0) (q := q) σ0 (rg 8 ((σ z2) 0) x3) hc5) cw_X4_124 0 (fkW_c0 ..) rfl (List.range 13) (fkW_f ..) (by decide) rfl rfl hl.1 (Nat.le_of_ble_eq_true rfl) dX4_sign_76 ⟨Nat.le_of_ble_eq_true rfl, Nat.le_of_ble_eq_true rfl⟩ rfl rfl ⟨Nat.le_of_ble_eq_true rfl, Nat.le_of_ble_eq_true rfl⟩ (fun H locs h => ?_)
      refine W.eq (g2 := F0 m 79 ls [.ref (q0 (5 + z5))]) rfl ?_
      have hp5 : z5 < 8 := stAt_lt hc5
      refine lv_dup (pc := 79) hx hb dX4_sign_79 rfl ?_
      refine g_get (pc := 80) (v := .int (σ0 (3 + z5) 4)) C h.1 (5 + z5) (fkW_cs hp5 ..) fl_X4_128 rfl dX4_sign_80 ?_
      refine lv_iconst (pc := 83) (v := 1) hx hb dX4_sign_83 (by decide) ?_
      refine lv_iadd (pc := 84) hx hb dX4_sign_84 ?_
      obtain ⟨t6, et6, hf⟩ := ltS hf
      refine g_puti (pc := 85) (v := ((σ0 (3 + z5) 4) + (1 : Int32))) (ws' := (fkW n z2 q0 q cA t6 (σ z2) σ)) C h (5 + z5) (fkW_cs hp5 ..) fp_X4_128 (Nat.le_of_ble_eq_true rfl) ((fkW_ws4 hp5 ..).trans (congrArg (fun w => fkW n z2 q0 q cA w (σ z2) σ) et6.symm)) dX4_sign_85 (fun H locs h => ?_)
      refine lv_aload (pc := 88) hx hb dX4_sign_88 (lv_at hl 1 rfl) ?_
      refine lv_iconst (pc := 90) (v := 2) hx hb dX4_sign_90 (by decide) ?_
      refine lv_iload_n (pc := 91) hx hb dX4_sign_91 rfl (lv_at hl 3 rfl) ?_
      refine lv_iload_n (pc := 92) hx hb dX4_sign_92 rfl (lv_at hl 5 rfl) ?_
      refine lv_aload_n (pc := 93) hx hb dX4_sign_93 rfl (lv_at hl 2 rfl) ?_
      refine g_get (pc := 94) (v := .int (t6 1 0)) C h.1 0 (fkW_c0 ..) fl_X4_98 rfl dX4_sign_94 ?_
      obtain ⟨z7, hc7, hf⟩ := bdS hf
      obtain ⟨t8, et8, hf⟩ := ltS hf
      refine call_VU (pc := 97) (As := [.int (2 : Int32), .int x1, .int x3, .int (t6 1 0)]) (rest := []) (ws' := (fkW n z2 q0 q cA t6 t8 σ)) C h (k_X0_mark (q := q z2) (σ z2) (2 : Int32) x1 x3 (t6 1 0) hc7) cw_X4_114 13 (fkW_c13 ..) rfl [13, 14, 15, 16, 17, 18, 19, 20, 21, 22, 23, 24, 25, 26, 27, 28, 29, 30, 31, 32] (fkW_e ..) (by decide) (eW_fst _ _ _ _) ((fkW_ep ..).trans (congrArg (fun w => fkW n z2 q0 q cA t6 w σ) et8.symm)) rfl rfl hl.1 (Nat.le_of_ble_eq_true rfl) dX4_sign_97 ⟨Nat.le_of_ble_eq_true rfl, Nat.le_of_ble_eq_true rfl⟩ rfl rfl ⟨Nat.le_of_ble_eq_true rfl, Nat.le_of_ble_eq_true rfl⟩ (fun H locs h => ?_)
      refine W.eq (g2 := F0 m 100 ls [.int z7.1]) rfl ?_
      cases hf
      have h := St_perm (unf_perm hk2 q0 q cA t6 t8 σ) h
      exact ret_iU (pc := 100) C hr h dX4_sign_100
    · have hf := ifT c9 hf
      refine lv_aload (pc := 53) hx hb dX4_sign_53 (lv_at hl 1 rfl) ?_
      refine lv_iconst (pc := 55) (v := 1) hx hb dX4_sign_55 (by decide) ?_
      refine lv_iload_n (pc := 56) hx hb dX4_sign_56 rfl (lv_at hl 3 rfl) ?_
      refine lv_iload_n (pc := 57) hx hb dX4_sign_57 rfl (lv_at hl 5 rfl) ?_
      refine lv_aload_n (pc := 58) hx hb dX4_sign_58 rfl (lv_at hl 2 rfl) ?_
      refine g_get (pc := 59) (v := .int (σ0 1 0)) C h.1 0 (fkW_c0 ..) fl_X4_98 rfl dX4_sign_59 ?_
      obtain ⟨z5, hc5, hf⟩ := bdS hf
      obtain ⟨t6, et6, hf⟩ := ltS hf
      refine call_VU (pc := 62) (As := [.int (1 : Int32), .int x1, .int x3, .int (σ0 1 0)]) (rest := []) (ws' := (fkW n z2 q0 q cA σ0 t6 σ)) C h (k_X0_mark (q := q z2) (σ z2) (1 : Int32) x1 x3 (σ0 1 0) hc5) cw_X4_114 13 (fkW_c13 ..) rfl [13, 14, 15, 16, 17, 18, 19, 20, 21, 22, 23, 24, 25, 26, 27, 28, 29, 30, 31, 32] (fkW_e ..) (by decide) (eW_fst _ _ _ _) ((fkW_ep ..).trans (congrArg (fun w => fkW n z2 q0 q cA σ0 w σ) et6.symm)) rfl rfl hl.1 (Nat.le_of_ble_eq_true rfl) dX4_sign_62 ⟨Nat.le_of_ble_eq_true rfl, Nat.le_of_ble_eq_true rfl⟩ rfl rfl ⟨Nat.le_of_ble_eq_true rfl, Nat.le_of_ble_eq_true rfl⟩ (fun H locs h => ?_)
      refine W.eq (g2 := F0 m 65 ls [.int z5.1]) rfl ?_
      cases hf
      have h := St_perm (unf_perm hk2 q0 q cA σ0 t6 σ) h
      exact ret_iU (pc := 65) C hr h dX4_sign_65
  · have hf := ifF c9 hf
    refine lv_iload (pc := 32) hx hb dX4_sign_32 (lv_at hl 0 rfl) ?_
    refine lv_iconst (pc := 34) (v := 1) hx hb dX4_sign_34 (by decide) ?_
    refine lv_icmp_eq (pc := 35) (tgt := 48) hx hb dX4_sign_35 (by decide) (fun c9 => ?_) (fun c9 => ?_)
    · have hf := ifT c9 hf
      refine lv_iload (pc := 48) hx hb dX4_sign_48 (lv_at hl 0 rfl) ?_
      refine lv_if_ne (pc := 50) (tgt := 66) hx hb dX4_sign_50 (by decide) (fun c9 => ?_) (fun c9 => ?_)
      · have hf := ifF c9 hf
        refine lv_aload_n (pc := 66) hx hb dX4_sign_66 rfl (lv_at hl 2 rfl) ?_
        refine lv_aload (pc := 67) hx hb dX4_sign_67 (lv_at hl 1 rfl) ?_
        refine g_get (pc := 69) (v := .ref (q z2 1)) C h.1 13 (fkW_c13 ..) fl_X4_118 rfl dX4_sign_69 ?_
        refine lv_iload_n (pc := 72) hx hb dX4_sign_72 rfl (lv_at hl 5 rfl) ?_
        refine call_rget (pc := 73) (rest := [.ref (q0 0)]) C h (by decide) (by decide) (fkW_c14 ..) (fkW_c19 ..) cw_X4_121 hl.1 (Nat.le_of_ble_eq_true rfl) dX4_sign_73 ⟨Nat.le_of_ble_eq_true rfl, Nat.le_of_ble_eq_true rfl⟩ rfl rfl ⟨Nat.le_of_ble_eq_true rfl, Nat.le_of_ble_eq_true rfl⟩ (fun H locs h => ?_)
        obtain ⟨z5, hc5, hf⟩ := xbR hf
        refine call_VR (pc := 76) (As := [.int (rg 8 ((σ z2) 0) x3)]) (rest := []) C h (k_X4_standinOf (n := n) (q0 := q0) (q := q) σ0 (rg 8 ((σ z2) 0) x3) hc5) cw_X4_124 0 (fkW_c0 ..) rfl (List.range 13) (fkW_f ..) (by decide) rfl rfl hl.1 (Nat.le_of_ble_eq_true rfl) dX4_sign_76 ⟨Nat.le_of_ble_eq_true rfl, Nat.le_of_ble_eq_true rfl⟩ rfl rfl ⟨Nat.le_of_ble_eq_true rfl, Nat.le_of_ble_eq_true rfl⟩ (fun H locs h => ?_)
        refine W.eq (g2 := F0 m 79 ls [.ref (q0 (5 + z5))]) rfl ?_
        have hp5 : z5 < 8 := stAt_lt hc5
        refine lv_dup (pc := 79) hx hb dX4_sign_79 rfl ?_
        refine g_get (pc := 80) (v := .int (σ0 (3 + z5) 4)) C h.1 (5 + z5) (fkW_cs hp5 ..) fl_X4_128 rfl dX4_sign_80 ?_
        refine lv_iconst (pc := 83) (v := 1) hx hb dX4_sign_83 (by decide) ?_
        refine lv_iadd (pc := 84) hx hb dX4_sign_84 ?_
        obtain ⟨t6, et6, hf⟩ := ltS hf
        refine g_puti (pc := 85) (v := ((σ0 (3 + z5) 4) + (1 : Int32))) (ws' := (fkW n z2 q0 q cA t6 (σ z2) σ)) C h (5 + z5) (fkW_cs hp5 ..) fp_X4_128 (Nat.le_of_ble_eq_true rfl) ((fkW_ws4 hp5 ..).trans (congrArg (fun w => fkW n z2 q0 q cA w (σ z2) σ) et6.symm)) dX4_sign_85 (fun H locs h => ?_)
        refine lv_aload (pc := 88) hx hb dX4_sign_88 (lv_at hl 1 rfl) ?_
        refine lv_iconst (pc := 90) (v := 2) hx hb dX4_sign_90 (by decide) ?_
        refine lv_iload_n (pc := 91) hx hb dX4_sign_91 rfl (lv_at hl 3 rfl) ?_
        refine lv_iload_n (pc := 92) hx hb dX4_sign_92 rfl (lv_at hl 5 rfl) ?_
        refine lv_aload_n (pc := 93) hx hb dX4_sign_93 rfl (lv_at hl 2 rfl) ?_
        refine g_get (pc := 94) (v := .int (t6 1 0)) C h.1 0 (fkW_c0 ..) fl_X4_98 rfl dX4_sign_94 ?_
        obtain ⟨z7, hc7, hf⟩ := bdS hf
        obtain ⟨t8, et8, hf⟩ := ltS hf
        refine call_VU (pc := 97) (As := [.int (2 : Int32), .int x1, .int x3, .int (t6 1 0)]) (rest := []) (ws' := (fkW n z2 q0 q cA t6 t8 σ)) C h (k_X0_mark (q := q z2) (σ z2) (2 : Int32) x1 x3 (t6 1 0) hc7) cw_X4_114 13 (fkW_c13 ..) rfl [13, 14, 15, 16, 17, 18, 19, 20, 21, 22, 23, 24, 25, 26, 27, 28, 29, 30, 31, 32] (fkW_e ..) (by decide) (eW_fst _ _ _ _) ((fkW_ep ..).trans (congrArg (fun w => fkW n z2 q0 q cA t6 w σ) et8.symm)) rfl rfl hl.1 (Nat.le_of_ble_eq_true rfl) dX4_sign_97 ⟨Nat.le_of_ble_eq_true rfl, Nat.le_of_ble_eq_true rfl⟩ rfl rfl ⟨Nat.le_of_ble_eq_true rfl, Nat.le_of_ble_eq_true rfl⟩ (fun H locs h => ?_)
        refine W.eq (g2 := F0 m 100 ls [.int z7.1]) rfl ?_
        cases hf
        have h := St_perm (unf_perm hk2 q0 q cA t6 t8 σ) h
        exact ret_iU (pc := 100) C hr h dX4_sign_100
      · have hf := ifT c9 hf
        refine lv_aload (pc := 53) hx hb dX4_sign_53 (lv_at hl 1 rfl) ?_
        refine lv_iconst (pc := 55) (v := 1) hx hb dX4_sign_55 (by decide) ?_
        refine lv_iload_n (pc := 56) hx hb dX4_sign_56 rfl (lv_at hl 3 rfl) ?_
        refine lv_iload_n (pc := 57) hx hb dX4_sign_57 rfl (lv_at hl 5 rfl) ?_
        refine lv_aload_n (pc := 58) hx hb dX4_sign_58 rfl (lv_at hl 2 rfl) ?_
        refine g_get (pc := 59) (v := .int (σ0 1 0)) C h.1 0 (fkW_c0 ..) fl_X4_98 rfl dX4_sign_59 ?_
        obtain ⟨z5, hc5, hf⟩ := bdS hf
        obtain ⟨t6, et6, hf⟩ := ltS hf
        refine call_VU (pc := 62) (As := [.int (1 : Int32), .int x1, .int x3, .int (σ0 1 0)]) (rest := []) (ws' := (fkW n z2 q0 q cA σ0 t6 σ)) C h (k_X0_mark (q := q z2) (σ z2) (1 : Int32) x1 x3 (σ0 1 0) hc5) cw_X4_114 13 (fkW_c13 ..) rfl [13, 14, 15, 16, 17, 18, 19, 20, 21, 22, 23, 24, 25, 26, 27, 28, 29, 30, 31, 32] (fkW_e ..) (by decide) (eW_fst _ _ _ _) ((fkW_ep ..).trans (congrArg (fun w => fkW n z2 q0 q cA σ0 w σ) et6.symm)) rfl rfl hl.1 (Nat.le_of_ble_eq_true rfl) dX4_sign_62 ⟨Nat.le_of_ble_eq_true rfl, Nat.le_of_ble_eq_true rfl⟩ rfl rfl ⟨Nat.le_of_ble_eq_true rfl, Nat.le_of_ble_eq_true rfl⟩ (fun H locs h => ?_)
        refine W.eq (g2 := F0 m 65 ls [.int z5.1]) rfl ?_
        cases hf
        have h := St_perm (unf_perm hk2 q0 q cA σ0 t6 σ) h
        exact ret_iU (pc := 65) C hr h dX4_sign_65
    · have hf := ifF c9 hf
      cases hf
abbrev rmT_X4_sign : Room := { frames := 7, cells := 1, slots := 6, locals := 104 }
set_option maxHeartbeats 400000 in
set_option maxRecDepth 100000 in
theorem kT_X4_sign {n : Nat} (hn : n ≤ 6) {q0 : Nat → Nat} {q : Nat → Nat → Nat} {cA : Nat → ClassId} {D : va_G} (σ0 : (Nat → Nat → Int32)) (σ : (Nat → Nat → Nat → Int32)) (x1 x2 x3 : Int32) {E : String} (hf : f_X4_sign n σ0 σ x1 x2 x3 = some (.inl E)) : CtT yX4_sign cX4_sign 6 (some .int) rmT_X4_sign [.ref (q0 0), .int x1, .int x2, .int x3] D cA (sW n q0 q cA σ0 σ) E := by
  refine ctT_of (by decide) (Nat.le_of_ble_eq_true rfl) ?_
  intro p l e s m below meth c ls hl0 C hex hX h hl
  have C : Cx p s m _ meth c cX4_sign 6 RX4 D cA := C
  obtain ⟨hx, hb, hml, hown, hts, hK, hlk⟩ := id C
  replace hl : lv_has ls 6 [(0, .ref (q0 0)), (1, .int x1), (2, .int x2), (3, .int x3)] := hl
  rw [f_X4_sign] at hf
  refine lv_iload_n (pc := 0) hx hb dX4_sign_0 rfl (lv_at hl 1 rfl) ?_
  rcases xbT hf with hc0 | ⟨z1, hc1, hf⟩
  · exact call_TS (pc := 1) (As := [.int x1]) (rest := []) (Qc := QF) C hl0 hex hX h (kT_X4_refuseNoPerson x1 hc0) cw_X4_47 [] rfl (by decide) rfl rfl hl.1 (Nat.le_of_ble_eq_true rfl) dX4_sign_1 ⟨Nat.le_of_ble_eq_true rfl, Nat.le_of_ble_eq_true rfl⟩ rfl rfl ⟨Nat.le_of_ble_eq_true rfl, Nat.le_of_ble_eq_true rfl⟩
  · refine call_SRR (pc := 1) (As := [.int x1]) (rest := []) C h (k_X4_refuseNoPerson x1 hc1) cw_X4_47 [] rfl (by decide) rfl rfl hl.1 (Nat.le_of_ble_eq_true rfl) dX4_sign_1 ⟨Nat.le_of_ble_eq_true rfl, Nat.le_of_ble_eq_true rfl⟩ rfl rfl ⟨Nat.le_of_ble_eq_true rfl, Nat.le_of_ble_eq_true rfl⟩ (fun H locs h => ?_)
    refine W.eq (g2 := F0 m 4 ls []) rfl ?_
    refine lv_aload_n (pc := 4) hx hb dX4_sign_4 rfl (lv_at hl 0 rfl) ?_
    refine lv_iload_n (pc := 5) hx hb dX4_sign_5 rfl (lv_at hl 2 rfl) ?_
    rcases xbT hf with hc0 | ⟨z2, hc2, hf⟩
    · exact call_TV (pc := 6) (As := [.int x2]) (rest := []) (Qc := QF) C hl0 hex hX h (kT_X4_envelopeAt hn (q0 := q0) (q := q) σ0 x2 hc0) cw_X4_43 0 (sW_c0 ..) rfl (List.range 13) (sW_f ..) (by decide) rfl rfl hl.1 (Nat.le_of_ble_eq_true rfl) dX4_sign_6 ⟨Nat.le_of_ble_eq_true rfl, Nat.le_of_ble_eq_true rfl⟩ rfl rfl ⟨Nat.le_of_ble_eq_true rfl, Nat.le_of_ble_eq_true rfl⟩
    · refine call_VRR (pc := 6) (As := [.int x2]) (rest := []) C h (k_X4_envelopeAt hn (q0 := q0) (q := q) σ0 x2 hc2) cw_X4_43 0 (sW_c0 ..) rfl (List.range 13) (sW_f ..) (by decide) rfl rfl hl.1 (Nat.le_of_ble_eq_true rfl) dX4_sign_6 ⟨Nat.le_of_ble_eq_true rfl, Nat.le_of_ble_eq_true rfl⟩ rfl rfl ⟨Nat.le_of_ble_eq_true rfl, Nat.le_of_ble_eq_true rfl⟩ (fun H locs h => ?_)
      refine W.eq (g2 := F0 m 9 ls [.ref (q z2 0)]) rfl ?_
      have hk2 : z2 < n := envAt_lt hn hc2
      have h := SR_perm (foc_perm hk2 q0 q cA σ0 σ) h
      refine lv_astore (pc := 9) (lv' := [(4, .ref (q z2 0)), (0, .ref (q0 0)), (1, .int x1), (2, .int x2), (3, .int x3)]) hx hb dX4_sign_9 hl (by decide) rfl (fun ls hl => ?_)
      refine lv_aload (pc := 11) hx hb dX4_sign_11 (lv_at hl 0 rfl) ?_
      refine lv_iload_n (pc := 13) hx hb dX4_sign_13 rfl (lv_at hl 4 rfl) ?_
      rcases xbT hf with hc0 | ⟨z3, hc3, hf⟩
      · exact call_TS (pc := 14) (As := [.ref (q z2 0), .int x3]) (rest := []) (Qc := QF) C hl0 hex hX h (kT_X4_refuseNoSlot (q := q z2) (σ z2) x3 hc0) cw_X4_104 [13, 14, 15, 16, 17, 18, 19, 20, 21, 22, 23, 24, 25, 26, 27, 28, 29, 30, 31, 32] (fkW_e ..) (by decide) rfl rfl hl.1 (Nat.le_of_ble_eq_true rfl) dX4_sign_14 ⟨Nat.le_of_ble_eq_true rfl, Nat.le_of_ble_eq_true rfl⟩ rfl rfl ⟨Nat.le_of_ble_eq_true rfl, Nat.le_of_ble_eq_true rfl⟩
      · refine call_SRR (pc := 14) (As := [.ref (q z2 0), .int x3]) (rest := []) C h (k_X4_refuseNoSlot (q := q z2) (σ z2) x3 hc3) cw_X4_104 [13, 14, 15, 16, 17, 18, 19, 20, 21, 22, 23, 24, 25, 26, 27, 28, 29, 30, 31, 32] (fkW_e ..) (by decide) rfl rfl hl.1 (Nat.le_of_ble_eq_true rfl) dX4_sign_14 ⟨Nat.le_of_ble_eq_true rfl, Nat.le_of_ble_eq_true rfl⟩ rfl rfl ⟨Nat.le_of_ble_eq_true rfl, Nat.le_of_ble_eq_true rfl⟩ (fun H locs h => ?_)
        refine W.eq (g2 := F0 m 17 ls []) rfl ?_
        refine lv_aload_n (pc := 17) hx hb dX4_sign_17 rfl (lv_at hl 1 rfl) ?_
        refine lv_iload_n (pc := 18) hx hb dX4_sign_18 rfl (lv_at hl 2 rfl) ?_
        refine lv_aload (pc := 19) hx hb dX4_sign_19 (lv_at hl 0 rfl) ?_
        refine lv_iload_n (pc := 21) hx hb dX4_sign_21 rfl (lv_at hl 4 rfl) ?_
        obtain ⟨z4, hc4, hf⟩ := bdS hf
        refine call_VRR (pc := 22) (As := [.int x1, .ref (q z2 0), .int x3]) (rest := []) C h (k_X4_reasonFor hn hk2 (q0 := q0) (q := q) σ0 (σ z2) x1 x3 hc4) cw_X4_108 0 (fkW_c0 ..) rfl (List.range 33) (fkW_re ..) (by decide) rfl rfl hl.1 (Nat.le_of_ble_eq_true rfl) dX4_sign_22 ⟨Nat.le_of_ble_eq_true rfl, Nat.le_of_ble_eq_true rfl⟩ rfl rfl ⟨Nat.le_of_ble_eq_true rfl, Nat.le_of_ble_eq_true rfl⟩ (fun H locs h => ?_)
        refine W.eq (g2 := F0 m 25 ls [.int z4]) rfl ?_
        refine lv_istore (pc := 25) (lv' := [(5, .int z4), (4, .ref (q z2 0)), (0, .ref (q0 0)), (1, .int x1), (2, .int x2), (3, .int x3)]) hx hb dX4_sign_25 hl (by decide) rfl (fun ls hl => ?_)
        refine lv_iload (pc := 27) hx hb dX4_sign_27 (lv_at hl 0 rfl) ?_
        refine lv_if_eq (pc := 29) (tgt := 48) hx hb dX4_sign_29 (by decide) (fun c9 => ?_) (fun c9 => ?_)
        · have hf := ifT c9 hf
          refine lv_iload (pc := 48) hx hb dX4_sign_48 (lv_at hl 0 rfl) ?_
          refine lv_if_ne (pc := 50) (tgt := 66) hx hb dX4_sign_50 (by decide) (fun c9 => ?_) (fun c9 => ?_)
          · have hf := ifF c9 hf
            refine lv_aload_n (pc := 66) hx hb dX4_sign_66 rfl (lv_at hl 2 rfl) ?_
            refine lv_aload (pc := 67) hx hb dX4_sign_67 (lv_at hl 1 rfl) ?_
            refine g_get (pc := 69) (v := .ref (q z2 1)) C h.1 13 (fkW_c13 ..) fl_X4_118 rfl dX4_sign_69 ?_
            refine lv_iload_n (pc := 72) hx hb dX4_sign_72 rfl (lv_at hl 5 rfl) ?_
            refine call_rgetR (pc := 73) (rest := [.ref (q0 0)]) C h (by decide) (by decide) (fkW_c14 ..) (fkW_c19 ..) cw_X4_121 hl.1 (Nat.le_of_ble_eq_true rfl) dX4_sign_73 ⟨Nat.le_of_ble_eq_true rfl, Nat.le_of_ble_eq_true rfl⟩ rfl rfl ⟨Nat.le_of_ble_eq_true rfl, Nat.le_of_ble_eq_true rfl⟩ (fun H locs h => ?_)
            rcases xbT hf with hc0 | ⟨z5, hc5, hf⟩
            · exact call_TV (pc := 76) (As := [.int (rg 8 ((σ z2) 0) x3)]) (rest := []) (Qc := QF) C hl0 hex hX h (kT_X4_standinOf (n := n) (q0 := q0) (q := q) σ0 (rg 8 ((σ z2) 0) x3) hc0) cw_X4_124 0 (fkW_c0 ..) rfl (List.range 13) (fkW_f ..) (by decide) rfl rfl hl.1 (Nat.le_of_ble_eq_true rfl) dX4_sign_76 ⟨Nat.le_of_ble_eq_true rfl, Nat.le_of_ble_eq_true rfl⟩ rfl rfl ⟨Nat.le_of_ble_eq_true rfl, Nat.le_of_ble_eq_true rfl⟩
            · refine call_VRR (pc := 76) (As := [.int (rg 8 ((σ z2) 0) x3)]) (rest := []) C h (k_X4_standinOf (n := n) (q0 := q0) (q := q) σ0 (rg 8 ((σ z2) 0) x3) hc5) cw_X4_124 0 (fkW_c0 ..) rfl (List.range 13) (fkW_f ..) (by decide) rfl rfl hl.1 (Nat.le_of_ble_eq_true rfl) dX4_sign_76 ⟨Nat.le_of_ble_eq_true rfl, Nat.le_of_ble_eq_true rfl⟩ rfl rfl ⟨Nat.le_of_ble_eq_true rfl, Nat.le_of_ble_eq_true rfl⟩ (fun H locs h => ?_)
              refine W.eq (g2 := F0 m 79 ls [.ref (q0 (5 + z5))]) rfl ?_
              have hp5 : z5 < 8 := stAt_lt hc5
              refine lv_dup (pc := 79) hx hb dX4_sign_79 rfl ?_
              refine g_get (pc := 80) (v := .int (σ0 (3 + z5) 4)) C h.1 (5 + z5) (fkW_cs hp5 ..) fl_X4_128 rfl dX4_sign_80 ?_
              refine lv_iconst (pc := 83) (v := 1) hx hb dX4_sign_83 (by decide) ?_
              refine lv_iadd (pc := 84) hx hb dX4_sign_84 ?_
              obtain ⟨t6, _, hf⟩ := ltS hf
              obtain ⟨z7, hc7, hf⟩ := bdS hf
              obtain ⟨t8, _, hf⟩ := ltS hf
              cases hf
          · have hf := ifT c9 hf
            refine lv_aload (pc := 53) hx hb dX4_sign_53 (lv_at hl 1 rfl) ?_
            refine lv_iconst (pc := 55) (v := 1) hx hb dX4_sign_55 (by decide) ?_
            refine lv_iload_n (pc := 56) hx hb dX4_sign_56 rfl (lv_at hl 3 rfl) ?_
            refine lv_iload_n (pc := 57) hx hb dX4_sign_57 rfl (lv_at hl 5 rfl) ?_
            refine lv_aload_n (pc := 58) hx hb dX4_sign_58 rfl (lv_at hl 2 rfl) ?_
            refine g_get (pc := 59) (v := .int (σ0 1 0)) C h.1 0 (fkW_c0 ..) fl_X4_98 rfl dX4_sign_59 ?_
            obtain ⟨z5, hc5, hf⟩ := bdS hf
            obtain ⟨t6, _, hf⟩ := ltS hf
            cases hf
        · have hf := ifF c9 hf
          refine lv_iload (pc := 32) hx hb dX4_sign_32 (lv_at hl 0 rfl) ?_
          refine lv_iconst (pc := 34) (v := 1) hx hb dX4_sign_34 (by decide) ?_
          refine lv_icmp_eq (pc := 35) (tgt := 48) hx hb dX4_sign_35 (by decide) (fun c9 => ?_) (fun c9 => ?_)
          · have hf := ifT c9 hf
            refine lv_iload (pc := 48) hx hb dX4_sign_48 (lv_at hl 0 rfl) ?_
            refine lv_if_ne (pc := 50) (tgt := 66) hx hb dX4_sign_50 (by decide) (fun c9 => ?_) (fun c9 => ?_)
            · have hf := ifF c9 hf
              refine lv_aload_n (pc := 66) hx hb dX4_sign_66 rfl (lv_at hl 2 rfl) ?_
              refine lv_aload (pc := 67) hx hb dX4_sign_67 (lv_at hl 1 rfl) ?_
              refine g_get (pc := 69) (v := .ref (q z2 1)) C h.1 13 (fkW_c13 ..) fl_X4_118 rfl dX4_sign_69 ?_
              refine lv_iload_n (pc := 72) hx hb dX4_sign_72 rfl (lv_at hl 5 rfl) ?_
              refine call_rgetR (pc := 73) (rest := [.ref (q0 0)]) C h (by decide) (by decide) (fkW_c14 ..) (fkW_c19 ..) cw_X4_121 hl.1 (Nat.le_of_ble_eq_true rfl) dX4_sign_73 ⟨Nat.le_of_ble_eq_true rfl, Nat.le_of_ble_eq_true rfl⟩ rfl rfl ⟨Nat.le_of_ble_eq_true rfl, Nat.le_of_ble_eq_true rfl⟩ (fun H locs h => ?_)
              rcases xbT hf with hc0 | ⟨z5, hc5, hf⟩
              · exact call_TV (pc := 76) (As := [.int (rg 8 ((σ z2) 0) x3)]) (rest := []) (Qc := QF) C hl0 hex hX h (kT_X4_standinOf (n := n) (q0 := q0) (q := q) σ0 (rg 8 ((σ z2) 0) x3) hc0) cw_X4_124 0 (fkW_c0 ..) rfl (List.range 13) (fkW_f ..) (by decide) rfl rfl hl.1 (Nat.le_of_ble_eq_true rfl) dX4_sign_76 ⟨Nat.le_of_ble_eq_true rfl, Nat.le_of_ble_eq_true rfl⟩ rfl rfl ⟨Nat.le_of_ble_eq_true rfl, Nat.le_of_ble_eq_true rfl⟩
              · refine call_VRR (pc := 76) (As := [.int (rg 8 ((σ z2) 0) x3)]) (rest := []) C h (k_X4_standinOf (n := n) (q0 := q0) (q := q) σ0 (rg 8 ((σ z2) 0) x3) hc5) cw_X4_124 0 (fkW_c0 ..) rfl (List.range 13) (fkW_f ..) (by decide) rfl rfl hl.1 (Nat.le_of_ble_eq_true rfl) dX4_sign_76 ⟨Nat.le_of_ble_eq_true rfl, Nat.le_of_ble_eq_true rfl⟩ rfl rfl ⟨Nat.le_of_ble_eq_true rfl, Nat.le_of_ble_eq_true rfl⟩ (fun H locs h => ?_)
                refine W.eq (g2 := F0 m 79 ls [.ref (q0 (5 + z5))]) rfl ?_
                have hp5 : z5 < 8 := stAt_lt hc5
                refine lv_dup (pc := 79) hx hb dX4_sign_79 rfl ?_
                refine g_get (pc := 80) (v := .int (σ0 (3 + z5) 4)) C h.1 (5 + z5) (fkW_cs hp5 ..) fl_X4_128 rfl dX4_sign_80 ?_
                refine lv_iconst (pc := 83) (v := 1) hx hb dX4_sign_83 (by decide) ?_
                refine lv_iadd (pc := 84) hx hb dX4_sign_84 ?_
                obtain ⟨t6, _, hf⟩ := ltS hf
                obtain ⟨z7, hc7, hf⟩ := bdS hf
                obtain ⟨t8, _, hf⟩ := ltS hf
                cases hf
            · have hf := ifT c9 hf
              refine lv_aload (pc := 53) hx hb dX4_sign_53 (lv_at hl 1 rfl) ?_
              refine lv_iconst (pc := 55) (v := 1) hx hb dX4_sign_55 (by decide) ?_
              refine lv_iload_n (pc := 56) hx hb dX4_sign_56 rfl (lv_at hl 3 rfl) ?_
              refine lv_iload_n (pc := 57) hx hb dX4_sign_57 rfl (lv_at hl 5 rfl) ?_
              refine lv_aload_n (pc := 58) hx hb dX4_sign_58 rfl (lv_at hl 2 rfl) ?_
              refine g_get (pc := 59) (v := .int (σ0 1 0)) C h.1 0 (fkW_c0 ..) fl_X4_98 rfl dX4_sign_59 ?_
              obtain ⟨z5, hc5, hf⟩ := bdS hf
              obtain ⟨t6, _, hf⟩ := ltS hf
              cases hf
          · have hf := ifF c9 hf
            cases hf
            exact g_throw (pc := 38) (rest := []) C hl0 hex hX h tw_IllegalStateException (is := 112) (text := "the person cannot sign the slot now") (by decide +kernel) hl.1 dX4_sign_38 dX4_sign_41 dX4_sign_42 dX4_sign_44 dX4_sign_47 (Nat.le_of_ble_eq_true rfl) (Nat.le_of_ble_eq_true rfl) (Nat.le_of_ble_eq_true rfl) (Nat.le_of_ble_eq_true rfl) (Nat.le_of_ble_eq_true rfl) (Nat.le_of_ble_eq_true rfl)
end
