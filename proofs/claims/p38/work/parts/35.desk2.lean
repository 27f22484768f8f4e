section
variable {p : Program} {l : Launch} {e : Env} {R : Room} {s : State} {m : MethodId} {args : Array Value} {below : List Frame} {meth : Method} {c : Code} {Q : State → Prop}
variable {D : va_G} {cA : Nat → ClassId} {A : Nat → Prop} {n : Nat} {q0 : Nat → Nat} {q : Nat → Nat → Nat}
abbrev rm_X4_whyNot : Room := { frames := 2, cells := 0, slots := 0, locals := 47 }
def f_X4_whyNot (n : Nat) (σ0 : (Nat → Nat → Int32)) (σ : (Nat → Nat → Nat → Int32)) (x1 x2 x3 : Int32) : Option (String ⊕ (Int32)) := (xb (f_X4_refuseNoPerson x1) fun z1 => (xb (f_X4_envelopeAt n x2) fun z2 => (xb (f_X4_refuseNoSlot (σ z2) x3) fun z3 => ((f_X4_reasonFor σ0 (σ z2) x1 x3).bind fun z4 => (some (.inr z4))))))
set_option maxHeartbeats 400000 in
set_option maxRecDepth 100000 in
theorem k_X4_whyNot {n : Nat} (hn : n ≤ 6) {q0 : Nat → Nat} {q : Nat → Nat → Nat} {cA : Nat → ClassId} {D : va_G} (σ0 : (Nat → Nat → Int32)) (σ : (Nat → Nat → Nat → Int32)) (x1 x2 x3 : Int32) {z : Int32} (hf : f_X4_whyNot n σ0 σ x1 x2 x3 = some (.inr z)) : CtR yX4_whyNot cX4_whyNot 5 (some .int) rm_X4_whyNot [.ref (q0 0), .int x1, .int x2, .int x3] D cA (sW n q0 q cA σ0 σ) (some (.int z)) 0 0 := by
  refine ctR_of (by decide) (Nat.le_of_ble_eq_true rfl) ?_
  intro p l e s m below meth c ls C hr hnm h hl
  have C : Cx p s m _ meth c cX4_whyNot 5 RX4 D cA := C
  obtain ⟨hx, hb, hml, hown, hts, hK, hlk⟩ := id C
  replace hl : lv_has ls 5 [(0, .ref (q0 0)), (1, .int x1), (2, .int x2), (3, .int x3)] := hl
  rw [f_X4_whyNot] at hf
  refine lv_iload_n (pc := 0) hx hb dX4_whyNot_0 rfl (lv_at hl 1 rfl) ?_
  obtain ⟨z1, hc1, hf⟩ := xbR hf
  refine call_SRR (pc := 1) (As := [.int x1]) (rest := []) C h (k_X4_refuseNoPerson x1 hc1) cw_X4_47 [] rfl (by decide) rfl rfl hl.1 (Nat.le_of_ble_eq_true rfl) dX4_whyNot_1 ⟨Nat.le_of_ble_eq_true rfl, Nat.le_of_ble_eq_true rfl⟩ rfl rfl ⟨Nat.le_of_ble_eq_true rfl, Nat.le_of_ble_eq_true rfl⟩ (fun H locs h => ?_)
  refine W.eq (g2 := F0 m 4 ls []) rfl ?_
  refine lv_aload_n (pc := 4) hx hb dX4_whyNot_4 rfl (lv_at hl 0 rfl) ?_
  refine lv_iload_n (pc := 5) hx hb dX4_whyNot_5 rfl (lv_at hl 2 rfl) ?_
  obtain ⟨z2, hc2, hf⟩ := xbR hf
  refine call_VRR (pc := 6) (As := [.int x2]) (rest := []) C h (k_X4_envelopeAt hn (q0 := q0) (q := q) σ0 x2 hc2) cw_X4_43 0 (sW_c0 ..) rfl (List.range 13) (sW_f ..) (by decide) rfl rfl hl.1 (Nat.le_of_ble_eq_true rfl) dX4_whyNot_6 ⟨Nat.le_of_ble_eq_true rfl, Nat.le_of_ble_eq_true rfl⟩ rfl rfl ⟨Nat.le_of_ble_eq_true rfl, Nat.le_of_ble_eq_true rfl⟩ (fun H locs h => ?_)
  refine W.eq (g2 := F0 m 9 ls [.ref (q z2 0)]) rfl ?_
  have hk2 : z2 < n := envAt_lt hn hc2
  have h := SR_perm (foc_perm hk2 q0 q cA σ0 σ) h
  refine lv_astore (pc := 9) (lv' := [(4, .ref (q z2 0)), (0, .ref (q0 0)), (1, .int x1), (2, .int x2), (3, .int x3)]) hx hb dX4_whyNot_9 hl (by decide) rfl (fun ls hl => ?_)
  refine lv_aload (pc := 11) hx hb dX4_whyNot_11 (lv_at hl 0 rfl) ?_
  refine lv_iload_n (pc := 13) hx hb dX4_whyNot_13 rfl (lv_at hl 4 rfl) ?_
  obtain ⟨z3, hc3, hf⟩ := xbR hf
  refine call_SRR (pc := 14) (As := [.ref (q z2 0), .int x3]) (rest := []) C h (k_X4_refuseNoSlot (q := q z2) (σ z2) x3 hc3) cw_X4_104 [13, 14, 15, 16, 17, 18, 19, 20, 21, 22, 23, 24, 25, 26, 27, 28, 29, 30, 31, 32] (fkW_e ..) (by decide) rfl rfl hl.1 (Nat.le_of_ble_eq_true rfl) dX4_whyNot_14 ⟨Nat.le_of_ble_eq_true rfl, Nat.le_of_ble_eq_true rfl⟩ rfl rfl ⟨Nat.le_of_ble_eq_true rfl, Nat.le_of_ble_eq_true rfl⟩ (fun H locs h => ?_)
  refine W.eq (g2 := F0 m 17 ls []) rfl ?_
  refine lv_aload_n (pc := 17) hx hb dX4_whyNot_17 rfl (lv_at hl 1 rfl) ?_
  refine lv_iload_n (pc := 18) hx hb dX4_whyNot_18 rfl (lv_at hl 2 rfl) ?_
  refine lv_aload (pc := 19) hx hb dX4_whyNot_19 (lv_at hl 0 rfl) ?_
  refine lv_iload_n (pc := 21) hx hb dX4_whyNot_21 rfl (lv_at hl 4 rfl) ?_
  obtain ⟨z4, hc4, hf⟩ := bdS hf
  refine call_VRR (pc := 22) (As := [.int x1, .ref (q z2 0), .int x3]) (rest := []) C h (k_X4_reasonFor hn hk2 (q0 := q0) (q := q) σ0 (σ z2) x1 x3 hc4) cw_X4_108 0 (fkW_c0 ..) rfl (List.range 33) (fkW_re ..) (by decide) rfl rfl hl.1 (Nat.le_of_ble_eq_true rfl) dX4_whyNot_22 ⟨Nat.le_of_ble_eq_true rfl, Nat.le_of_ble_eq_true rfl⟩ rfl rfl ⟨Nat.le_of_ble_eq_true rfl, Nat.le_of_ble_eq_true rfl⟩ (fun H locs h => ?_)
  refine W.eq (g2 := F0 m 25 ls [.int z4]) rfl ?_
  cases hf
  exact ret_iR (pc := 25) C hr h dX4_whyNot_25
abbrev rmT_X4_whyNot : Room := { frames := 7, cells := 1, slots := 6, locals := 104 }
set_option maxHeartbeats 400000 in
set_option maxRecDepth 100000 in
theorem kT_X4_whyNot {n : Nat} (hn : n ≤ 6) {q0 : Nat → Nat} {q : Nat → Nat → Nat} {cA : Nat → ClassId} {D : va_G} (σ0 : (Nat → Nat → Int32)) (σ : (Nat → Nat → Nat → Int32)) (x1 x2 x3 : Int32) {E : String} (hf : f_X4_whyNot n σ0 σ x1 x2 x3 = some (.inl E)) : CtT yX4_whyNot cX4_whyNot 5 (some .int) rmT_X4_whyNot [.ref (q0 0), .int x1, .int x2, .int x3] D cA (sW n q0 q cA σ0 σ) E := by
  refine ctT_of (by decide) (Nat.le_of_ble_eq_true rfl) ?_
  intro p l e s m below meth c ls hl0 C hex hX h hl
  have C : Cx p s m _ meth c cX4_whyNot 5 RX4 D cA := C
  obtain ⟨hx, hb, hml, hown, hts, hK, hlk⟩ := id C
  replace hl : lv_has ls 5 [(0, .ref (q0 0)), (1, .int x1), (2, .int x2), (3, .int x3)] := hl
  rw [f_X4_whyNot] at hf
  refine lv_iload_n (pc := 0) hx hb dX4_whyNot_0 rfl (lv_at hl 1 rfl) ?_
  rcases xbT hf with hc0 | ⟨z1, hc1, hf⟩
  · exact call_TS (pc := 1) (As := [.int x1]) (rest := []) (Qc := QF) C hl0 hex hX h (kT_X4_refuseNoPerson x1 hc0) cw_X4_47 [] rfl (by decide) rfl rfl hl.1 (Nat.le_of_ble_eq_true rfl) dX4_whyNot_1 ⟨Nat.le_of_ble_eq_true rfl, Nat.le_of_ble_eq_true rfl⟩ rfl rfl ⟨Nat.le_of_ble_eq_true rfl, Nat.le_of_ble_eq_true rfl⟩
  · refine call_SRR (pc := 1) (As := [.int x1]) (rest := []) C h (k_X4_refuseNoPerson x1 hc1) cw_X4_47 [] rfl (by decide) rfl rfl hl.1 (Nat.le_of_ble_eq_true rfl) dX4_whyNot_1 ⟨Nat.le_of_ble_eq_true rfl, Nat.le_of_ble_eq_true rfl⟩ rfl rfl ⟨Nat.le_of_ble_eq_true rfl, Nat.le_of_ble_eq_true rfl⟩ (fun H locs h => ?_)
    refine W.eq (g2 := F0 m 4 ls []) rfl ?_
    refine lv_aload_n (pc := 4) hx hb dX4_whyNot_4 rfl (lv_at hl 0 rfl) ?_
    refine lv_iload_n (pc := 5) hx hb dX4_whyNot_5 rfl (lv_at hl 2 rfl) ?_
    rcases xbT hf with hc0 | ⟨z2, hc2, hf⟩
    · exact call_TV (pc := 6) (As := [.int x2]) (rest := []) (Qc := QF) C hl0 hex hX h (kT_X4_envelopeAt hn (q0 := q0) (q := q) σ0 x2 hc0) cw_X4_43 0 (sW_c0 ..) rfl (List.range 13) (sW_f ..) (by decide) rfl rfl hl.1 (Nat.le_of_ble_eq_true rfl) dX4_whyNot_6 ⟨Nat.le_of_ble_eq_true rfl, Nat.le_of_ble_eq_true rfl⟩ rfl rfl ⟨Nat.le_of_ble_eq_true rfl, Nat.le_of_ble_eq_true rfl⟩
    · refine call_VRR (pc := 6) (As := [.int x2]) (rest := []) C h (k_X4_envelopeAt hn (q0 := q0) (q := q) σ0 x2 hc2) cw_X4_43 0 (sW_c0 ..) rfl (List.range 13) (sW_f ..) (by decide) rfl rfl hl.1 (Nat.le_of_ble_eq_true rfl) dX4_whyNot_6 ⟨Nat.le_of_ble_eq_true rfl, Nat.le_of_ble_eq_true rfl⟩ rfl rfl ⟨Nat.le_of_ble_eq_true rfl, Nat.le_of_ble_eq_true rfl⟩ (fun H locs h => ?_)
      refine W.eq (g2 := F0 m 9 ls [.ref (q z2 0)]) rfl ?_
      have hk2 : z2 < n := envAt_lt hn hc2
      have h := SR_perm (foc_perm hk2 q0 q cA σ0 σ) h
      refine lv_astore (pc := 9) (lv' := [(4, .ref (q z2 0)), (0, .ref (q0 0)), (1, .int x1), (2, .int x2), (3, .int x3)]) hx hb dX4_whyNot_9 hl (by decide) rfl (fun ls hl => ?_)
      refine lv_aload (pc := 11) hx hb dX4_whyNot_11 (lv_at hl 0 rfl) ?_
      refine lv_iload_n (pc := 13) hx hb dX4_whyNot_13 rfl (lv_at hl 4 rfl) ?_
      rcases xbT hf with hc0 | ⟨z3, hc3, hf⟩
      · exact call_TS (pc := 14) (As := [.ref (q z2 0), .int x3]) (rest := []) (Qc := QF) C hl0 hex hX h (kT_X4_refuseNoSlot (q := q z2) (σ z2) x3 hc0) cw_X4_104 [13, 14, 15, 16, 17, 18, 19, 20, 21, 22, 23, 24, 25, 26, 27, 28, 29, 30, 31, 32] (fkW_e ..) (by decide) rfl rfl hl.1 (Nat.le_of_ble_eq_true rfl) dX4_whyNot_14 ⟨Nat.le_of_ble_eq_true rfl, Nat.le_of_ble_eq_true rfl⟩ rfl rfl ⟨Nat.le_of_ble_eq_true rfl, Nat.le_of_ble_eq_true rfl⟩
      · refine call_SRR (pc := 14) (As := [.ref (q z2 0), .int x3]) (rest := []) C h (k_X4_refuseNoSlot (q := q z2) (σ z2) x3 hc3) cw_X4_104 [13, 14, 15, 16, 17, 18, 19, 20, 21, 22, 23, 24, 25, 26, 27, 28, 29, 30, 31, 32] (fkW_e ..) (by decide) rfl rfl hl.1 (Nat.le_of_ble_eq_true rfl) dX4_whyNot_14 ⟨Nat.le_of_ble_eq_true rfl, Nat.le_of_ble_eq_true rfl⟩ rfl rfl ⟨Nat.le_of_ble_eq_true rfl, Nat.le_of_ble_eq_true rfl⟩ (fun H locs h => ?_)
        refine W.eq (g2 := F0 m 17 ls []) rfl ?_
        refine lv_aload_n (pc := 17) hx hb dX4_whyNot_17 rfl (lv_at hl 1 rfl) ?_
        refine lv_iload_n (pc := 18) hx hb dX4_whyNot_18 rfl (lv_at hl 2 rfl) ?_
        refine lv_aload (pc := 19) hx hb dX4_whyNot_19 (lv_at hl 0 rfl) ?_
        refine lv_iload_n (pc := 21) hx hb dX4_whyNot_21 rfl (lv_at hl 4 rfl) ?_
        obtain ⟨z4, hc4, hf⟩ := bdS hf
        refine call_VRR (pc := 22) (As := [.int x1, .ref (q z2 0), .int x3]) (rest := []) C h (k_X4_reasonFor hn hk2 (q0 := q0) (q := q) σ0 (σ z2) x1 x3 hc4) cw_X4_108 0 (fkW_c0 ..) rfl (List.range 33) (fkW_re ..) (by decide) rfl rfl hl.1 (Nat.le_of_ble_eq_true rfl) dX4_whyNot_22 ⟨Nat.le_of_ble_eq_true rfl, Nat.le_of_ble_eq_true rfl⟩ rfl rfl ⟨Nat.le_of_ble_eq_true rfl, Nat.le_of_ble_eq_true rfl⟩ (fun H locs h => ?_)
        refine W.eq (g2 := F0 m 25 ls [.int z4]) rfl ?_
        cases hf
abbrev rm_X4_decline : Room := { frames := 3, cells := 0, slots := 0, locals := 71 }
def f_X4_decline (n : Nat) (σ0 : (Nat → Nat → Int32)) (σ : (Nat → Nat → Nat → Int32)) (x1 x2 x3 : Int32) : Option (String ⊕ (Int32 × (Nat → Nat → Int32) × (Nat → Nat → Nat → Int32))) := (xb (f_X4_refuseNoPerson x1) fun z1 => (xb (f_X4_envelopeAt n x2) fun z2 => (xb (f_X4_refuseNoSlot (σ z2) x3) fun z3 => ((f_X4_reasonFor σ0 (σ z2) x1 x3).bind fun z4 => (if z4 = 0 then (lt (f_X0_finish (σ z2) (3 : Int32) (3 : Int32) x1 x3 (σ0 1 0)).2 fun t6 => (some (.inr ((f_X0_finish (σ z2) (3 : Int32) (3 : Int32) x1 x3 (σ0 1 0)).1, (σ0, va_up σ z2 t6))))) else (some (.inl "java/lang/IllegalStateException")))))))
set_option maxHeartbeats 400000 in
set_option maxRecDepth 100000 in
theorem k_X4_decline {n : Nat} (hn : n ≤ 6) {q0 : Nat → Nat} {q : Nat → Nat → Nat} {cA : Nat → ClassId} {D : va_G} (σ0 : (Nat → Nat → Int32)) (σ : (Nat → Nat → Nat → Int32)) (x1 x2 x3 : Int32) {z : Int32 × (Nat → Nat → Int32) × (Nat → Nat → Nat → Int32)} (hf : f_X4_decline n σ0 σ x1 x2 x3 = some (.inr z)) : CtU yX4_decline cX4_decline 5 (some .int) rm_X4_decline [.ref (q0 0), .int x1, .int x2, .int x3] D cA (sW n q0 q cA σ0 σ) (sW n q0 q cA z.2.1 z.2.2) (some (.int z.1)) 0 0 := by
  refine ctU_of (by decide) (Nat.le_of_ble_eq_true rfl) ?_
  intro p l e s m below meth c ls C hr hnm h hl
  have C : Cx p s m _ meth c cX4_decline 5 RX4 D cA := C
  obtain ⟨hx, hb, hml, hown, hts, hK, hlk⟩ := id C
  replace hl : lv_has ls 5 [(0, .ref (q0 0)), (1, .int x1), (2, .int x2), (3, .int x3)] := hl
  rw [f_X4_decline] at hf
  refine lv_iload_n (pc := 0) hx hb dX4_decline_0 rfl (lv_at hl 1 rfl) ?_
  obtain ⟨z1, hc1, hf⟩ := xbR hf
  refine call_SR (pc := 1) (As := [.int x1]) (rest := []) C h (k_X4_refuseNoPerson x1 hc1) cw_X4_47 [] rfl (by decide) rfl rfl hl.1 (Nat.le_of_ble_eq_true rfl) dX4_decline_1 ⟨Nat.le_of_ble_eq_true rfl, Nat.le_of_ble_eq_true rfl⟩ rfl rfl ⟨Nat.le_of_ble_eq_true rfl, Nat.le_of_ble_eq_true rfl⟩ (fun H locs h => ?_)
  refine W.eq (g2 := F0 m 4 ls []) rfl ?_
  refine lv_aload_n (pc := 4) hx hb dX4_decline_4 rfl (lv_at hl 0 rfl) ?_
  refine lv_iload_n (pc := 5) hx hb dX4_decline_5 rfl (lv_at hl 2 rfl) ?_
  obtain ⟨z2, hc2, hf⟩ := xbR hf
  refine call_VR (pc := 6) (As := [.int x2]) (rest := []) C h (k_X4_envelopeAt hn (q0 := q0) (q := q) σ0 x2 hc2) cw_X4_43 0 (sW_c0 ..) rfl (List.range 13) (sW_f ..) (by decide) rfl rfl hl.1 (Nat.le_of_ble_eq_true rfl) dX4_decline_6 ⟨Nat.le_of_ble_eq_true rfl, Nat.le_of_ble_eq_true rfl⟩ rfl rfl ⟨Nat.le_of_ble_eq_true rfl, Nat.le_of_ble_eq_true rfl⟩ (fun H locs h => ?_)
  refine W.eq (g2 := F0 m 9 ls [.ref (q z2 0)]) rfl ?_
  have hk2 : z2 < n := envAt_lt hn hc2
  have h := St_perm (foc_perm hk2 q0 q cA σ0 σ) h
  refine lv_astore (pc := 9) (lv' := [(4, .ref (q z2 0)), (0, .ref (q0 0)), (1, .int x1), (2, .int x2), (3, .int x3)]) hx hb dX4_decline_9 hl (by decide) rfl (fun ls hl => ?_)
  refine lv_aload (pc := 11) hx hb dX4_decline_11 (lv_at hl 0 rfl) ?_
  refine lv_iload_n (pc := 13) hx hb dX4_decline_13 rfl (lv_at hl 4 rfl) ?_
  obtain ⟨z3, hc3, hf⟩ := xbR hf
  refine call_SR (pc := 14) (As := [.ref (q z2 0), .int x3]) (rest := []) C h (k_X4_refuseNoSlot (q := q z2) (σ z2) x3 hc3) cw_X4_104 [13, 14, 15, 16, 17, 18, 19, 20, 21, 22, 23, 24, 25, 26, 27, 28, 29, 30, 31, 32] (fkW_e ..) (by decide) rfl rfl hl.1 (Nat.le_of_ble_eq_true rfl) dX4_decline_14 ⟨Nat.le_of_ble_eq_true rfl, Nat.le_of_ble_eq_true rfl⟩ rfl rfl ⟨Nat.le_of_ble_eq_true rfl, Nat.le_of_ble_eq_true rfl⟩ (fun H locs h => ?_)
  refine W.eq (g2 := F0 m 17 ls []) rfl ?_
  refine lv_aload_n (pc := 17) hx hb dX4_decline_17 rfl (lv_at hl 1 rfl) ?_
  refine lv_iload_n (pc := 18) hx hb dX4_decline_18 rfl (lv_at hl 2 rfl) ?_
  refine lv_aload (pc := 19) hx hb dX4_decline_19 (lv_at hl 0 rfl) ?_
  refine lv_iload_n (pc := 21) hx hb dX4_decline_21 rfl (lv_at hl 4 rfl) ?_
  obtain ⟨z4, hc4, hf⟩ := bdS hf
  refine call_VR (pc := 22) (As := [.int x1, .ref (q z2 0), .int x3]) (rest := []) C h (k_X4_reasonFor hn hk2 (q0 := q0) (q := q) σ0 (σ z2) x1 x3 hc4) cw_X4_108 0 (fkW_c0 ..) rfl (List.range 33) (fkW_re ..) (by decide) rfl rfl hl.1 (Nat.le_of_ble_eq_true rfl) dX4_decline_22 ⟨Nat.le_of_ble_eq_true rfl, Nat.le_of_ble_eq_true rfl⟩ rfl rfl ⟨Nat.le_of_ble_eq_true rfl, Nat.le_of_ble_eq_true rfl⟩ (fun H locs h => ?_)
  refine W.eq (g2 := F0 m 25 ls [.int z4]) rfl ?_
  refine lv_if_eq (pc := 25) (tgt := 38) hx hb dX4_decline_25 (by decide) (fun c9 => ?_) (fun c9 => ?_)
  · have hf := ifT c9 hf
    refine lv_aload (pc := 38) hx hb dX4_decline_38 (lv_at hl 0 rfl) ?_
    refine lv_iconst (pc := 40) (v := 3) hx hb dX4_decline_40 (by decide) ?_
    refine lv_iconst (pc := 41) (v := 3) hx hb dX4_decline_41 (by decide) ?_
    refine lv_iload_n (pc := 42) hx hb dX4_decline_42 rfl (lv_at hl 2 rfl) ?_
    refine lv_iload_n (pc := 43) hx hb dX4_decline_43 rfl (lv_at hl 4 rfl) ?_
    refine lv_aload_n (pc := 44) hx hb dX4_decline_44 rfl (lv_at hl 1 rfl) ?_
    refine g_get (pc := 45) (v := .int (σ0 1 0)) C h.1 0 (fkW_c0 ..) fl_X4_98 rfl dX4_decline_45 ?_
    obtain ⟨t6, et6, hf⟩ := ltS hf
    refine call_VU (pc := 48) (As := [.int (3 : Int32), .int (3 : Int32), .int x1, .int x3, .int (σ0 1 0)]) (rest := []) (ws' := (fkW n z2 q0 q cA σ0 t6 σ)) C h (k_X0_finish (q := q z2) (σ z2) (3 : Int32) (3 : Int32) x1 x3 (σ0 1 0) rfl) cw_X4_133 13 (fkW_c13 ..) rfl [13, 14, 15, 16, 17, 18, 19, 20, 21, 22, 23, 24, 25, 26, 27, 28, 29, 30, 31, 32] (fkW_e ..) (by decide) (eW_fst _ _ _ _) ((fkW_ep ..).trans (congrArg (fun w => fkW n z2 q0 q cA σ0 w σ) et6.symm)) rfl rfl hl.1 (Nat.le_of_ble_eq_true rfl) dX4_decline_48 ⟨Nat.le_of_ble_eq_true rfl, Nat.le_of_ble_eq_true rfl⟩ rfl rfl ⟨Nat.le_of_ble_eq_true rfl, Nat.le_of_ble_eq_true rfl⟩ (fun H locs h => ?_)
    refine W.eq (g2 := F0 m 51 ls [.int (f_X0_finish (σ z2) (3 : Int32) (3 : Int32) x1 x3 (σ0 1 0)).1]) rfl ?_
    cases hf
    have h := St_perm (unf_perm hk2 q0 q cA σ0 t6 σ) h
    exact ret_iU (pc := 51) C hr h dX4_decline_51
  · have hf := ifF c9 hf
    cases hf
abbrev rmT_X4_decline : Room := { frames := 7, cells := 1, slots := 6, locals := 104 }
set_option maxHeartbeats 400000 in
set_option maxRecDepth 100000 in
theorem kT_X4_decline {n : Nat} (hn : n ≤ 6) {q0 : Nat → Nat} {q : Nat → Nat → Nat} {cA : Nat → ClassId} {D : va_G} (σ0 : (Nat → Nat → Int32)) (σ : (Nat → Nat → Nat → Int32)) (x1 x2 x3 : Int32) {E : String} (hf : f_X4_decline n σ0 σ x1 x2 x3 = some (.inl E)) : CtT yX4_decline cX4_decline 5 (some .int) rmT_X4_decline [.ref (q0 0), .int x1, .int x2, .int x3] D cA (sW n q0 q cA σ0 σ) E := by
  refine ctT_of (by decide) (Nat.le_of_ble_eq_true rfl) ?_
  intro p l e s m below meth c ls hl0 C hex hX h hl
  have C : Cx p s m _ meth c cX4_decline 5 RX4 D cA := C
  obtain ⟨hx, hb, hml, hown, hts, hK, hlk⟩ := id C
  replace hl : lv_has ls 5 [(0, .ref (q0 0)), (1, .int x1), (2, .int x2), (3, .int x3)] := hl
  rw [f_X4_decline] at hf
  refine lv_iload_n (pc := 0) hx hb dX4_decline_0 rfl (lv_at hl 1 rfl) ?_
  rcases xbT hf with hc0 | ⟨z1, hc1, hf⟩
  · exact call_TS (pc := 1) (As := [.int x1]) (rest := []) (Qc := QF) C hl0 hex hX h (kT_X4_refuseNoPerson x1 hc0) cw_X4_47 [] rfl (by decide) rfl rfl hl.1 (Nat.le_of_ble_eq_true rfl) dX4_decline_1 ⟨Nat.le_of_ble_eq_true rfl, Nat.le_of_ble_eq_true rfl⟩ rfl rfl ⟨Nat.le_of_ble_eq_true rfl, Nat.le_of_ble_eq_true rfl⟩
  · refine call_SRR (pc := 1) (As := [.int x1]) (rest := []) C h (k_X4_refuseNoPerson x1 hc1) cw_X4_47 [] rfl (by decide) rfl rfl hl.1 (Nat.le_of_ble_eq_true rfl) dX4_decline_1 ⟨Nat.le_of_ble_eq_true rfl, Nat.le_of_ble_eq_true rfl⟩ rfl rfl ⟨Nat.le_of_ble_eq_true rfl, Nat.le_of_ble_eq_true rfl⟩ (fun H locs h => ?_)
    refine W.eq (g2 := F0 m 4 ls []) rfl ?_
    refine lv_aload_n (pc := 4) hx hb dX4_decline_4 rfl (lv_at hl 0 rfl) ?_
    refine lv_iload_n (pc := 5) hx hb dX4_decline_5 rfl (lv_at hl 2 rfl) ?_
    rcases xbT hf with hc0 | ⟨z2, hc2, hf⟩
    · exact call_TV (pc := 6) (As := [.int x2]) (rest := []) (Qc := QF) C hl0 hex hX h (kT_X4_envelopeAt hn (q0 := q0) (q := q) σ0 x2 hc0) cw_X4_43 0 (sW_c0 ..) rfl (List.range 13) (sW_f ..) (by decide) rfl rfl hl.1 (Nat.le_of_ble_eq_true rfl) dX4_decline_6 ⟨Nat.le_of_ble_eq_true rfl, Nat.le_of_ble_eq_true rfl⟩ rfl rfl ⟨Nat.le_of_ble_eq_true rfl, Nat.le_of_ble_eq_true rfl⟩
    · refine call_VRR (pc := 6) (As := [.int x2]) (rest := []) C h (k_X4_envelopeAt hn (q0 := q0) (q := q) σ0 x2 hc2) cw_X4_43 0 (sW_c0 ..) rfl (List.range 13) (sW_f ..) (by decide) rfl rfl hl.1 (Nat.le_of_ble_eq_true rfl) dX4_decline_6 ⟨Nat.le_of_ble_eq_true rfl, Nat.le_of_ble_eq_true rfl⟩ rfl rfl ⟨Nat.le_of_ble_eq_true rfl, Nat.le_of_ble_eq_true rfl⟩ (fun H locs h => ?_)
      refine W.eq (g2 := F0 m 9 ls [.ref (q z2 0)]) rfl ?_
      have hk2 : z2 < n := envAt_lt hn hc2
      have h := SR_perm (foc_perm hk2 q0 q cA σ0 σ) h
      refine lv_astore (pc := 9) (lv' := [(4, .ref (q z2 0)), (0, .ref (q0 0)), (1, .int x1), (2, .int x2), (3, .int x3)]) hx hb dX4_decline_9 hl (by decide) rfl (fun ls hl => ?_)
      refine lv_aload (pc := 11) hx hb dX4_decline_11 (lv_at hl 0 rfl) ?_
      refine lv_iload_n (pc := 13) hx hb dX4_decline_13 rfl (lv_at hl 4 rfl) ?_
      rcases xbT hf with hc0 | ⟨z3, hc3, hf⟩
      · exact call_TS (pc := 14) (As := [.ref (q z2 0), .int x3]) (rest := []) (Qc := QF) C hl0 hex hX h (kT_X4_refuseNoSlot (q := q z2) (σ z2) x3 hc0) cw_X4_104 [13, 14, 15, 16, 17, 18, 19, 20, 21, 22, 23, 24, 25, 26, 27, 28, 29, 30, 31, 32] (fkW_e ..) (by decide) rfl rfl hl.1 (Nat.le_of_ble_eq_true rfl) dX4_decline_14 ⟨Nat.le_of_ble_eq_true rfl, Nat.le_of_ble_eq_true rfl⟩ rfl rfl ⟨Nat.le_of_ble_eq_true rfl, Nat.le_of_ble_eq_true rfl⟩
      · refine call_SRR (pc := 14) (As := [.ref (q z2 0), .int x3]) (rest := []) C h (k_X4_refuseNoSlot (q := q z2) (σ z2) x3 hc3) cw_X4_104 [13, 14, 15, 16, 17, 18, 19, 20, 21, 22, 23, 24, 25, 26, 27, 28, 29, 30, 31, 32] (fkW_e ..) (by decide) rfl rfl hl.1 (Nat.le_of_ble_eq_true rfl) dX4_decline_14 ⟨Nat.le_of_ble_eq_true rfl, Nat.le_of_ble_eq_true rfl⟩ rfl rfl ⟨Nat.le_of_ble_eq_true rfl, Nat.le_of_ble_eq_true rfl⟩ (fun H locs h => ?_)
        refine W.eq (g2 := F0 m 17 ls []) rfl ?_
        refine lv_aload_n (pc := 17) hx hb dX4_decline_17 rfl (lv_at hl 1 rfl) ?_
        refine lv_iload_n (pc := 18) hx hb dX4_decline_18 rfl (lv_at hl 2 rfl) ?_
        refine lv_aload (pc := 19) hx hb dX4_decline_19 (lv_at hl 0 rfl) ?_
        refine lv_iload_n (pc := 21) hx hb dX4_decline_21 rfl (lv_at hl 4 rfl) ?_
        obtain ⟨z4, hc4, hf⟩ := bdS hf
        refine call_VRR (pc := 22) (As := [.int x1, .ref (q z2 0), .int x3]) (rest := []) C h (k_X4_reasonFor hn hk2 (q0 := q0) (q := q) σ0 (σ z2) x1 x3 hc4) cw_X4_108 0 (fkW_c0 ..) rfl (List.range 33) (fkW_re ..) (by decide) rfl rfl hl.1 (Nat.le_of_ble_eq_true rfl) dX4_decline_22 ⟨Nat.le_of_ble_eq_true rfl, Nat.le_of_ble_eq_true rfl⟩ rfl rfl ⟨Nat.le_of_ble_eq_true rfl, Nat.le_of_ble_eq_true rfl⟩ (fun H locs h => ?_)
        refine W.eq (g2 := F0 m 25 ls [.int z4]) rfl ?_
        refine lv_if_eq (pc := 25) (tgt := 38) hx hb dX4_decline_25 (by decide) (fun c9 => ?_) (fun c9 => ?_)
        · have hf := ifT c9 hf
          refine lv_aload (pc := 38) hx hb dX4_decline_38 (lv_at hl 0 rfl) ?_
          refine lv_iconst (pc := 40) (v := 3) hx hb dX4_decline_40 (by decide) ?_
          refine lv_iconst (pc := 41) (v := 3) hx hb dX4_decline_41 (by decide) ?_
          refine lv_iload_n (pc := 42) hx hb dX4_decline_42 rfl (lv_at hl 2 rfl) ?_
          refine lv_iload_n (pc := 43) hx hb dX4_decline_43 rfl (lv_at hl 4 rfl) ?_
          refine lv_aload_n (pc := 44) hx hb dX4_decline_44 rfl (lv_at hl 1 rfl) ?_
          refine g_get (pc := 45) (v := .int (σ0 1 0)) C h.1 0 (fkW_c0 ..) fl_X4_98 rfl dX4_decline_45 ?_
          obtain ⟨t6, _, hf⟩ := ltS hf
          cases hf
        · have hf := ifF c9 hf
          cases hf
          exact g_throw (pc := 28) (rest := []) C hl0 hex hX h tw_IllegalStateException (is := 131) (text := "the person cannot decline the slot now") (by decide +kernel) hl.1 dX4_decline_28 dX4_decline_31 dX4_decline_32 dX4_decline_34 dX4_decline_37 (Nat.le_of_ble_eq_true rfl) (Nat.le_of_ble_eq_true rfl) (Nat.le_of_ble_eq_true rfl) (Nat.le_of_ble_eq_true rfl) (Nat.le_of_ble_eq_true rfl) (Nat.le_of_ble_eq_true rfl)
abbrev rm_X4_cancel : Room := { frames := 3, cells := 0, slots := 0, locals := 71 }
def f_X4_cancel (n : Nat) (σ0 : (Nat → Nat → Int32)) (σ : (Nat → Nat → Nat → Int32)) (x1 : Int32) : Option (String ⊕ (Int32 × (Nat → Nat → Int32) × (Nat → Nat → Nat → Int32))) := (xb (f_X4_envelopeAt n x1) fun z1 => (if ((σ z1) 11 0) = (1 : Int32) then (lt (f_X0_finish (σ z1) (4 : Int32) (4 : Int32) (-1 : Int32) (-1 : Int32) (σ0 1 0)).2 fun t3 => (some (.inr ((f_X0_finish (σ z1) (4 : Int32) (4 : Int32) (-1 : Int32) (-1 : Int32) (σ0 1 0)).1, (σ0, va_up σ z1 t3))))) else (some (.inl "java/lang/IllegalStateException"))))
set_option maxHeartbeats 400000 in
set_option maxRecDepth 100000 in
theorem k_X4_cancel {n : Nat} (hn : n ≤ 6) {q0 : Nat → Nat} {q : Nat → Nat → Nat} {cA : Nat → ClassId} {D : va_G} (σ0 : (Nat → Nat → Int32)) (σ : (Nat → Nat → Nat → Int32)) (x1 : Int32) {z : Int32 × (Nat → Nat → Int32) × (Nat → Nat → Nat → Int32)} (hf : f_X4_cancel n σ0 σ x1 = some (.inr z)) : CtU yX4_cancel cX4_cancel 3 (some .int) rm_X4_cancel [.ref (q0 0), .int x1] D cA (sW n q0 q cA σ0 σ) (sW n q0 q cA z.2.1 z.2.2) (some (.int z.1)) 0 0 := by
  refine ctU_of (by decide) (Nat.le_of_ble_eq_true rfl) ?_
  intro p l e s m below meth c ls C hr hnm h hl
  have C : Cx p s m _ meth c cX4_cancel 3 RX4 D cA := C
  obtain ⟨hx, hb, hml, hown, hts, hK, hlk⟩ := id C
  replace hl : lv_has ls 3 [(0, .ref (q0 0)), (1, .int x1)] := hl
  rw [f_X4_cancel] at hf
  refine lv_aload_n (pc := 0) hx hb dX4_cancel_0 rfl (lv_at hl 0 rfl) ?_
  refine lv_iload_n (pc := 1) hx hb dX4_cancel_1 rfl (lv_at hl 1 rfl) ?_
  obtain ⟨z1, hc1, hf⟩ := xbR hf
  refine call_VR (pc := 2) (As := [.int x1]) (rest := []) C h (k_X4_envelopeAt hn (q0 := q0) (q := q) σ0 x1 hc1) cw_X4_43 0 (sW_c0 ..) rfl (List.range 13) (sW_f ..) (by decide) rfl rfl hl.1 (Nat.le_of_ble_eq_true rfl) dX4_cancel_2 ⟨Nat.le_of_ble_eq_true rfl, Nat.le_of_ble_eq_true rfl⟩ rfl rfl ⟨Nat.le_of_ble_eq_true rfl, Nat.le_of_ble_eq_true rfl⟩ (fun H locs h => ?_)
  refine W.eq (g2 := F0 m 5 ls [.ref (q z1 0)]) rfl ?_
  have hk1 : z1 < n := envAt_lt hn hc1
  have h := St_perm (foc_perm hk1 q0 q cA σ0 σ) h
  refine lv_astore_n (pc := 5) (lv' := [(2, .ref (q z1 0)), (0, .ref (q0 0)), (1, .int x1)]) hx hb dX4_cancel_5 rfl hl (by decide) rfl (fun ls hl => ?_)
  refine lv_aload_n (pc := 6) hx hb dX4_cancel_6 rfl (lv_at hl 0 rfl) ?_
  refine g_get (pc := 7) (v := .int ((σ z1) 11 0)) C h.1 13 (fkW_c13 ..) fl_X4_137 rfl dX4_cancel_7 ?_
  refine lv_iconst (pc := 10) (v := 1) hx hb dX4_cancel_10 (by decide) ?_
  refine lv_icmp_eq (pc := 11) (tgt := 24) hx hb dX4_cancel_11 (by decide) (fun c9 => ?_) (fun c9 => ?_)
  · have hf := ifT c9 hf
    refine lv_aload_n (pc := 24) hx hb dX4_cancel_24 rfl (lv_at hl 0 rfl) ?_
    refine lv_iconst (pc := 25) (v := 4) hx hb dX4_cancel_25 (by decide) ?_
    refine lv_iconst (pc := 26) (v := 4) hx hb dX4_cancel_26 (by decide) ?_
    refine lv_iconst (pc := 27) (v := -1) hx hb dX4_cancel_27 (by decide) ?_
    refine lv_iconst (pc := 28) (v := -1) hx hb dX4_cancel_28 (by decide) ?_
    refine lv_aload_n (pc := 29) hx hb dX4_cancel_29 rfl (lv_at hl 1 rfl) ?_
    refine g_get (pc := 30) (v := .int (σ0 1 0)) C h.1 0 (fkW_c0 ..) fl_X4_98 rfl dX4_cancel_30 ?_
    obtain ⟨t3, et3, hf⟩ := ltS hf
    refine call_VU (pc := 33) (As := [.int (4 : Int32), .int (4 : Int32), .int (-1 : Int32), .int (-1 : Int32), .int (σ0 1 0)]) (rest := []) (ws' := (fkW n z1 q0 q cA σ0 t3 σ)) C h (k_X0_finish (q := q z1) (σ z1) (4 : Int32) (4 : Int32) (-1 : Int32) (-1 : Int32) (σ0 1 0) rfl) cw_X4_133 13 (fkW_c13 ..) rfl [13, 14, 15, 16, 17, 18, 19, 20, 21, 22, 23, 24, 25, 26, 27, 28, 29, 30, 31, 32] (fkW_e ..) (by decide) (eW_fst _ _ _ _) ((fkW_ep ..).trans (congrArg (fun w => fkW n z1 q0 q cA σ0 w σ) et3.symm)) rfl rfl hl.1 (Nat.le_of_ble_eq_true rfl) dX4_cancel_33 ⟨Nat.le_of_ble_eq_true rfl, Nat.le_of_ble_eq_true rfl⟩ rfl rfl ⟨Nat.le_of_ble_eq_true rfl, Nat.le_of_ble_eq_true rfl⟩ (fun H locs h => ?_)
    refine W.eq (g2 := F0 m 36 ls [.int (f_X0_finish (σ z1) (4 : Int32) (4 : Int32) (-1 : Int32) (-1 : Int32) (σ0 1 0)).1]) rfl ?_
    cases hf
    have h := St_perm (unf_perm hk1 q0 q cA σ0 t3 σ) h
    exact ret_iU (pc := 36) C hr h dX4_cancel_36
  · have hf := ifF c9 hf
    cases hf
abbrev rmT_X4_cancel : Room := { frames := 7, cells := 1, slots := 6, locals := 104 }
set_option maxHeartbeats 400000 in
set_option maxRecDepth 100000 in
theorem kT_X4_cancel {n : Nat} (hn : n ≤ 6) {q0 : Nat → Nat} {q : Nat → Nat → Nat} {cA : Nat → ClassId} {D : va_G} (σ0 : (Nat → Nat → Int32)) (σ : (Nat → Nat → Nat → Int32)) (x1 : Int32) {E : String} (hf : f_X4_cancel n σ0 σ x1 = some (.inl E)) : CtT yX4_cancel cX4_cancel 3 (some .int) rmT_X4_cancel [.ref (q0 0), .int x1] D cA (sW n q0 q cA σ0 σ) E := by
  refine ctT_of (by decide) (Nat.le_of_ble_eq_true rfl) ?_
  intro p l e s m below meth c ls hl0 C hex hX h hl
  have C : Cx p s m _ meth c cX4_cancel 3 RX4 D cA := C
  obtain ⟨hx, hb, hml, hown, hts, hK, hlk⟩ := id C
  replace hl : lv_has ls 3 [(0, .ref (q0 0)), (1, .int x1)] := hl
  rw [f_X4_cancel] at hf
  refine lv_aload_n (pc := 0) hx hb dX4_cancel_0 rfl (lv_at hl 0 rfl) ?_
  refine lv_iload_n (pc := 1) hx hb dX4_cancel_1 rfl (lv_at hl 1 rfl) ?_
  rcases xbT hf with hc0 | ⟨z1, hc1, hf⟩
  · exact call_TV (pc := 2) (As := [.int x1]) (rest := []) (Qc := QF) C hl0 hex hX h (kT_X4_envelopeAt hn (q0 := q0) (q := q) σ0 x1 hc0) cw_X4_43 0 (sW_c0 ..) rfl (List.range 13) (sW_f ..) (by decide) rfl rfl hl.1 (Nat.le_of_ble_eq_true rfl) dX4_cancel_2 ⟨Nat.le_of_ble_eq_true rfl, Nat.le_of_ble_eq_true rfl⟩ rfl rfl ⟨Nat.le_of_ble_eq_true rfl, Nat.le_of_ble_eq_true rfl⟩
  · refine call_VRR (pc := 2) (As := [.int x1]) (rest := []) C h (k_X4_envelopeAt hn (q0 := q0) (q := q) σ0 x1 hc1) cw_X4_43 0 (sW_c0 ..) rfl (List.range 13) (sW_f ..) (by decide) rfl rfl hl.1 (Nat.le_of_ble_eq_true rfl) dX4_cancel_2 ⟨Nat.le_of_ble_eq_true rfl, Nat.le_of_ble_eq_true rfl⟩ rfl rfl ⟨Nat.le_of_ble_eq_true rfl, Nat.le_of_ble_eq_true rfl⟩ (fun H locs h => ?_)
    refine W.eq (g2 := F0 m 5 ls [.ref (q z1 0)]) rfl ?_
    have hk1 : z1 < n := envAt_lt hn hc1
    have h := SR_perm (foc_perm hk1 q0 q cA σ0 σ) h
    refine lv_astore_n (pc := 5) (lv' := [(2, .ref (q z1 0)), (0, .ref (q0 0)), (1, .int x1)]) hx hb dX4_cancel_5 rfl hl (by decide) rfl (fun ls hl => ?_)
    refine lv_aload_n (pc := 6) hx hb dX4_cancel_6 rfl (lv_at hl 0 rfl) ?_
    refine g_get (pc := 7) (v := .int ((σ z1) 11 0)) C h.1 13 (fkW_c13 ..) fl_X4_137 rfl dX4_cancel_7 ?_
    refine lv_iconst (pc := 10) (v := 1) hx hb dX4_cancel_10 (by decide) ?_
    refine lv_icmp_eq (pc := 11) (tgt := 24) hx hb dX4_cancel_11 (by decide) (fun c9 => ?_) (fun c9 => ?_)
    · have hf := ifT c9 hf
      refine lv_aload_n (pc := 24) hx hb dX4_cancel_24 rfl (lv_at hl 0 rfl) ?_
      refine lv_iconst (pc := 25) (v := 4) hx hb dX4_cancel_25 (by decide) ?_
      refine lv_iconst (pc := 26) (v := 4) hx hb dX4_cancel_26 (by decide) ?_
      refine lv_iconst (pc := 27) (v := -1) hx hb dX4_cancel_27 (by decide) ?_
      refine lv_iconst (pc := 28) (v := -1) hx hb dX4_cancel_28 (by decide) ?_
      refine lv_aload_n (pc := 29) hx hb dX4_cancel_29 rfl (lv_at hl 1 rfl) ?_
      refine g_get (pc := 30) (v := .int (σ0 1 0)) C h.1 0 (fkW_c0 ..) fl_X4_98 rfl dX4_cancel_30 ?_
      obtain ⟨t3, _, hf⟩ := ltS hf
      cases hf
    · have hf := ifF c9 hf
      cases hf
      exact g_throw (pc := 14) (rest := []) C hl0 hex hX h tw_IllegalStateException (is := 140) (text := "the envelope is not sent") (by decide +kernel) hl.1 dX4_cancel_14 dX4_cancel_17 dX4_cancel_18 dX4_cancel_20 dX4_cancel_23 (Nat.le_of_ble_eq_true rfl) (Nat.le_of_ble_eq_true rfl) (Nat.le_of_ble_eq_true rfl) (Nat.le_of_ble_eq_true rfl) (Nat.le_of_ble_eq_true rfl) (Nat.le_of_ble_eq_true rfl)
abbrev rm_X4_delegate : Room := { frames := 1, cells := 0, slots := 0, locals := 22 }
def f_X4_delegate (n : Nat) (σ0 : (Nat → Nat → Int32)) (σ : (Nat → Nat → Nat → Int32)) (x1 x2 x3 x4 x5 : Int32) : Option (String ⊕ (Int32 × (Nat → Nat → Int32) × (Nat → Nat → Nat → Int32))) := (xb (f_X4_standinOf x1) fun z1 => (xb (f_X4_refuseNoPerson x2) fun z2 => (if x1 = x2 then (some (.inl "java/lang/IllegalArgumentException")) else (if x3 < (σ0 1 0) then (some (.inl "java/lang/IllegalArgumentException")) else (if x3 ≤ x4 then (if x5 < (1 : Int32) then (some (.inl "java/lang/IllegalArgumentException")) else (if x5 ≤ (9 : Int32) then (lt (va_up σ0 (3 + z1) (upd (σ0 (3 + z1)) 0 x2)) fun t3 => (lt (va_up t3 (3 + z1) (upd (t3 (3 + z1)) 1 x3)) fun t4 => (lt (va_up t4 (3 + z1) (upd (t4 (3 + z1)) 2 x4)) fun t5 => (lt (va_up t5 (3 + z1) (upd (t5 (3 + z1)) 3 x5)) fun t6 => (some (.inr ((σ0 (3 + z1) 0), (t6, σ)))))))) else (some (.inl "java/lang/IllegalArgumentException")))) else (some (.inl "java/lang/IllegalArgumentException")))))))
set_option maxHeartbeats 400000 in
set_option maxRecDepth 100000 in
theorem k_X4_delegate {n : Nat} (hn : n ≤ 6) {q0 : Nat → Nat} {q : Nat → Nat → Nat} {cA : Nat → ClassId} {D : va_G} (σ0 : (Nat → Nat → Int32)) (σ : (Nat → Nat → Nat → Int32)) (x1 x2 x3 x4 x5 : Int32) {z : Int32 × (Nat → Nat → Int32) × (Nat → Nat → Nat → Int32)} (hf : f_X4_delegate n σ0 σ x1 x2 x3 x4 x5 = some (.inr z)) : CtU yX4_delegate cX4_delegate 8 (some .int) rm_X4_delegate [.ref (q0 0), .int x1, .int x2, .int x3, .int x4, .int x5] D cA (sW n q0 q cA σ0 σ) (sW n q0 q cA z.2.1 z.2.2) (some (.int z.1)) 0 0 := by
  refine ctU_of (by decide) (Nat.le_of_ble_eq_true rfl) ?_
  intro p l e s m below meth c ls C hr hnm h hl
  have C : Cx p s m _ meth c cX4_delegate 8 RX4 D cA := C
  obtain ⟨hx, hb, hml, hown, hts, hK, hlk⟩ := id C
  replace hl : lv_has ls 8 [(0, .ref (q0 0)), (1, .int x1), (2, .int x2), (3, .int x3), (4, .int x4), (5, .int x5)] := hl
  rw [f_X4_delegate] at hf
  refine lv_aload_n (pc := 0) hx hb dX4_delegate_0 rfl (lv_at hl 0 rfl) ?_
  refine lv_iload_n (pc := 1) hx hb dX4_delegate_1 rfl (lv_at hl 1 rfl) ?_
  obtain ⟨z1, hc1, hf⟩ := xbR hf
  refine call_VR (pc := 2) (As := [.int x1]) (rest := []) C h (k_X4_standinOf (n := n) (q0 := q0) (q := q) σ0 x1 hc1) cw_X4_124 0 (sW_c0 ..) rfl (List.range 13) (sW_f ..) (by decide) rfl rfl hl.1 (Nat.le_of_ble_eq_true rfl) dX4_delegate_2 ⟨Nat.le_of_ble_eq_true rfl, Nat.le_of_ble_eq_true rfl⟩ rfl rfl ⟨Nat.le_of_ble_eq_true rfl, Nat.le_of_ble_eq_true rfl⟩ (fun H locs h => ?_)
  refine W.eq (g2 := F0 m 5 ls [.ref (q0 (5 + z1))]) rfl ?_
  have hp1 : z1 < 8 := stAt_lt hc1
  refine lv_astore (pc := 5) (lv' := [(6, .ref (q0 (5 + z1))), (0, .ref (q0 0)), (1, .int x1), (2, .int x2), (3, .int x3), (4, .int x4), (5, .int x5)]) hx hb dX4_delegate_5 hl (by decide) rfl (fun ls hl => ?_)
  refine lv_iload_n (pc := 7) hx hb dX4_delegate_7 rfl (lv_at hl 3 rfl) ?_
  obtain ⟨z2, hc2, hf⟩ := xbR hf
  refine call_SR (pc := 8) (As := [.int x2]) (rest := []) C h (k_X4_refuseNoPerson x2 hc2) cw_X4_47 [] rfl (by decide) rfl rfl hl.1 (Nat.le_of_ble_eq_true rfl) dX4_delegate_8 ⟨Nat.le_of_ble_eq_true rfl, Nat.le_of_ble_eq_true rfl⟩ rfl rfl ⟨Nat.le_of_ble_eq_true rfl, Nat.le_of_ble_eq_true rfl⟩ (fun H locs h => ?_)
  refine W.eq (g2 := F0 m 11 ls []) rfl ?_
  refine lv_iload_n (pc := 11) hx hb dX4_delegate_11 rfl (lv_at hl 2 rfl) ?_
  refine lv_iload_n (pc := 12) hx hb dX4_delegate_12 rfl (lv_at hl 3 rfl) ?_
  refine lv_icmp_ne (pc := 13) (tgt := 26) hx hb dX4_delegate_13 (by decide) (fun c9 => ?_) (fun c9 => ?_)
  · have hf := ifF c9 hf
    refine lv_iload_n (pc := 26) hx hb dX4_delegate_26 rfl (lv_at hl 4 rfl) ?_
    refine lv_aload_n (pc := 27) hx hb dX4_delegate_27 rfl (lv_at hl 1 rfl) ?_
    refine g_get (pc := 28) (v := .int (σ0 1 0)) C h.1 0 (sW_c0 ..) fl_X4_98 rfl dX4_delegate_28 ?_
    refine lv_icmp_lt (pc := 31) (tgt := 40) hx hb dX4_delegate_31 (by decide) (fun c9 => ?_) (fun c9 => ?_)
    · have hf := ifT c9 hf
      cases hf
    · have hf := ifF c9 hf
      refine lv_iload (pc := 34) hx hb dX4_delegate_34 (lv_at hl 5 rfl) ?_
      refine lv_iload_n (pc := 36) hx hb dX4_delegate_36 rfl (lv_at hl 4 rfl) ?_
      refine lv_icmp_ge (pc := 37) (tgt := 50) hx hb dX4_delegate_37 (by decide) (fun c9 => ?_) (fun c9 => ?_)
      · have hf := ifT c9 hf
        refine lv_iload (pc := 50) hx hb dX4_delegate_50 (lv_at hl 6 rfl) ?_
        refine lv_iconst (pc := 52) (v := 1) hx hb dX4_delegate_52 (by decide) ?_
        refine lv_icmp_lt (pc := 53) (tgt := 63) hx hb dX4_delegate_53 (by decide) (fun c9 => ?_) (fun c9 => ?_)
        · have hf := ifT c9 hf
          cases hf
        · have hf := ifF c9 hf
          refine lv_iload (pc := 56) hx hb dX4_delegate_56 (lv_at hl 6 rfl) ?_
          refine lv_bipush (pc := 58) (v := 9) hx hb dX4_delegate_58 (by decide) ?_
          refine lv_icmp_le (pc := 60) (tgt := 73) hx hb dX4_delegate_60 (by decide) (fun c9 => ?_) (fun c9 => ?_)
          · have hf := ifT c9 hf
            refine lv_aload (pc := 73) hx hb dX4_delegate_73 (lv_at hl 0 rfl) ?_
            refine g_get (pc := 75) (v := .int (σ0 (3 + z1) 0)) C h.1 (5 + z1) (sW_cs hp1 ..) fl_X4_148 rfl dX4_delegate_75 ?_
            refine lv_istore (pc := 78) (lv' := [(7, .int (σ0 (3 + z1) 0)), (6, .ref (q0 (5 + z1))), (0, .ref (q0 0)), (1, .int x1), (2, .int x2), (3, .int x3), (4, .int x4), (5, .int x5)]) hx hb dX4_delegate_78 hl (by decide) rfl (fun ls hl => ?_)
            refine lv_aload (pc := 80) hx hb dX4_delegate_80 (lv_at hl 1 rfl) ?_
            refine lv_iload_n (pc := 82) hx hb dX4_delegate_82 rfl (lv_at hl 4 rfl) ?_
            obtain ⟨t3, et3, hf⟩ := ltS hf
            refine g_puti (pc := 83) (v := x2) (ws' := (sW n q0 q cA t3 σ)) C h (5 + z1) (sW_cs hp1 ..) fp_X4_148 (Nat.le_of_ble_eq_true rfl) ((sW_ws0 hp1 ..).trans (congrArg (fun w => sW n q0 q cA w σ) et3.symm)) dX4_delegate_83 (fun H locs h => ?_)
            refine lv_aload (pc := 86) hx hb dX4_delegate_86 (lv_at hl 1 rfl) ?_
            refine lv_iload_n (pc := 88) hx hb dX4_delegate_88 rfl (lv_at hl 5 rfl) ?_
            obtain ⟨t4, et4, hf⟩ := ltS hf
            refine g_puti (pc := 89) (v := x3) (ws' := (sW n q0 q cA t4 σ)) C h (5 + z1) (sW_cs hp1 ..) fp_X4_151 (Nat.le_of_ble_eq_true rfl) ((sW_ws1 hp1 ..).trans (congrArg (fun w => sW n q0 q cA w σ) et4.symm)) dX4_delegate_89 (fun H locs h => ?_)
            refine lv_aload (pc := 92) hx hb dX4_delegate_92 (lv_at hl 1 rfl) ?_
            refine lv_iload (pc := 94) hx hb dX4_delegate_94 (lv_at hl 6 rfl) ?_
            obtain ⟨t5, et5, hf⟩ := ltS hf
            refine g_puti (pc := 96) (v := x4) (ws' := (sW n q0 q cA t5 σ)) C h (5 + z1) (sW_cs hp1 ..) fp_X4_154 (Nat.le_of_ble_eq_true rfl) ((sW_ws2 hp1 ..).trans (congrArg (fun w => sW n q0 q cA w σ) et5.symm)) dX4_delegate_96 (fun H locs h => ?_)
            refine lv_aload (pc := 99) hx hb dX4_delegate_99 (lv_at hl 1 rfl) ?_
            refine lv_iload (pc := 101) hx hb dX4_delegate_101 (lv_at hl 7 rfl) ?_
            obtain ⟨t6, et6, hf⟩ := ltS hf
            refine g_puti (pc := 103) (v := x5) (ws' := (sW n q0 q cA t6 σ)) C h (5 + z1) (sW_cs hp1 ..) fp_X4_157 (Nat.le_of_ble_eq_true rfl) ((sW_ws3 hp1 ..).trans (congrArg (fun w => sW n q0 q cA w σ) et6.symm)) dX4_delegate_103 (fun H locs h => ?_)
            refine lv_iload (pc := 106) hx hb dX4_delegate_106 (lv_at hl 0 rfl) ?_
            cases hf
            exact ret_iU (pc := 108) C hr h dX4_delegate_108
          · have hf := ifF c9 hf
            cases hf
      · have hf := ifF c9 hf
        cases hf
  · have hf := ifT c9 hf
    cases hf
abbrev rmT_X4_delegate : Room := { frames := 7, cells := 1, slots := 6, locals := 104 }
set_option maxHeartbeats 400000 in
set_option maxRecDepth 100000 in
theorem kT_X4_delegate {n : Nat} (hn : n ≤ 6) {q0 : Nat → Nat} {q : Nat → Nat → Nat} {cA : Nat → ClassId} {D : va_G} (σ0 : (Nat → Nat → Int32)) (σ : (Nat → Nat → Nat → Int32)) (x1 x2 x3 x4 x5 : Int32) {E : String} (hf : f_X4_delegate n σ0 σ x1 x2 x3 x4 x5 = some (.inl E)) : CtT yX4_delegate cX4_delegate 8 (some .int) rmT_X4_delegate [.ref (q0 0), .int x1, .int x2, .int x3, .int x4, .int x5] D cA (sW n q0 q cA σ0 σ) E := by
  refine ctT_of (by decide) (Nat.le_of_ble_eq_true rfl) ?_
  intro p l e s m below meth c ls hl0 C hex hX h hl
  have C : Cx p s m _ meth c cX4_delegate 8 RX4 D cA := C
  obtain ⟨hx, hb, hml, hown, hts, hK, hlk⟩ := id C
  replace hl : lv_has ls 8 [(0, .ref (q0 0)), (1, .int x1), (2, .int x2), (3, .int x3), (4, .int x4), (5, .int x5)] := hl
  rw [f_X4_delegate] at hf
  refine lv_aload_n (pc := 0) hx hb dX4_delegate_0 rfl (lv_at hl 0 rfl) ?_
  refine lv_iload_n (pc := 1) hx hb dX4_delegate_1 rfl (lv_at hl 1 rfl) ?_
  rcases xbT hf with hc0 | ⟨z1, hc1, hf⟩
  · exact call_TV (pc := 2) (As := [.int x1]) (rest := []) (Qc := QF) C hl0 hex hX h (kT_X4_standinOf (n := n) (q0 := q0) (q := q) σ0 x1 hc0) cw_X4_124 0 (sW_c0 ..) rfl (List.range 13) (sW_f ..) (by decide) rfl rfl hl.1 (Nat.le_of_ble_eq_true rfl) dX4_delegate_2 ⟨Nat.le_of_ble_eq_true rfl, Nat.le_of_ble_eq_true rfl⟩ rfl rfl ⟨Nat.le_of_ble_eq_true rfl, Nat.le_of_ble_eq_true rfl⟩
  · refine call_VRR (pc := 2) (As := [.int x1]) (rest := []) C h (k_X4_standinOf (n := n) (q0 := q0) (q := q) σ0 x1 hc1) cw_X4_124 0 (sW_c0 ..) rfl (List.range 13) (sW_f ..) (by decide) rfl rfl hl.1 (Nat.le_of_ble_eq_true rfl) dX4_delegate_2 ⟨Nat.le_of_ble_eq_true rfl, Nat.le_of_ble_eq_true rfl⟩ rfl rfl ⟨Nat.le_of_ble_eq_true rfl, Nat.le_of_ble_eq_true rfl⟩ (fun H locs h => ?_)
    refine W.eq (g2 := F0 m 5 ls [.ref (q0 (5 + z1))]) rfl ?_
    have hp1 : z1 < 8 := stAt_lt hc1
    refine lv_astore (pc := 5) (lv' := [(6, .ref (q0 (5 + z1))), (0, .ref (q0 0)), (1, .int x1), (2, .int x2), (3, .int x3), (4, .int x4), (5, .int x5)]) hx hb dX4_delegate_5 hl (by decide) rfl (fun ls hl => ?_)
    refine lv_iload_n (pc := 7) hx hb dX4_delegate_7 rfl (lv_at hl 3 rfl) ?_
    rcases xbT hf with hc0 | ⟨z2, hc2, hf⟩
    · exact call_TS (pc := 8) (As := [.int x2]) (rest := []) (Qc := QF) C hl0 hex hX h (kT_X4_refuseNoPerson x2 hc0) cw_X4_47 [] rfl (by decide) rfl rfl hl.1 (Nat.le_of_ble_eq_true rfl) dX4_delegate_8 ⟨Nat.le_of_ble_eq_true rfl, Nat.le_of_ble_eq_true rfl⟩ rfl rfl ⟨Nat.le_of_ble_eq_true rfl, Nat.le_of_ble_eq_true rfl⟩
    · refine call_SRR (pc := 8) (As := [.int x2]) (rest := []) C h (k_X4_refuseNoPerson x2 hc2) cw_X4_47 [] rfl (by decide) rfl rfl hl.1 (Nat.le_of_ble_eq_true rfl) dX4_delegate_8 ⟨Nat.le_of_ble_eq_true rfl, Nat.le_of_ble_eq_true rfl⟩ rfl rfl ⟨Nat.le_of_ble_eq_true rfl, Nat.le_of_ble_eq_true rfl⟩ (fun H locs h => ?_)
      refine W.eq (g2 := F0 m 11 ls []) rfl ?_
      refine lv_iload_n (pc := 11) hx hb dX4_delegate_11 rfl (lv_at hl 2 rfl) ?_
      refine lv_iload_n (pc := 12) hx hb dX4_delegate_12 rfl (lv_at hl 3 rfl) ?_
      refine lv_icmp_ne (pc := 13) (tgt := 26) hx hb dX4_delegate_13 (by decide) (fun c9 => ?_) (fun c9 => ?_)
      · have hf := ifF c9 hf
        refine lv_iload_n (pc := 26) hx hb dX4_delegate_26 rfl (lv_at hl 4 rfl) ?_
        refine lv_aload_n (pc := 27) hx hb dX4_delegate_27 rfl (lv_at hl 1 rfl) ?_
        refine g_get (pc := 28) (v := .int (σ0 1 0)) C h.1 0 (sW_c0 ..) fl_X4_98 rfl dX4_delegate_28 ?_
        refine lv_icmp_lt (pc := 31) (tgt := 40) hx hb dX4_delegate_31 (by decide) (fun c9 => ?_) (fun c9 => ?_)
        · have hf := ifT c9 hf
          cases hf
          exact g_throw (pc := 40) (rest := []) C hl0 hex hX h tw_IllegalArgumentException (is := 144) (text := "first is before today, or last before first") (by decide +kernel) hl.1 dX4_delegate_40 dX4_delegate_43 dX4_delegate_44 dX4_delegate_46 dX4_delegate_49 (Nat.le_of_ble_eq_true rfl) (Nat.le_of_ble_eq_true rfl) (Nat.le_of_ble_eq_true rfl) (Nat.le_of_ble_eq_true rfl) (Nat.le_of_ble_eq_true rfl) (Nat.le_of_ble_eq_true rfl)
        · have hf := ifF c9 hf
          refine lv_iload (pc := 34) hx hb dX4_delegate_34 (lv_at hl 5 rfl) ?_
          refine lv_iload_n (pc := 36) hx hb dX4_delegate_36 rfl (lv_at hl 4 rfl) ?_
          refine lv_icmp_ge (pc := 37) (tgt := 50) hx hb dX4_delegate_37 (by decide) (fun c9 => ?_) (fun c9 => ?_)
          · have hf := ifT c9 hf
            refine lv_iload (pc := 50) hx hb dX4_delegate_50 (lv_at hl 6 rfl) ?_
            refine lv_iconst (pc := 52) (v := 1) hx hb dX4_delegate_52 (by decide) ?_
            refine lv_icmp_lt (pc := 53) (tgt := 63) hx hb dX4_delegate_53 (by decide) (fun c9 => ?_) (fun c9 => ?_)
            · have hf := ifT c9 hf
              cases hf
              exact g_throw (pc := 63) (rest := []) C hl0 hex hX h tw_IllegalArgumentException (is := 146) (text := "limit is not 1 to 9") (by decide +kernel) hl.1 dX4_delegate_63 dX4_delegate_66 dX4_delegate_67 dX4_delegate_69 dX4_delegate_72 (Nat.le_of_ble_eq_true rfl) (Nat.le_of_ble_eq_true rfl) (Nat.le_of_ble_eq_true rfl) (Nat.le_of_ble_eq_true rfl) (Nat.le_of_ble_eq_true rfl) (Nat.le_of_ble_eq_true rfl)
            · have hf := ifF c9 hf
              refine lv_iload (pc := 56) hx hb dX4_delegate_56 (lv_at hl 6 rfl) ?_
              refine lv_bipush (pc := 58) (v := 9) hx hb dX4_delegate_58 (by decide) ?_
              refine lv_icmp_le (pc := 60) (tgt := 73) hx hb dX4_delegate_60 (by decide) (fun c9 => ?_) (fun c9 => ?_)
              · have hf := ifT c9 hf
                refine lv_aload (pc := 73) hx hb dX4_delegate_73 (lv_at hl 0 rfl) ?_
                refine g_get (pc := 75) (v := .int (σ0 (3 + z1) 0)) C h.1 (5 + z1) (sW_cs hp1 ..) fl_X4_148 rfl dX4_delegate_75 ?_
                refine lv_istore (pc := 78) (lv' := [(7, .int (σ0 (3 + z1) 0)), (6, .ref (q0 (5 + z1))), (0, .ref (q0 0)), (1, .int x1), (2, .int x2), (3, .int x3), (4, .int x4), (5, .int x5)]) hx hb dX4_delegate_78 hl (by decide) rfl (fun ls hl => ?_)
                refine lv_aload (pc := 80) hx hb dX4_delegate_80 (lv_at hl 1 rfl) ?_
                refine lv_iload_n (pc := 82) hx hb dX4_delegate_82 rfl (lv_at hl 4 rfl) ?_
                obtain ⟨t3, _, hf⟩ := ltS hf
                obtain ⟨t4, _, hf⟩ := ltS hf
                obtain ⟨t5, _, hf⟩ := ltS hf
                obtain ⟨t6, _, hf⟩ := ltS hf
                cases hf
              · have hf := ifF c9 hf
                cases hf
                exact g_throw (pc := 63) (rest := []) C hl0 hex hX h tw_IllegalArgumentException (is := 146) (text := "limit is not 1 to 9") (by decide +kernel) hl.1 dX4_delegate_63 dX4_delegate_66 dX4_delegate_67 dX4_delegate_69 dX4_delegate_72 (Nat.le_of_ble_eq_true rfl) (Nat.le_of_ble_eq_true rfl) (Nat.le_of_ble_eq_true rfl) (Nat.le_of_ble_eq_true rfl) (Nat.le_of_ble_eq_true rfl) (Nat.le_of_ble_eq_true rfl)
          · have hf := ifF c9 hf
            cases hf
            exact g_throw (pc := 40) (rest := []) C hl0 hex hX h tw_IllegalArgumentException (is := 144) (text := "first is before today, or last before first") (by decide +kernel) hl.1 dX4_delegate_40 dX4_delegate_43 dX4_delegate_44 dX4_delegate_46 dX4_delegate_49 (Nat.le_of_ble_eq_true rfl) (Nat.le_of_ble_eq_true rfl) (Nat.le_of_ble_eq_true rfl) (Nat.le_of_ble_eq_true rfl) (Nat.le_of_ble_eq_true rfl) (Nat.le_of_ble_eq_true rfl)
      · have hf := ifT c9 hf
        cases hf
        exact g_throw (pc := 16) (rest := []) C hl0 hex hX h tw_IllegalArgumentException (is := 142) (text := "person and other are the same") (by decide +kernel) hl.1 dX4_delegate_16 dX4_delegate_19 dX4_delegate_20 dX4_delegate_22 dX4_delegate_25 (Nat.le_of_ble_eq_true rfl) (Nat.le_of_ble_eq_true rfl) (Nat.le_of_ble_eq_true rfl) (Nat.le_of_ble_eq_true rfl) (Nat.le_of_ble_eq_true rfl) (Nat.le_of_ble_eq_true rfl)
abbrev rm_X4_revoke : Room := { frames := 1, cells := 0, slots := 0, locals := 22 }
def f_X4_revoke (n : Nat) (σ0 : (Nat → Nat → Int32)) (σ : (Nat → Nat → Nat → Int32)) (x1 : Int32) : Option (String ⊕ (Int32 × (Nat → Nat → Int32) × (Nat → Nat → Nat → Int32))) := (xb (f_X4_standinOf x1) fun z1 => (if (σ0 (3 + z1) 0) = (-1 : Int32) then (some (.inl "java/lang/IllegalStateException")) else (lt (va_up σ0 (3 + z1) (upd (σ0 (3 + z1)) 0 (-1 : Int32))) fun t2 => (some (.inr ((σ0 (3 + z1) 0), (t2, σ)))))))
set_option maxHeartbeats 400000 in
set_option maxRecDepth 100000 in
theorem k_X4_revoke {n : Nat} (hn : n ≤ 6) {q0 : Nat → Nat} {q : Nat → Nat → Nat} {cA : Nat → ClassId} {D : va_G} (σ0 : (Nat → Nat → Int32)) (σ : (Nat → Nat → Nat → Int32)) (x1 : Int32) {z : Int32 × (Nat → Nat → Int32) × (Nat → Nat → Nat → Int32)} (hf : f_X4_revoke n σ0 σ x1 = some (.inr z)) : CtU yX4_revoke cX4_revoke 4 (some .int) rm_X4_revoke [.ref (q0 0), .int x1] D cA (sW n q0 q cA σ0 σ) (sW n q0 q cA z.2.1 z.2.2) (some (.int z.1)) 0 0 := by
  refine ctU_of (by decide) (Nat.le_of_ble_eq_true rfl) ?_
  intro p l e s m below meth c ls C hr hnm h hl
  have C : Cx p s m _ meth c cX4_revoke 4 RX4 D cA := C
  obtain ⟨hx, hb, hml, hown, hts, hK, hlk⟩ := id C
  replace hl : lv_has ls 4 [(0, .ref (q0 0)), (1, .int x1)] := hl
  rw [f_X4_revoke] at hf
  refine lv_aload_n (pc := 0) hx hb dX4_revoke_0 rfl (lv_at hl 0 rfl) ?_
  refine lv_iload_n (pc := 1) hx hb dX4_revoke_1 rfl (lv_at hl 1 rfl) ?_
  obtain ⟨z1, hc1, hf⟩ := xbR hf
  refine call_VR (pc := 2) (As := [.int x1]) (rest := []) C h (k_X4_standinOf (n := n) (q0 := q0) (q := q) σ0 x1 hc1) cw_X4_124 0 (sW_c0 ..) rfl (List.range 13) (sW_f ..) (by decide) rfl rfl hl.1 (Nat.le_of_ble_eq_true rfl) dX4_revoke_2 ⟨Nat.le_of_ble_eq_true rfl, Nat.le_of_ble_eq_true rfl⟩ rfl rfl ⟨Nat.le_of_ble_eq_true rfl, Nat.le_of_ble_eq_true rfl⟩ (fun H locs h => ?_)
  refine W.eq (g2 := F0 m 5 ls [.ref (q0 (5 + z1))]) rfl ?_
  have hp1 : z1 < 8 := stAt_lt hc1
  refine lv_astore_n (pc := 5) (lv' := [(2, .ref (q0 (5 + z1))), (0, .ref (q0 0)), (1, .int x1)]) hx hb dX4_revoke_5 rfl hl (by decide) rfl (fun ls hl => ?_)
  refine lv_aload_n (pc := 6) hx hb dX4_revoke_6 rfl (lv_at hl 0 rfl) ?_
  refine g_get (pc := 7) (v := .int (σ0 (3 + z1) 0)) C h.1 (5 + z1) (sW_cs hp1 ..) fl_X4_148 rfl dX4_revoke_7 ?_
  refine lv_istore_n (pc := 10) (lv' := [(3, .int (σ0 (3 + z1) 0)), (2, .ref (q0 (5 + z1))), (0, .ref (q0 0)), (1, .int x1)]) hx hb dX4_revoke_10 rfl hl (by decide) rfl (fun ls hl => ?_)
  refine lv_iload_n (pc := 11) hx hb dX4_revoke_11 rfl (lv_at hl 0 rfl) ?_
  refine lv_iconst (pc := 12) (v := -1) hx hb dX4_revoke_12 (by decide) ?_
  refine lv_icmp_ne (pc := 13) (tgt := 26) hx hb dX4_revoke_13 (by decide) (fun c9 => ?_) (fun c9 => ?_)
  · have hf := ifF c9 hf
    refine lv_aload_n (pc := 26) hx hb dX4_revoke_26 rfl (lv_at hl 1 rfl) ?_
    refine lv_iconst (pc := 27) (v := -1) hx hb dX4_revoke_27 (by decide) ?_
    obtain ⟨t2, et2, hf⟩ := ltS hf
    refine g_puti (pc := 28) (v := (-1 : Int32)) (ws' := (sW n q0 q cA t2 σ)) C h (5 + z1) (sW_cs hp1 ..) fp_X4_148 (Nat.le_of_ble_eq_true rfl) ((sW_ws0 hp1 ..).trans (congrArg (fun w => sW n q0 q cA w σ) et2.symm)) dX4_revoke_28 (fun H locs h => ?_)
    refine lv_iload_n (pc := 31) hx hb dX4_revoke_31 rfl (lv_at hl 0 rfl) ?_
    cases hf
    exact ret_iU (pc := 32) C hr h dX4_revoke_32
  · have hf := ifT c9 hf
    cases hf
abbrev rmT_X4_revoke : Room := { frames := 7, cells := 1, slots := 6, locals := 104 }
set_option maxHeartbeats 400000 in
set_option maxRecDepth 100000 in
theorem kT_X4_revoke {n : Nat} (hn : n ≤ 6) {q0 : Nat → Nat} {q : Nat → Nat → Nat} {cA : Nat → ClassId} {D : va_G} (σ0 : (Nat → Nat → Int32)) (σ : (Nat → Nat → Nat → Int32)) (x1 : Int32) {E : String} (hf : f_X4_revoke n σ0 σ x1 = some (.inl E)) : CtT yX4_revoke cX4_revoke 4 (some .int) rmT_X4_revoke [.ref (q0 0), .int x1] D cA (sW n q0 q cA σ0 σ) E := by
  refine ctT_of (by decide) (Nat.le_of_ble_eq_true rfl) ?_
  intro p l e s m below meth c ls hl0 C hex hX h hl
  have C : Cx p s m _ meth c cX4_revoke 4 RX4 D cA := C
  obtain ⟨hx, hb, hml, hown, hts, hK, hlk⟩ := id C
  replace hl : lv_has ls 4 [(0, .ref (q0 0)), (1, .int x1)] := hl
  rw [f_X4_revoke] at hf
  refine lv_aload_n (pc := 0) hx hb dX4_revoke_0 rfl (lv_at hl 0 rfl) ?_
  refine lv_iload_n (pc := 1) hx hb dX4_revoke_1 rfl (lv_at hl 1 rfl) ?_
  rcases xbT hf with hc0 | ⟨z1, hc1, hf⟩
  · exact call_TV (pc := 2) (As := [.int x1]) (rest := []) (Qc := QF) C hl0 hex hX h (kT_X4_standinOf (n := n) (q0 := q0) (q := q) σ0 x1 hc0) cw_X4_124 0 (sW_c0 ..) rfl (List.range 13) (sW_f ..) (by decide) rfl rfl hl.1 (Nat.le_of_ble_eq_true rfl) dX4_revoke_2 ⟨Nat.le_of_ble_eq_true rfl, Nat.le_of_ble_eq_true rfl⟩ rfl rfl ⟨Nat.le_of_ble_eq_true rfl, Nat.le_of_ble_eq_true rfl⟩
  · refine call_VRR (pc := 2) (As := [.int x1]) (rest := []) C h (k_X4_standinOf (n := n) (q0 := q0) (q := q) σ0 x1 hc1) cw_X4_124 0 (sW_c0 ..) rfl (List.range 13) (sW_f ..) (by decide) rfl rfl hl.1 (Nat.le_of_ble_eq_true rfl) dX4_revoke_2 ⟨Nat.le_of_ble_eq_true rfl, Nat.le_of_ble_eq_true rfl⟩ rfl rfl ⟨Nat.le_of_ble_eq_true rfl, Nat.le_of_ble_eq_true rfl⟩ (fun H locs h => ?_)
    refine W.eq (g2 := F0 m 5 ls [.ref (q0 (5 + z1))]) rfl ?_
    have hp1 : z1 < 8 := stAt_lt hc1
    refine lv_astore_n (pc := 5) (lv' := [(2, .ref (q0 (5 + z1))), (0, .ref (q0 0)), (1, .int x1)]) hx hb dX4_revoke_5 rfl hl (by decide) rfl (fun ls hl => ?_)
    refine lv_aload_n (pc := 6) hx hb dX4_revoke_6 rfl (lv_at hl 0 rfl) ?_
    refine g_get (pc := 7) (v := .int (σ0 (3 + z1) 0)) C h.1 (5 + z1) (sW_cs hp1 ..) fl_X4_148 rfl dX4_revoke_7 ?_
    refine lv_istore_n (pc := 10) (lv' := [(3, .int (σ0 (3 + z1) 0)), (2, .ref (q0 (5 + z1))), (0, .ref (q0 0)), (1, .int x1)]) hx hb dX4_revoke_10 rfl hl (by decide) rfl (fun ls hl => ?_)
    refine lv_iload_n (pc := 11) hx hb dX4_revoke_11 rfl (lv_at hl 0 rfl) ?_
    refine lv_iconst (pc := 12) (v := -1) hx hb dX4_revoke_12 (by decide) ?_
    refine lv_icmp_ne (pc := 13) (tgt := 26) hx hb dX4_revoke_13 (by decide) (fun c9 => ?_) (fun c9 => ?_)
    · have hf := ifF c9 hf
      refine lv_aload_n (pc := 26) hx hb dX4_revoke_26 rfl (lv_at hl 1 rfl) ?_
      refine lv_iconst (pc := 27) (v := -1) hx hb dX4_revoke_27 (by decide) ?_
      obtain ⟨t2, _, hf⟩ := ltS hf
      cases hf
    · have hf := ifT c9 hf
      cases hf
      exact g_throw (pc := 16) (rest := []) C hl0 hex hX h tw_IllegalStateException (is := 160) (text := "the person has no delegate") (by decide +kernel) hl.1 dX4_revoke_16 dX4_revoke_19 dX4_revoke_20 dX4_revoke_22 dX4_revoke_25 (Nat.le_of_ble_eq_true rfl) (Nat.le_of_ble_eq_true rfl) (Nat.le_of_ble_eq_true rfl) (Nat.le_of_ble_eq_true rfl) (Nat.le_of_ble_eq_true rfl) (Nat.le_of_ble_eq_true rfl)
abbrev rm_X4_delegateToday : Room := { frames := 1, cells := 0, slots := 0, locals := 22 }
def f_X4_delegateToday (n : Nat) (σ0 : (Nat → Nat → Int32)) (σ : (Nat → Nat → Nat → Int32)) (x1 : Int32) : Option (String ⊕ (Int32)) := (xb (f_X4_standinOf x1) fun z1 => (some (.inr (f_X3_otherOn (ds σ0 z1) (σ0 1 0)))))
set_option maxHeartbeats 400000 in
set_option maxRecDepth 100000 in
theorem k_X4_delegateToday {n : Nat} (hn : n ≤ 6) {q0 : Nat → Nat} {q : Nat → Nat → Nat} {cA : Nat → ClassId} {D : va_G} (σ0 : (Nat → Nat → Int32)) (σ : (Nat → Nat → Nat → Int32)) (x1 : Int32) {z : Int32} (hf : f_X4_delegateToday n σ0 σ x1 = some (.inr z)) : CtR yX4_delegateToday cX4_delegateToday 2 (some .int) rm_X4_delegateToday [.ref (q0 0), .int x1] D cA (sW n q0 q cA σ0 σ) (some (.int z)) 0 0 := by
  refine ctR_of (by decide) (Nat.le_of_ble_eq_true rfl) ?_
  intro p l e s m below meth c ls C hr hnm h hl
  have C : Cx p s m _ meth c cX4_delegateToday 2 RX4 D cA := C
  obtain ⟨hx, hb, hml, hown, hts, hK, hlk⟩ := id C
  replace hl : lv_has ls 2 [(0, .ref (q0 0)), (1, .int x1)] := hl
  rw [f_X4_delegateToday] at hf
  refine lv_aload_n (pc := 0) hx hb dX4_delegateToday_0 rfl (lv_at hl 0 rfl) ?_
  refine lv_iload_n (pc := 1) hx hb dX4_delegateToday_1 rfl (lv_at hl 1 rfl) ?_
  obtain ⟨z1, hc1, hf⟩ := xbR hf
  refine call_VRR (pc := 2) (As := [.int x1]) (rest := []) C h (k_X4_standinOf (n := n) (q0 := q0) (q := q) σ0 x1 hc1) cw_X4_124 0 (sW_c0 ..) rfl (List.range 13) (sW_f ..) (by decide) rfl rfl hl.1 (Nat.le_of_ble_eq_true rfl) dX4_delegateToday_2 ⟨Nat.le_of_ble_eq_true rfl, Nat.le_of_ble_eq_true rfl⟩ rfl rfl ⟨Nat.le_of_ble_eq_true rfl, Nat.le_of_ble_eq_true rfl⟩ (fun H locs h => ?_)
  refine W.eq (g2 := F0 m 5 ls [.ref (q0 (5 + z1))]) rfl ?_
  have hp1 : z1 < 8 := stAt_lt hc1
  refine lv_aload_n (pc := 5) hx hb dX4_delegateToday_5 rfl (lv_at hl 0 rfl) ?_
  refine g_get (pc := 6) (v := .int (σ0 1 0)) C h.1 0 (sW_c0 ..) fl_X4_98 rfl dX4_delegateToday_6 ?_
  refine call_VRR (pc := 9) (As := [.int (σ0 1 0)]) (rest := []) C h (k_X3_otherOn (q := fun i => q0 (5 + z1)) (ds σ0 z1) (σ0 1 0) rfl) cw_X4_162 (5 + z1) (sW_cs hp1 ..) rfl [5 + z1] (sW_ds hp1 ..) (by simp [va_nd]) rfl rfl hl.1 (Nat.le_of_ble_eq_true rfl) dX4_delegateToday_9 ⟨Nat.le_of_ble_eq_true rfl, Nat.le_of_ble_eq_true rfl⟩ rfl rfl ⟨Nat.le_of_ble_eq_true rfl, Nat.le_of_ble_eq_true rfl⟩ (fun H locs h => ?_)
  refine W.eq (g2 := F0 m 12 ls [.int (f_X3_otherOn (ds σ0 z1) (σ0 1 0))]) rfl ?_
  cases hf
  exact ret_iR (pc := 12) C hr h dX4_delegateToday_12
abbrev rmT_X4_delegateToday : Room := { frames := 7, cells := 1, slots := 6, locals := 104 }
set_option maxHeartbeats 400000 in
set_option maxRecDepth 100000 in
theorem kT_X4_delegateToday {n : Nat} (hn : n ≤ 6) {q0 : Nat → Nat} {q : Nat → Nat → Nat} {cA : Nat → ClassId} {D : va_G} (σ0 : (Nat → Nat → Int32)) (σ : (Nat → Nat → Nat → Int32)) (x1 : Int32) {E : String} (hf : f_X4_delegateToday n σ0 σ x1 = some (.inl E)) : CtT yX4_delegateToday cX4_delegateToday 2 (some .int) rmT_X4_delegateToday [.ref (q0 0), .int x1] D cA (sW n q0 q cA σ0 σ) E := by
  refine ctT_of (by decide) (Nat.le_of_ble_eq_true rfl) ?_
  intro p l e s m below meth c ls hl0 C hex hX h hl
  have C : Cx p s m _ meth c cX4_delegateToday 2 RX4 D cA := C
  obtain ⟨hx, hb, hml, hown, hts, hK, hlk⟩ := id C
  replace hl : lv_has ls 2 [(0, .ref (q0 0)), (1, .int x1)] := hl
  rw [f_X4_delegateToday] at hf
  refine lv_aload_n (pc := 0) hx hb dX4_delegateToday_0 rfl (lv_at hl 0 rfl) ?_
  refine lv_iload_n (pc := 1) hx hb dX4_delegateToday_1 rfl (lv_at hl 1 rfl) ?_
  rcases xbT hf with hc0 | ⟨z1, hc1, hf⟩
  · exact call_TV (pc := 2) (As := [.int x1]) (rest := []) (Qc := QF) C hl0 hex hX h (kT_X4_standinOf (n := n) (q0 := q0) (q := q) σ0 x1 hc0) cw_X4_124 0 (sW_c0 ..) rfl (List.range 13) (sW_f ..) (by decide) rfl rfl hl.1 (Nat.le_of_ble_eq_true rfl) dX4_delegateToday_2 ⟨Nat.le_of_ble_eq_true rfl, Nat.le_of_ble_eq_true rfl⟩ rfl rfl ⟨Nat.le_of_ble_eq_true rfl, Nat.le_of_ble_eq_true rfl⟩
  · refine call_VRR (pc := 2) (As := [.int x1]) (rest := []) C h (k_X4_standinOf (n := n) (q0 := q0) (q := q) σ0 x1 hc1) cw_X4_124 0 (sW_c0 ..) rfl (List.range 13) (sW_f ..) (by decide) rfl rfl hl.1 (Nat.le_of_ble_eq_true rfl) dX4_delegateToday_2 ⟨Nat.le_of_ble_eq_true rfl, Nat.le_of_ble_eq_true rfl⟩ rfl rfl ⟨Nat.le_of_ble_eq_true rfl, Nat.le_of_ble_eq_true rfl⟩ (fun H locs h => ?_)
    refine W.eq (g2 := F0 m 5 ls [.ref (q0 (5 + z1))]) rfl ?_
    have hp1 : z1 < 8 := stAt_lt hc1
    refine lv_aload_n (pc := 5) hx hb dX4_delegateToday_5 rfl (lv_at hl 0 rfl) ?_
    refine g_get (pc := 6) (v := .int (σ0 1 0)) C h.1 0 (sW_c0 ..) fl_X4_98 rfl dX4_delegateToday_6 ?_
    refine call_VRR (pc := 9) (As := [.int (σ0 1 0)]) (rest := []) C h (k_X3_otherOn (q := fun i => q0 (5 + z1)) (ds σ0 z1) (σ0 1 0) rfl) cw_X4_162 (5 + z1) (sW_cs hp1 ..) rfl [5 + z1] (sW_ds hp1 ..) (by simp [va_nd]) rfl rfl hl.1 (Nat.le_of_ble_eq_true rfl) dX4_delegateToday_9 ⟨Nat.le_of_ble_eq_true rfl, Nat.le_of_ble_eq_true rfl⟩ rfl rfl ⟨Nat.le_of_ble_eq_true rfl, Nat.le_of_ble_eq_true rfl⟩ (fun H locs h => ?_)
    refine W.eq (g2 := F0 m 12 ls [.int (f_X3_otherOn (ds σ0 z1) (σ0 1 0))]) rfl ?_
    cases hf
abbrev rm_X4_signedFor : Room := { frames := 1, cells := 0, slots := 0, locals := 22 }
def f_X4_signedFor (n : Nat) (σ0 : (Nat → Nat → Int32)) (σ : (Nat → Nat → Nat → Int32)) (x1 : Int32) : Option (String ⊕ (Int32)) := (xb (f_X4_standinOf x1) fun z1 => (some (.inr (σ0 (3 + z1) 4))))
set_option maxHeartbeats 400000 in
set_option maxRecDepth 100000 in
theorem k_X4_signedFor {n : Nat} (hn : n ≤ 6) {q0 : Nat → Nat} {q : Nat → Nat → Nat} {cA : Nat → ClassId} {D : va_G} (σ0 : (Nat → Nat → Int32)) (σ : (Nat → Nat → Nat → Int32)) (x1 : Int32) {z : Int32} (hf : f_X4_signedFor n σ0 σ x1 = some (.inr z)) : CtR yX4_signedFor cX4_signedFor 2 (some .int) rm_X4_signedFor [.ref (q0 0), .int x1] D cA (sW n q0 q cA σ0 σ) (some (.int z)) 0 0 := by
  refine ctR_of (by decide) (Nat.le_of_ble_eq_true rfl) ?_
  intro p l e s m below meth c ls C hr hnm h hl
  have C : Cx p s m _ meth c cX4_signedFor 2 RX4 D cA := C
  obtain ⟨hx, hb, hml, hown, hts, hK, hlk⟩ := id C
  replace hl : lv_has ls 2 [(0, .ref (q0 0)), (1, .int x1)] := hl
  rw [f_X4_signedFor] at hf
  refine lv_aload_n (pc := 0) hx hb dX4_signedFor_0 rfl (lv_at hl 0 rfl) ?_
  refine lv_iload_n (pc := 1) hx hb dX4_signedFor_1 rfl (lv_at hl 1 rfl) ?_
  obtain ⟨z1, hc1, hf⟩ := xbR hf
  refine call_VRR (pc := 2) (As := [.int x1]) (rest := []) C h (k_X4_standinOf (n := n) (q0 := q0) (q := q) σ0 x1 hc1) cw_X4_124 0 (sW_c0 ..) rfl (List.range 13) (sW_f ..) (by decide) rfl rfl hl.1 (Nat.le_of_ble_eq_true rfl) dX4_signedFor_2 ⟨Nat.le_of_ble_eq_true rfl, Nat.le_of_ble_eq_true rfl⟩ rfl rfl ⟨Nat.le_of_ble_eq_true rfl, Nat.le_of_ble_eq_true rfl⟩ (fun H locs h => ?_)
  refine W.eq (g2 := F0 m 5 ls [.ref (q0 (5 + z1))]) rfl ?_
  have hp1 : z1 < 8 := stAt_lt hc1
  refine g_get (pc := 5) (v := .int (σ0 (3 + z1) 4)) C h.1 (5 + z1) (sW_cs hp1 ..) fl_X4_128 rfl dX4_signedFor_5 ?_
  cases hf
  exact ret_iR (pc := 8) C hr h dX4_signedFor_8
abbrev rmT_X4_signedFor : Room := { frames := 7, cells := 1, slots := 6, locals := 104 }
set_option maxHeartbeats 400000 in
set_option maxRecDepth 100000 in
theorem kT_X4_signedFor {n : Nat} (hn : n ≤ 6) {q0 : Nat → Nat} {q : Nat → Nat → Nat} {cA : Nat → ClassId} {D : va_G} (σ0 : (Nat → Nat → Int32)) (σ : (Nat → Nat → Nat → Int32)) (x1 : Int32) {E : String} (hf : f_X4_signedFor n σ0 σ x1 = some (.inl E)) : CtT yX4_signedFor cX4_signedFor 2 (some .int) rmT_X4_signedFor [.ref (q0 0), .int x1] D cA (sW n q0 q cA σ0 σ) E := by
  refine ctT_of (by decide) (Nat.le_of_ble_eq_true rfl) ?_
  intro p l e s m below meth c ls hl0 C hex hX h hl
  have C : Cx p s m _ meth c cX4_signedFor 2 RX4 D cA := C
  obtain ⟨hx, hb, hml, hown, hts, hK, hlk⟩ := id C
  replace hl : lv_has ls 2 [(0, .ref (q0 0)), (1, .int x1)] := hl
  rw [f_X4_signedFor] at hf
  refine lv_aload_n (pc := 0) hx hb dX4_signedFor_0 rfl (lv_at hl 0 rfl) ?_
  refine lv_iload_n (pc := 1) hx hb dX4_signedFor_1 rfl (lv_at hl 1 rfl) ?_
  rcases xbT hf with hc0 | ⟨z1, hc1, hf⟩
  · exact call_TV (pc := 2) (As := [.int x1]) (rest := []) (Qc := QF) C hl0 hex hX h (kT_X4_standinOf (n := n) (q0 := q0) (q := q) σ0 x1 hc0) cw_X4_124 0 (sW_c0 ..) rfl (List.range 13) (sW_f ..) (by decide) rfl rfl hl.1 (Nat.le_of_ble_eq_true rfl) dX4_signedFor_2 ⟨Nat.le_of_ble_eq_true rfl, Nat.le_of_ble_eq_true rfl⟩ rfl rfl ⟨Nat.le_of_ble_eq_true rfl, Nat.le_of_ble_eq_true rfl⟩
  · refine call_VRR (pc := 2) (As := [.int x1]) (rest := []) C h (k_X4_standinOf (n := n) (q0 := q0) (q := q) σ0 x1 hc1) cw_X4_124 0 (sW_c0 ..) rfl (List.range 13) (sW_f ..) (by decide) rfl rfl hl.1 (Nat.le_of_ble_eq_true rfl) dX4_signedFor_2 ⟨Nat.le_of_ble_eq_true rfl, Nat.le_of_ble_eq_true rfl⟩ rfl rfl ⟨Nat.le_of_ble_eq_true rfl, Nat.le_of_ble_eq_true rfl⟩ (fun H locs h => ?_)
    refine W.eq (g2 := F0 m 5 ls [.ref (q0 (5 + z1))]) rfl ?_
    have hp1 : z1 < 8 := stAt_lt hc1
    refine g_get (pc := 5) (v := .int (σ0 (3 + z1) 4)) C h.1 (5 + z1) (sW_cs hp1 ..) fl_X4_128 rfl dX4_signedFor_5 ?_
    cases hf
abbrev rm_X4_toSign : Room := { frames := 2, cells := 0, slots := 0, locals := 47 }
def f_X4_toSign_26 : Nat → Nat → (Nat → Nat → Int32) → (Nat → Nat → Nat → Int32) → Nat → (Nat → Nat → Int32) → Int32 → Int32 → Int32 → Int32 → Option (Int32 × Int32)
  | 0, _, _, _, _, _, _, _, _, _ => none
  | fu + 1, n, σ0, σ, k0, τ, x1, x2, x3, x5 => (if ((σ k0) 10 0) ≤ x5 then some (x2, x5) else ((f_X4_reasonFor σ0 (σ k0) x1 x5).bind fun z3 => (if z3 = 0 then (f_X4_toSign_26 fu n σ0 σ k0 (σ k0) x1 (x2 + (1 : Int32)) x3 (x5 + (1 : Int32))) else (if z3 = (1 : Int32) then (f_X4_toSign_26 fu n σ0 σ k0 (σ k0) x1 (x2 + (1 : Int32)) x3 (x5 + (1 : Int32))) else (f_X4_toSign_26 fu n σ0 σ k0 (σ k0) x1 x2 x3 (x5 + (1 : Int32)))))))
def f_X4_toSign_8 : Nat → Nat → (Nat → Nat → Int32) → (Nat → Nat → Nat → Int32) → Int32 → Int32 → Int32 → Option (Int32 × Int32)
  | 0, _, _, _, _, _, _ => none
  | fu + 1, n, σ0, σ, x1, x2, x3 => (if (nI n) ≤ x3 then some (x2, x3) else (xn (f_X4_envelopeAt n x3) fun z2 => ((f_X4_toSign_26 FU n σ0 σ z2 (σ z2) x1 x2 x3 (0 : Int32)).bind fun z3 => (f_X4_toSign_8 fu n σ0 σ x1 z3.1 (x3 + (1 : Int32))))))
def f_X4_toSign (n : Nat) (σ0 : (Nat → Nat → Int32)) (σ : (Nat → Nat → Nat → Int32)) (x1 : Int32) : Option (String ⊕ (Int32)) := (xb (f_X4_refuseNoPerson x1) fun z1 => ((f_X4_toSign_8 FU n σ0 σ x1 (0 : Int32) (0 : Int32)).bind fun z2 => (some (.inr z2.1))))
set_option maxHeartbeats 400000 in
set_option maxRecDepth 100000 in
theorem l_X4_toSign_26 (hn : n ≤ 6) (C : Cx p s m args meth c cX4_toSign 7 RX4 D cA) : ∀ (fu : Nat) (σ0 : (Nat → Nat → Int32)) (σ : (Nat → Nat → Nat → Int32)) (k0 : Nat) (τ : (Nat → Nat → Int32)) (x1 x2 x3 x5 : Int32) (z : Int32 × Int32), f_X4_toSign_26 fu n σ0 σ k0 τ x1 x2 x3 x5 = some z → k0 < n → ∀ (H : Heap) (locs : List Loc) (ls : Array Slot), SR D s.heap (fkW n k0 q0 q cA σ0 (σ k0) σ) H locs → lv_has ls 7 [(0, .ref (q0 0)), (1, .int x1), (2, .int x2), (3, .int x3), (4, .ref (q k0 0)), (5, .int x5)] → (∀ (H : Heap) (locs : List Loc) (ls : Array Slot), SR D s.heap (fkW n k0 q0 q cA σ0 (σ k0) σ) H locs → lv_has ls 7 [(0, .ref (q0 0)), (1, .int x1), (2, .int z.1), (3, .int x3), (4, .ref (q k0 0)), (5, .int z.2)] → W p l e rm_X4_toSign s m args below meth c H locs 0 0 Q (F0 m 67 ls [])) → W p l e rm_X4_toSign s m args below meth c H locs 0 0 Q (F0 m 26 ls []) := by
  obtain ⟨hx, hb, hml, hown, hts, hK, hlk⟩ := id C
  intro fu
  induction fu with
  | zero => intro σ0 σ k0 τ x1 x2 x3 x5 z hf; rw [f_X4_toSign_26] at hf; cases hf
  | succ fu ih =>
    intro σ0 σ k0 τ x1 x2 x3 x5 z hf hk0 H locs ls h hl kk
    rw [f_X4_toSign_26] at hf
    refine lv_iload (pc := 26) hx hb dX4_toSign_26 (lv_at hl 5 rfl) ?_
    refine lv_aload (pc := 28) hx hb dX4_toSign_28 (lv_at hl 4 rfl) ?_
    refine g_get (pc := 30) (v := .int ((σ k0) 10 0)) C h.1 13 (fkW_c13 ..) fl_X4_63 rfl dX4_toSign_30 ?_
    refine lv_icmp_ge (pc := 33) (tgt := 67) hx hb dX4_toSign_33 (by decide) (fun c9 => ?_) (fun c9 => ?_)
    · have hf := ifT c9 hf
      have hf : some (x2, x5) = some z := hf
      cases hf
      exact kk _ _ _ h (lv_sub hl [0, 1, 2, 3, 4, 5] rfl)
    · have hf := ifF c9 hf
      refine lv_aload_n (pc := 36) hx hb dX4_toSign_36 rfl (lv_at hl 0 rfl) ?_
      refine lv_iload_n (pc := 37) hx hb dX4_toSign_37 rfl (lv_at hl 1 rfl) ?_
      refine lv_aload (pc := 38) hx hb dX4_toSign_38 (lv_at hl 4 rfl) ?_
      refine lv_iload (pc := 40) hx hb dX4_toSign_40 (lv_at hl 5 rfl) ?_
      obtain ⟨z3, hc3, hf⟩ := bdS hf
      refine call_VRR (pc := 42) (As := [.int x1, .ref (q k0 0), .int x5]) (rest := []) C h (k_X4_reasonFor hn hk0 (q0 := q0) (q := q) σ0 (σ k0) x1 x5 hc3) cw_X4_108 0 (fkW_c0 ..) rfl (List.range 33) (fkW_re ..) (by decide) rfl rfl hl.1 (Nat.le_of_ble_eq_true rfl) dX4_toSign_42 ⟨Nat.le_of_ble_eq_true rfl, Nat.le_of_ble_eq_true rfl⟩ rfl rfl ⟨Nat.le_of_ble_eq_true rfl, Nat.le_of_ble_eq_true rfl⟩ (fun H locs h => ?_)
      refine W.eq (g2 := F0 m 45 ls [.int z3]) rfl ?_
      refine lv_istore (pc := 45) (lv' := [(6, .int z3), (0, .ref (q0 0)), (1, .int x1), (2, .int x2), (3, .int x3), (4, .ref (q k0 0)), (5, .int x5)]) hx hb dX4_toSign_45 hl (by decide) rfl (fun ls hl => ?_)
      refine lv_iload (pc := 47) hx hb dX4_toSign_47 (lv_at hl 0 rfl) ?_
      refine lv_if_eq (pc := 49) (tgt := 58) hx hb dX4_toSign_49 (by decide) (fun c9 => ?_) (fun c9 => ?_)
      · have hf := ifT c9 hf
        refine lv_iinc (pc := 58) (v := (x2 + (1 : Int32))) (lv' := [(2, .int (x2 + (1 : Int32))), (6, .int z3), (0, .ref (q0 0)), (1, .int x1), (3, .int x3), (4, .ref (q k0 0)), (5, .int x5)]) hx hb dX4_toSign_58 hl (k := 3) rfl rfl (by decide) rfl (fun ls hl => ?_)
        refine lv_iinc (pc := 61) (v := (x5 + (1 : Int32))) (lv' := [(5, .int (x5 + (1 : Int32))), (2, .int (x2 + (1 : Int32))), (6, .int z3), (0, .ref (q0 0)), (1, .int x1), (3, .int x3), (4, .ref (q k0 0))]) hx hb dX4_toSign_61 hl (k := 6) rfl rfl (by decide) rfl (fun ls hl => ?_)
        refine lv_goto (pc := 64) (tgt := 26) hx hb dX4_toSign_64 (by decide) ?_
        exact ih _ _ _ _ _ _ _ _ _ hf hk0 _ _ _ h (lv_sub hl [3, 4, 1, 5, 6, 0] rfl) kk
      · have hf := ifF c9 hf
        refine lv_iload (pc := 52) hx hb dX4_toSign_52 (lv_at hl 0 rfl) ?_
        refine lv_iconst (pc := 54) (v := 1) hx hb dX4_toSign_54 (by decide) ?_
        refine lv_icmp_ne (pc := 55) (tgt := 61) hx hb dX4_toSign_55 (by decide) (fun c9 => ?_) (fun c9 => ?_)
        · have hf := ifF c9 hf
          refine lv_iinc (pc := 61) (v := (x5 + (1 : Int32))) (lv' := [(5, .int (x5 + (1 : Int32))), (6, .int z3), (0, .ref (q0 0)), (1, .int x1), (2, .int x2), (3, .int x3), (4, .ref (q k0 0))]) hx hb dX4_toSign_61 hl (k := 6) rfl rfl (by decide) rfl (fun ls hl => ?_)
          refine lv_goto (pc := 64) (tgt := 26) hx hb dX4_toSign_64 (by decide) ?_
          exact ih _ _ _ _ _ _ _ _ _ hf hk0 _ _ _ h (lv_sub hl [2, 3, 4, 5, 6, 0] rfl) kk
        · have hf := ifT c9 hf
          refine lv_iinc (pc := 58) (v := (x2 + (1 : Int32))) (lv' := [(2, .int (x2 + (1 : Int32))), (6, .int z3), (0, .ref (q0 0)), (1, .int x1), (3, .int x3), (4, .ref (q k0 0)), (5, .int x5)]) hx hb dX4_toSign_58 hl (k := 3) rfl rfl (by decide) rfl (fun ls hl => ?_)
          refine lv_iinc (pc := 61) (v := (x5 + (1 : Int32))) (lv' := [(5, .int (x5 + (1 : Int32))), (2, .int (x2 + (1 : Int32))), (6, .int z3), (0, .ref (q0 0)), (1, .int x1), (3, .int x3), (4, .ref (q k0 0))]) hx hb dX4_toSign_61 hl (k := 6) rfl rfl (by decide) rfl (fun ls hl => ?_)
          refine lv_goto (pc := 64) (tgt := 26) hx hb dX4_toSign_64 (by decide) ?_
          exact ih _ _ _ _ _ _ _ _ _ hf hk0 _ _ _ h (lv_sub hl [3, 4, 1, 5, 6, 0] rfl) kk
set_option maxHeartbeats 400000 in
set_option maxRecDepth 100000 in
theorem l_X4_toSign_8 (hn : n ≤ 6) (C : Cx p s m args meth c cX4_toSign 7 RX4 D cA) : ∀ (fu : Nat) (σ0 : (Nat → Nat → Int32)) (σ : (Nat → Nat → Nat → Int32)) (x1 x2 x3 : Int32) (z : Int32 × Int32), f_X4_toSign_8 fu n σ0 σ x1 x2 x3 = some z → ∀ (H : Heap) (locs : List Loc) (ls : Array Slot), SR D s.heap (sW n q0 q cA σ0 σ) H locs → lv_has ls 7 [(0, .ref (q0 0)), (1, .int x1), (2, .int x2), (3, .int x3)] → (∀ (H : Heap) (locs : List Loc) (ls : Array Slot), SR D s.heap (sW n q0 q cA σ0 σ) H locs → lv_has ls 7 [(0, .ref (q0 0)), (1, .int x1), (2, .int z.1), (3, .int z.2)] → W p l e rm_X4_toSign s m args below meth c H locs 0 0 Q (F0 m 73 ls [])) → W p l e rm_X4_toSign s m args below meth c H locs 0 0 Q (F0 m 8 ls []) := by
  obtain ⟨hx, hb, hml, hown, hts, hK, hlk⟩ := id C
  intro fu
  induction fu with
  | zero => intro σ0 σ x1 x2 x3 z hf; rw [f_X4_toSign_8] at hf; cases hf
  | succ fu ih =>
    intro σ0 σ x1 x2 x3 z hf H locs ls h hl kk
    rw [f_X4_toSign_8] at hf
    refine lv_iload_n (pc := 8) hx hb dX4_toSign_8 rfl (lv_at hl 3 rfl) ?_
    refine lv_aload_n (pc := 9) hx hb dX4_toSign_9 rfl (lv_at hl 0 rfl) ?_
    refine g_get (pc := 10) (v := .int (nI n)) C h.1 0 (sW_c0 ..) fl_X4_31 rfl dX4_toSign_10 ?_
    refine lv_icmp_ge (pc := 13) (tgt := 73) hx hb dX4_toSign_13 (by decide) (fun c9 => ?_) (fun c9 => ?_)
    · have hf := ifT c9 hf
      have hf : some (x2, x3) = some z := hf
      cases hf
      exact kk _ _ _ h (lv_sub hl [0, 1, 2, 3] rfl)
    · have hf := ifF c9 hf
      refine lv_aload_n (pc := 16) hx hb dX4_toSign_16 rfl (lv_at hl 0 rfl) ?_
      refine lv_iload_n (pc := 17) hx hb dX4_toSign_17 rfl (lv_at hl 3 rfl) ?_
      obtain ⟨z2, hc2, hf⟩ := xnS hf
      refine call_VRR (pc := 18) (As := [.int x3]) (rest := []) C h (k_X4_envelopeAt hn (q0 := q0) (q := q) σ0 x3 hc2) cw_X4_43 0 (sW_c0 ..) rfl (List.range 13) (sW_f ..) (by decide) rfl rfl hl.1 (Nat.le_of_ble_eq_true rfl) dX4_toSign_18 ⟨Nat.le_of_ble_eq_true rfl, Nat.le_of_ble_eq_true rfl⟩ rfl rfl ⟨Nat.le_of_ble_eq_true rfl, Nat.le_of_ble_eq_true rfl⟩ (fun H locs h => ?_)
      refine W.eq (g2 := F0 m 21 ls [.ref (q z2 0)]) rfl ?_
      have hk2 : z2 < n := envAt_lt hn hc2
      have h := SR_perm (foc_perm hk2 q0 q cA σ0 σ) h
      refine lv_astore (pc := 21) (lv' := [(4, .ref (q z2 0)), (0, .ref (q0 0)), (1, .int x1), (2, .int x2), (3, .int x3)]) hx hb dX4_toSign_21 hl (by decide) rfl (fun ls hl => ?_)
      refine lv_iconst (pc := 23) (v := 0) hx hb dX4_toSign_23 (by decide) ?_
      refine lv_istore (pc := 24) (lv' := [(5, .int (0 : Int32)), (4, .ref (q z2 0)), (0, .ref (q0 0)), (1, .int x1), (2, .int x2), (3, .int x3)]) hx hb dX4_toSign_24 hl (by decide) rfl (fun ls hl => ?_)
      obtain ⟨z3, hc3, hf⟩ := bdS hf
      refine l_X4_toSign_26 hn C _ _ _ _ _ _ _ _ _ _ hc3 hk2 _ _ _ h (lv_sub hl [2, 3, 4, 5, 1, 0] rfl) (fun H locs ls h hl => ?_)
      refine lv_iinc (pc := 67) (v := (x3 + (1 : Int32))) (lv' := [(3, .int (x3 + (1 : Int32))), (0, .ref (q0 0)), (1, .int x1), (2, .int z3.1), (4, .ref (q z2 0)), (5, .int z3.2)]) hx hb dX4_toSign_67 hl (k := 3) rfl rfl (by decide) rfl (fun ls hl => ?_)
      refine lv_goto (pc := 70) (tgt := 8) hx hb dX4_toSign_70 (by decide) ?_
      have h := SR_perm (foc_perm hk2 q0 q cA σ0 σ).symm h
      exact ih _ _ _ _ _ _ hf _ _ _ h (lv_sub hl [1, 2, 3, 0] rfl) kk
set_option maxHeartbeats 400000 in
set_option maxRecDepth 100000 in
theorem k_X4_toSign {n : Nat} (hn : n ≤ 6) {q0 : Nat → Nat} {q : Nat → Nat → Nat} {cA : Nat → ClassId} {D : va_G} (σ0 : (Nat → Nat → Int32)) (σ : (Nat → Nat → Nat → Int32)) (x1 : Int32) {z : Int32} (hf : f_X4_toSign n σ0 σ x1 = some (.inr z)) : CtR yX4_toSign cX4_toSign 7 (some .int) rm_X4_toSign [.ref (q0 0), .int x1] D cA (sW n q0 q cA σ0 σ) (some (.int z)) 0 0 := by
  refine ctR_of (by decide) (Nat.le_of_ble_eq_true rfl) ?_
  intro p l e s m below meth c ls C hr hnm h hl
  have C : Cx p s m _ meth c cX4_toSign 7 RX4 D cA := C
  obtain ⟨hx, hb, hml, hown, hts, hK, hlk⟩ := id C
  replace hl : lv_has ls 7 [(0, .ref (q0 0)), (1, .int x1)] := hl
  rw [f_X4_toSign] at hf
  refine lv_iload_n (pc := 0) hx hb dX4_toSign_0 rfl (lv_at hl 1 rfl) ?_
  obtain ⟨z1, hc1, hf⟩ := xbR hf
  refine call_SRR (pc := 1) (As := [.int x1]) (rest := []) C h (k_X4_refuseNoPerson x1 hc1) cw_X4_47 [] rfl (by decide) rfl rfl hl.1 (Nat.le_of_ble_eq_true rfl) dX4_toSign_1 ⟨Nat.le_of_ble_eq_true rfl, Nat.le_of_ble_eq_true rfl⟩ rfl rfl ⟨Nat.le_of_ble_eq_true rfl, Nat.le_of_ble_eq_true rfl⟩ (fun H locs h => ?_)
  refine W.eq (g2 := F0 m 4 ls []) rfl ?_
  refine lv_iconst (pc := 4) (v := 0) hx hb dX4_toSign_4 (by decide) ?_
  refine lv_istore_n (pc := 5) (lv' := [(2, .int (0 : Int32)), (0, .ref (q0 0)), (1, .int x1)]) hx hb dX4_toSign_5 rfl hl (by decide) rfl (fun ls hl => ?_)
  refine lv_iconst (pc := 6) (v := 0) hx hb dX4_toSign_6 (by decide) ?_
  refine lv_istore_n (pc := 7) (lv' := [(3, .int (0 : Int32)), (2, .int (0 : Int32)), (0, .ref (q0 0)), (1, .int x1)]) hx hb dX4_toSign_7 rfl hl (by decide) rfl (fun ls hl => ?_)
  obtain ⟨z2, hc2, hf⟩ := bdS hf
  refine l_X4_toSign_8 hn C _ _ _ _ _ _ _ hc2 _ _ _ h (lv_sub hl [2, 3, 1, 0] rfl) (fun H locs ls h hl => ?_)
  refine lv_iload_n (pc := 73) hx hb dX4_toSign_73 rfl (lv_at hl 2 rfl) ?_
  cases hf
  exact ret_iR (pc := 74) C hr h dX4_toSign_74
abbrev rmT_X4_toSign : Room := { frames := 7, cells := 1, slots := 6, locals := 104 }
set_option maxHeartbeats 400000 in
set_option maxRecDepth 100000 in
theorem kT_X4_toSign {n : Nat} (hn : n ≤ 6) {q0 : Nat → Nat} {q : Nat → Nat → Nat} {cA : Nat → ClassId} {D : va_G} (σ0 : (Nat → Nat → Int32)) (σ : (Nat → Nat → Nat → Int32)) (x1 : Int32) {E : String} (hf : f_X4_toSign n σ0 σ x1 = some (.inl E)) : CtT yX4_toSign cX4_toSign 7 (some .int) rmT_X4_toSign [.ref (q0 0), .int x1] D cA (sW n q0 q cA σ0 σ) E := by
  refine ctT_of (by decide) (Nat.le_of_ble_eq_true rfl) ?_
  intro p l e s m below meth c ls hl0 C hex hX h hl
  have C : Cx p s m _ meth c cX4_toSign 7 RX4 D cA := C
  obtain ⟨hx, hb, hml, hown, hts, hK, hlk⟩ := id C
  replace hl : lv_has ls 7 [(0, .ref (q0 0)), (1, .int x1)] := hl
  rw [f_X4_toSign] at hf
  refine lv_iload_n (pc := 0) hx hb dX4_toSign_0 rfl (lv_at hl 1 rfl) ?_
  rcases xbT hf with hc0 | ⟨z1, hc1, hf⟩
  · exact call_TS (pc := 1) (As := [.int x1]) (rest := []) (Qc := QF) C hl0 hex hX h (kT_X4_refuseNoPerson x1 hc0) cw_X4_47 [] rfl (by decide) rfl rfl hl.1 (Nat.le_of_ble_eq_true rfl) dX4_toSign_1 ⟨Nat.le_of_ble_eq_true rfl, Nat.le_of_ble_eq_true rfl⟩ rfl rfl ⟨Nat.le_of_ble_eq_true rfl, Nat.le_of_ble_eq_true rfl⟩
  · refine call_SRR (pc := 1) (As := [.int x1]) (rest := []) C h (k_X4_refuseNoPerson x1 hc1) cw_X4_47 [] rfl (by decide) rfl rfl hl.1 (Nat.le_of_ble_eq_true rfl) dX4_toSign_1 ⟨Nat.le_of_ble_eq_true rfl, Nat.le_of_ble_eq_true rfl⟩ rfl rfl ⟨Nat.le_of_ble_eq_true rfl, Nat.le_of_ble_eq_true rfl⟩ (fun H locs h => ?_)
    refine W.eq (g2 := F0 m 4 ls []) rfl ?_
    refine lv_iconst (pc := 4) (v := 0) hx hb dX4_toSign_4 (by decide) ?_
    refine lv_istore_n (pc := 5) (lv' := [(2, .int (0 : Int32)), (0, .ref (q0 0)), (1, .int x1)]) hx hb dX4_toSign_5 rfl hl (by decide) rfl (fun ls hl => ?_)
    refine lv_iconst (pc := 6) (v := 0) hx hb dX4_toSign_6 (by decide) ?_
    refine lv_istore_n (pc := 7) (lv' := [(3, .int (0 : Int32)), (2, .int (0 : Int32)), (0, .ref (q0 0)), (1, .int x1)]) hx hb dX4_toSign_7 rfl hl (by decide) rfl (fun ls hl => ?_)
    obtain ⟨z2, hc2, hf⟩ := bdS hf
    cases hf
end
