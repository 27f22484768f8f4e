section
variable {p : Program} {l : Launch} {e : Env} {R : Room} {s : State} {m : MethodId} {args : Array Value} {below : List Frame} {meth : Method} {c : Code} {Q : State → Prop}
variable {D : va_G} {cA : Nat → ClassId} {A : Nat → Prop} {n : Nat} {q0 : Nat → Nat} {q : Nat → Nat → Nat}
abbrev rm_X4_ordersLeft : Room := { frames := 3, cells := 0, slots := 0, locals := 71 }
def f_X4_ordersLeft (n : Nat) (σ0 : (Nat → Nat → Int32)) (σ : (Nat → Nat → Nat → Int32)) (x1 : Int32) : Option (String ⊕ (Int32 × (Nat → Nat → Int32) × (Nat → Nat → Nat → Int32))) := (xb (f_X4_envelopeAt n x1) fun z1 => ((f_X0_ordersBehind (eo (σ z1) (σ0 2)) ((σ z1) 15 0)).bind fun z2 => (lt z2.2 fun t3 => (some (.inr (z2.1, ((va_up σ0 2 (t3 17)), va_up σ z1 t3)))))))
set_option maxHeartbeats 400000 in
set_option maxRecDepth 100000 in
theorem k_X4_ordersLeft {n : Nat} (hn : n ≤ 6) {q0 : Nat → Nat} {q : Nat → Nat → Nat} {cA : Nat → ClassId} {D : va_G} (σ0 : (Nat → Nat → Int32)) (σ : (Nat → Nat → Nat → Int32)) (x1 : Int32) {z : Int32 × (Nat → Nat → Int32) × (Nat → Nat → Nat → Int32)} (hf : f_X4_ordersLeft n σ0 σ x1 = some (.inr z)) : CtU yX4_ordersLeft cX4_ordersLeft 3 (some .int) rm_X4_ordersLeft [.ref (q0 0), .int x1] D cA (sW n q0 q cA σ0 σ) (sW n q0 q cA z.2.1 z.2.2) (some (.int z.1)) 0 0 := by
  refine ctU_of (by decide) (Nat.le_of_ble_eq_true rfl) ?_
  intro p l e s m below meth c ls C hr hnm h hl
  have C : Cx p s m _ meth c cX4_ordersLeft 3 RX4 D cA := C
  obtain ⟨hx, hb, hml, hown, hts, hK, hlk⟩ := id C
  replace hl : lv_has ls 3 [(0, .ref (q0 0)), (1, .int x1)] := hl
  rw [f_X4_ordersLeft] at hf
  refine lv_aload_n (pc := 0) hx hb dX4_ordersLeft_0 rfl (lv_at hl 0 rfl) ?_
  refine lv_iload_n (pc := 1) hx hb dX4_ordersLeft_1 rfl (lv_at hl 1 rfl) ?_
  obtain ⟨z1, hc1, hf⟩ := xbR hf
  refine call_VR (pc := 2) (As := [.int x1]) (rest := []) C h (k_X4_envelopeAt hn (q0 := q0) (q := q) σ0 x1 hc1) cw_X4_43 0 (sW_c0 ..) rfl (List.range 13) (sW_f ..) (by decide) rfl rfl hl.1 (Nat.le_of_ble_eq_true rfl) dX4_ordersLeft_2 ⟨Nat.le_of_ble_eq_true rfl, Nat.le_of_ble_eq_true rfl⟩ rfl rfl ⟨Nat.le_of_ble_eq_true rfl, Nat.le_of_ble_eq_true rfl⟩ (fun H locs h => ?_)
  refine W.eq (g2 := F0 m 5 ls [.ref (q z1 0)]) rfl ?_
  have hk1 : z1 < n := envAt_lt hn hc1
  have h := St_perm (foc_perm hk1 q0 q cA σ0 σ) h
  refine lv_astore_n (pc := 5) (lv' := [(2, .ref (q z1 0)), (0, .ref (q0 0)), (1, .int x1)]) hx hb dX4_ordersLeft_5 rfl hl (by decide) rfl (fun ls hl => ?_)
  refine lv_aload_n (pc := 6) hx hb dX4_ordersLeft_6 rfl (lv_at hl 0 rfl) ?_
  refine lv_aload_n (pc := 7) hx hb dX4_ordersLeft_7 rfl (lv_at hl 0 rfl) ?_
  refine g_get (pc := 8) (v := .int ((σ z1) 15 0)) C h.1 13 (fkW_c13 ..) fl_X4_179 rfl dX4_ordersLeft_8 ?_
  refine lv_aload_n (pc := 11) hx hb dX4_ordersLeft_11 rfl (lv_at hl 1 rfl) ?_
  refine g_get (pc := 12) (v := .ref (q0 3)) C h.1 0 (fkW_c0 ..) fl_X4_26 rfl dX4_ordersLeft_12 ?_
  obtain ⟨z2, hc2, hf⟩ := bdS hf
  obtain ⟨t3, et3, hf⟩ := ltS hf
  refine call_VU (pc := 15) (As := [.int ((σ z1) 15 0), .ref (q0 3)]) (rest := []) (ws' := (fkW n z1 q0 q cA (va_up σ0 2 (t3 17)) t3 σ)) C h (k_X0_ordersBehind (q := eoq (q z1) q0) (eo (σ z1) (σ0 2)) ((σ z1) 15 0) hc2) cw_X4_188 13 (fkW_c13 ..) rfl [13, 14, 15, 16, 17, 18, 19, 20, 21, 22, 23, 24, 25, 26, 27, 28, 29, 30, 31, 32, 3, 4] (fkW_eo ..) (by decide) (eoW_fst _ _ _ _) ((fkW_eop ..).trans (by rw [et3])) rfl rfl hl.1 (Nat.le_of_ble_eq_true rfl) dX4_ordersLeft_15 ⟨Nat.le_of_ble_eq_true rfl, Nat.le_of_ble_eq_true rfl⟩ rfl rfl ⟨Nat.le_of_ble_eq_true rfl, Nat.le_of_ble_eq_true rfl⟩ (fun H locs h => ?_)
  refine W.eq (g2 := F0 m 18 ls [.int z2.1]) rfl ?_
  cases hf
  have h := St_perm (unf_perm hk1 q0 q cA (va_up σ0 2 (t3 17)) t3 σ) h
  exact ret_iU (pc := 18) C hr h dX4_ordersLeft_18
abbrev rmT_X4_ordersLeft : Room := { frames := 7, cells := 1, slots := 6, locals := 104 }
set_option maxHeartbeats 400000 in
set_option maxRecDepth 100000 in
theorem kT_X4_ordersLeft {n : Nat} (hn : n ≤ 6) {q0 : Nat → Nat} {q : Nat → Nat → Nat} {cA : Nat → ClassId} {D : va_G} (σ0 : (Nat → Nat → Int32)) (σ : (Nat → Nat → Nat → Int32)) (x1 : Int32) {E : String} (hf : f_X4_ordersLeft n σ0 σ x1 = some (.inl E)) : CtT yX4_ordersLeft cX4_ordersLeft 3 (some .int) rmT_X4_ordersLeft [.ref (q0 0), .int x1] D cA (sW n q0 q cA σ0 σ) E := by
  refine ctT_of (by decide) (Nat.le_of_ble_eq_true rfl) ?_
  intro p l e s m below meth c ls hl0 C hex hX h hl
  have C : Cx p s m _ meth c cX4_ordersLeft 3 RX4 D cA := C
  obtain ⟨hx, hb, hml, hown, hts, hK, hlk⟩ := id C
  replace hl : lv_has ls 3 [(0, .ref (q0 0)), (1, .int x1)] := hl
  rw [f_X4_ordersLeft] at hf
  refine lv_aload_n (pc := 0) hx hb dX4_ordersLeft_0 rfl (lv_at hl 0 rfl) ?_
  refine lv_iload_n (pc := 1) hx hb dX4_ordersLeft_1 rfl (lv_at hl 1 rfl) ?_
  rcases xbT hf with hc0 | ⟨z1, hc1, hf⟩
  · exact call_TV (pc := 2) (As := [.int x1]) (rest := []) (Qc := QF) C hl0 hex hX h (kT_X4_envelopeAt hn (q0 := q0) (q := q) σ0 x1 hc0) cw_X4_43 0 (sW_c0 ..) rfl (List.range 13) (sW_f ..) (by decide) rfl rfl hl.1 (Nat.le_of_ble_eq_true rfl) dX4_ordersLeft_2 ⟨Nat.le_of_ble_eq_true rfl, Nat.le_of_ble_eq_true rfl⟩ rfl rfl ⟨Nat.le_of_ble_eq_true rfl, Nat.le_of_ble_eq_true rfl⟩
  · refine call_VRR (pc := 2) (As := [.int x1]) (rest := []) C h (k_X4_envelopeAt hn (q0 := q0) (q := q) σ0 x1 hc1) cw_X4_43 0 (sW_c0 ..) rfl (List.range 13) (sW_f ..) (by decide) rfl rfl hl.1 (Nat.le_of_ble_eq_true rfl) dX4_ordersLeft_2 ⟨Nat.le_of_ble_eq_true rfl, Nat.le_of_ble_eq_true rfl⟩ rfl rfl ⟨Nat.le_of_ble_eq_true rfl, Nat.le_of_ble_eq_true rfl⟩ (fun H locs h => ?_)
    refine W.eq (g2 := F0 m 5 ls [.ref (q z1 0)]) rfl ?_
    have hk1 : z1 < n := envAt_lt hn hc1
    have h := SR_perm (foc_perm hk1 q0 q cA σ0 σ) h
    refine lv_astore_n (pc := 5) (lv' := [(2, .ref (q z1 0)), (0, .ref (q0 0)), (1, .int x1)]) hx hb dX4_ordersLeft_5 rfl hl (by decide) rfl (fun ls hl => ?_)
    refine lv_aload_n (pc := 6) hx hb dX4_ordersLeft_6 rfl (lv_at hl 0 rfl) ?_
    refine lv_aload_n (pc := 7) hx hb dX4_ordersLeft_7 rfl (lv_at hl 0 rfl) ?_
    refine g_get (pc := 8) (v := .int ((σ z1) 15 0)) C h.1 13 (fkW_c13 ..) fl_X4_179 rfl dX4_ordersLeft_8 ?_
    refine lv_aload_n (pc := 11) hx hb dX4_ordersLeft_11 rfl (lv_at hl 1 rfl) ?_
    refine g_get (pc := 12) (v := .ref (q0 3)) C h.1 0 (fkW_c0 ..) fl_X4_26 rfl dX4_ordersLeft_12 ?_
    obtain ⟨z2, hc2, hf⟩ := bdS hf
    obtain ⟨t3, _, hf⟩ := ltS hf
    cases hf
abbrev rm_X4_events : Room := { frames := 1, cells := 0, slots := 0, locals := 22 }
def f_X4_events (n : Nat) (σ0 : (Nat → Nat → Int32)) (σ : (Nat → Nat → Nat → Int32)) (x1 : Int32) : Option (String ⊕ (Int32)) := (xb (f_X4_envelopeAt n x1) fun z1 => (some (.inr ((σ z1) 9 0))))
set_option maxHeartbeats 400000 in
set_option maxRecDepth 100000 in
theorem k_X4_events {n : Nat} (hn : n ≤ 6) {q0 : Nat → Nat} {q : Nat → Nat → Nat} {cA : Nat → ClassId} {D : va_G} (σ0 : (Nat → Nat → Int32)) (σ : (Nat → Nat → Nat → Int32)) (x1 : Int32) {z : Int32} (hf : f_X4_events n σ0 σ x1 = some (.inr z)) : CtR yX4_events cX4_events 2 (some .int) rm_X4_events [.ref (q0 0), .int x1] D cA (sW n q0 q cA σ0 σ) (some (.int z)) 0 0 := by
  refine ctR_of (by decide) (Nat.le_of_ble_eq_true rfl) ?_
  intro p l e s m below meth c ls C hr hnm h hl
  have C : Cx p s m _ meth c cX4_events 2 RX4 D cA := C
  obtain ⟨hx, hb, hml, hown, hts, hK, hlk⟩ := id C
  replace hl : lv_has ls 2 [(0, .ref (q0 0)), (1, .int x1)] := hl
  rw [f_X4_events] at hf
  refine lv_aload_n (pc := 0) hx hb dX4_events_0 rfl (lv_at hl 0 rfl) ?_
  refine lv_iload_n (pc := 1) hx hb dX4_events_1 rfl (lv_at hl 1 rfl) ?_
  obtain ⟨z1, hc1, hf⟩ := xbR hf
  refine call_VRR (pc := 2) (As := [.int x1]) (rest := []) C h (k_X4_envelopeAt hn (q0 := q0) (q := q) σ0 x1 hc1) cw_X4_43 0 (sW_c0 ..) rfl (List.range 13) (sW_f ..) (by decide) rfl rfl hl.1 (Nat.le_of_ble_eq_true rfl) dX4_events_2 ⟨Nat.le_of_ble_eq_true rfl, Nat.le_of_ble_eq_true rfl⟩ rfl rfl ⟨Nat.le_of_ble_eq_true rfl, Nat.le_of_ble_eq_true rfl⟩ (fun H locs h => ?_)
  refine W.eq (g2 := F0 m 5 ls [.ref (q z1 0)]) rfl ?_
  have hk1 : z1 < n := envAt_lt hn hc1
  have h := SR_perm (foc_perm hk1 q0 q cA σ0 σ) h
  refine g_get (pc := 5) (v := .ref (q z1 11)) C h.1 13 (fkW_c13 ..) fl_X4_196 rfl dX4_events_5 ?_
  refine g_get (pc := 8) (v := .int ((σ z1) 9 0)) C h.1 24 (fkW_c24 ..) fl_X4_200 rfl dX4_events_8 ?_
  cases hf
  exact ret_iR (pc := 11) C hr h dX4_events_11
abbrev rmT_X4_events : Room := { frames := 7, cells := 1, slots := 6, locals := 104 }
set_option maxHeartbeats 400000 in
set_option maxRecDepth 100000 in
theorem kT_X4_events {n : Nat} (hn : n ≤ 6) {q0 : Nat → Nat} {q : Nat → Nat → Nat} {cA : Nat → ClassId} {D : va_G} (σ0 : (Nat → Nat → Int32)) (σ : (Nat → Nat → Nat → Int32)) (x1 : Int32) {E : String} (hf : f_X4_events n σ0 σ x1 = some (.inl E)) : CtT yX4_events cX4_events 2 (some .int) rmT_X4_events [.ref (q0 0), .int x1] D cA (sW n q0 q cA σ0 σ) E := by
  refine ctT_of (by decide) (Nat.le_of_ble_eq_true rfl) ?_
  intro p l e s m below meth c ls hl0 C hex hX h hl
  have C : Cx p s m _ meth c cX4_events 2 RX4 D cA := C
  obtain ⟨hx, hb, hml, hown, hts, hK, hlk⟩ := id C
  replace hl : lv_has ls 2 [(0, .ref (q0 0)), (1, .int x1)] := hl
  rw [f_X4_events] at hf
  refine lv_aload_n (pc := 0) hx hb dX4_events_0 rfl (lv_at hl 0 rfl) ?_
  refine lv_iload_n (pc := 1) hx hb dX4_events_1 rfl (lv_at hl 1 rfl) ?_
  rcases xbT hf with hc0 | ⟨z1, hc1, hf⟩
  · exact call_TV (pc := 2) (As := [.int x1]) (rest := []) (Qc := QF) C hl0 hex hX h (kT_X4_envelopeAt hn (q0 := q0) (q := q) σ0 x1 hc0) cw_X4_43 0 (sW_c0 ..) rfl (List.range 13) (sW_f ..) (by decide) rfl rfl hl.1 (Nat.le_of_ble_eq_true rfl) dX4_events_2 ⟨Nat.le_of_ble_eq_true rfl, Nat.le_of_ble_eq_true rfl⟩ rfl rfl ⟨Nat.le_of_ble_eq_true rfl, Nat.le_of_ble_eq_true rfl⟩
  · refine call_VRR (pc := 2) (As := [.int x1]) (rest := []) C h (k_X4_envelopeAt hn (q0 := q0) (q := q) σ0 x1 hc1) cw_X4_43 0 (sW_c0 ..) rfl (List.range 13) (sW_f ..) (by decide) rfl rfl hl.1 (Nat.le_of_ble_eq_true rfl) dX4_events_2 ⟨Nat.le_of_ble_eq_true rfl, Nat.le_of_ble_eq_true rfl⟩ rfl rfl ⟨Nat.le_of_ble_eq_true rfl, Nat.le_of_ble_eq_true rfl⟩ (fun H locs h => ?_)
    refine W.eq (g2 := F0 m 5 ls [.ref (q z1 0)]) rfl ?_
    have hk1 : z1 < n := envAt_lt hn hc1
    have h := SR_perm (foc_perm hk1 q0 q cA σ0 σ) h
    refine g_get (pc := 5) (v := .ref (q z1 11)) C h.1 13 (fkW_c13 ..) fl_X4_196 rfl dX4_events_5 ?_
    refine g_get (pc := 8) (v := .int ((σ z1) 9 0)) C h.1 24 (fkW_c24 ..) fl_X4_200 rfl dX4_events_8 ?_
    cases hf
abbrev rm_X4_kindOf : Room := { frames := 1, cells := 0, slots := 0, locals := 22 }
def f_X4_kindOf (n : Nat) (σ0 : (Nat → Nat → Int32)) (σ : (Nat → Nat → Nat → Int32)) (x1 x2 : Int32) : Option (String ⊕ (Int32)) := (xb (f_X4_envelopeAt n x1) fun z1 => (xb (f_X4_refuseNoEvent (hs (σ z1)) x2) fun z2 => (some (.inr (rg 49 ((σ z1) 5) x2)))))
set_option maxHeartbeats 400000 in
set_option maxRecDepth 100000 in
theorem k_X4_kindOf {n : Nat} (hn : n ≤ 6) {q0 : Nat → Nat} {q : Nat → Nat → Nat} {cA : Nat → ClassId} {D : va_G} (σ0 : (Nat → Nat → Int32)) (σ : (Nat → Nat → Nat → Int32)) (x1 x2 : Int32) {z : Int32} (hf : f_X4_kindOf n σ0 σ x1 x2 = some (.inr z)) : CtR yX4_kindOf cX4_kindOf 4 (some .int) rm_X4_kindOf [.ref (q0 0), .int x1, .int x2] D cA (sW n q0 q cA σ0 σ) (some (.int z)) 0 0 := by
  refine ctR_of (by decide) (Nat.le_of_ble_eq_true rfl) ?_
  intro p l e s m below meth c ls C hr hnm h hl
  have C : Cx p s m _ meth c cX4_kindOf 4 RX4 D cA := C
  obtain ⟨hx, hb, hml, hown, hts, hK, hlk⟩ := id C
  replace hl : lv_has ls 4 [(0, .ref (q0 0)), (1, .int x1), (2, .int x2)] := hl
  rw [f_X4_kindOf] at hf
  refine lv_aload_n (pc := 0) hx hb dX4_kindOf_0 rfl (lv_at hl 0 rfl) ?_
  refine lv_iload_n (pc := 1) hx hb dX4_kindOf_1 rfl (lv_at hl 1 rfl) ?_
  obtain ⟨z1, hc1, hf⟩ := xbR hf
  refine call_VRR (pc := 2) (As := [.int x1]) (rest := []) C h (k_X4_envelopeAt hn (q0 := q0) (q := q) σ0 x1 hc1) cw_X4_43 0 (sW_c0 ..) rfl (List.range 13) (sW_f ..) (by decide) rfl rfl hl.1 (Nat.le_of_ble_eq_true rfl) dX4_kindOf_2 ⟨Nat.le_of_ble_eq_true rfl, Nat.le_of_ble_eq_true rfl⟩ rfl rfl ⟨Nat.le_of_ble_eq_true rfl, Nat.le_of_ble_eq_true rfl⟩ (fun H locs h => ?_)
  refine W.eq (g2 := F0 m 5 ls [.ref (q z1 0)]) rfl ?_
  have hk1 : z1 < n := envAt_lt hn hc1
  have h := SR_perm (foc_perm hk1 q0 q cA σ0 σ) h
  refine g_get (pc := 5) (v := .ref (q z1 11)) C h.1 13 (fkW_c13 ..) fl_X4_196 rfl dX4_kindOf_5 ?_
  refine lv_astore_n (pc := 8) (lv' := [(3, .ref (q z1 11)), (0, .ref (q0 0)), (1, .int x1), (2, .int x2)]) hx hb dX4_kindOf_8 rfl hl (by decide) rfl (fun ls hl => ?_)
  refine lv_aload_n (pc := 9) hx hb dX4_kindOf_9 rfl (lv_at hl 0 rfl) ?_
  refine lv_iload_n (pc := 10) hx hb dX4_kindOf_10 rfl (lv_at hl 3 rfl) ?_
  obtain ⟨z2, hc2, hf⟩ := xbR hf
  refine call_SRR (pc := 11) (As := [.ref (q z1 11), .int x2]) (rest := []) C h (k_X4_refuseNoEvent (q := fun i => q z1 (i + 11)) (hs (σ z1)) x2 hc2) cw_X4_205 [24, 25, 26, 27, 28, 29, 30, 31, 32] (fkW_h ..) (by decide) rfl rfl hl.1 (Nat.le_of_ble_eq_true rfl) dX4_kindOf_11 ⟨Nat.le_of_ble_eq_true rfl, Nat.le_of_ble_eq_true rfl⟩ rfl rfl ⟨Nat.le_of_ble_eq_true rfl, Nat.le_of_ble_eq_true rfl⟩ (fun H locs h => ?_)
  refine W.eq (g2 := F0 m 14 ls []) rfl ?_
  refine lv_aload_n (pc := 14) hx hb dX4_kindOf_14 rfl (lv_at hl 0 rfl) ?_
  refine g_get (pc := 15) (v := .ref (q z1 12)) C h.1 24 (fkW_c24 ..) fl_X4_209 rfl dX4_kindOf_15 ?_
  refine lv_iload_n (pc := 18) hx hb dX4_kindOf_18 rfl (lv_at hl 3 rfl) ?_
  refine call_rgetR (pc := 19) (rest := []) C h (by decide) (by decide) (fkW_c25 ..) (fkW_c29 ..) cw_X4_121 hl.1 (Nat.le_of_ble_eq_true rfl) dX4_kindOf_19 ⟨Nat.le_of_ble_eq_true rfl, Nat.le_of_ble_eq_true rfl⟩ rfl rfl ⟨Nat.le_of_ble_eq_true rfl, Nat.le_of_ble_eq_true rfl⟩ (fun H locs h => ?_)
  cases hf
  exact ret_iR (pc := 22) C hr h dX4_kindOf_22
abbrev rmT_X4_kindOf : Room := { frames := 7, cells := 1, slots := 6, locals := 104 }
set_option maxHeartbeats 400000 in
set_option maxRecDepth 100000 in
theorem kT_X4_kindOf {n : Nat} (hn : n ≤ 6) {q0 : Nat → Nat} {q : Nat → Nat → Nat} {cA : Nat → ClassId} {D : va_G} (σ0 : (Nat → Nat → Int32)) (σ : (Nat → Nat → Nat → Int32)) (x1 x2 : Int32) {E : String} (hf : f_X4_kindOf n σ0 σ x1 x2 = some (.inl E)) : CtT yX4_kindOf cX4_kindOf 4 (some .int) rmT_X4_kindOf [.ref (q0 0), .int x1, .int x2] D cA (sW n q0 q cA σ0 σ) E := by
  refine ctT_of (by decide) (Nat.le_of_ble_eq_true rfl) ?_
  intro p l e s m below meth c ls hl0 C hex hX h hl
  have C : Cx p s m _ meth c cX4_kindOf 4 RX4 D cA := C
  obtain ⟨hx, hb, hml, hown, hts, hK, hlk⟩ := id C
  replace hl : lv_has ls 4 [(0, .ref (q0 0)), (1, .int x1), (2, .int x2)] := hl
  rw [f_X4_kindOf] at hf
  refine lv_aload_n (pc := 0) hx hb dX4_kindOf_0 rfl (lv_at hl 0 rfl) ?_
  refine lv_iload_n (pc := 1) hx hb dX4_kindOf_1 rfl (lv_at hl 1 rfl) ?_
  rcases xbT hf with hc0 | ⟨z1, hc1, hf⟩
  · exact call_TV (pc := 2) (As := [.int x1]) (rest := []) (Qc := QF) C hl0 hex hX h (kT_X4_envelopeAt hn (q0 := q0) (q := q) σ0 x1 hc0) cw_X4_43 0 (sW_c0 ..) rfl (List.range 13) (sW_f ..) (by decide) rfl rfl hl.1 (Nat.le_of_ble_eq_true rfl) dX4_kindOf_2 ⟨Nat.le_of_ble_eq_true rfl, Nat.le_of_ble_eq_true rfl⟩ rfl rfl ⟨Nat.le_of_ble_eq_true rfl, Nat.le_of_ble_eq_true rfl⟩
  · refine call_VRR (pc := 2) (As := [.int x1]) (rest := []) C h (k_X4_envelopeAt hn (q0 := q0) (q := q) σ0 x1 hc1) cw_X4_43 0 (sW_c0 ..) rfl (List.range 13) (sW_f ..) (by decide) rfl rfl hl.1 (Nat.le_of_ble_eq_true rfl) dX4_kindOf_2 ⟨Nat.le_of_ble_eq_true rfl, Nat.le_of_ble_eq_true rfl⟩ rfl rfl ⟨Nat.le_of_ble_eq_true rfl, Nat.le_of_ble_eq_true rfl⟩ (fun H locs h => ?_)
    refine W.eq (g2 := F0 m 5 ls [.ref (q z1 0)]) rfl ?_
    have hk1 : z1 < n := envAt_lt hn hc1
    have h := SR_perm (foc_perm hk1 q0 q cA σ0 σ) h
    refine g_get (pc := 5) (v := .ref (q z1 11)) C h.1 13 (fkW_c13 ..) fl_X4_196 rfl dX4_kindOf_5 ?_
    refine lv_astore_n (pc := 8) (lv' := [(3, .ref (q z1 11)), (0, .ref (q0 0)), (1, .int x1), (2, .int x2)]) hx hb dX4_kindOf_8 rfl hl (by decide) rfl (fun ls hl => ?_)
    refine lv_aload_n (pc := 9) hx hb dX4_kindOf_9 rfl (lv_at hl 0 rfl) ?_
    refine lv_iload_n (pc := 10) hx hb dX4_kindOf_10 rfl (lv_at hl 3 rfl) ?_
    rcases xbT hf with hc0 | ⟨z2, hc2, hf⟩
    · exact call_TS (pc := 11) (As := [.ref (q z1 11), .int x2]) (rest := []) (Qc := QF) C hl0 hex hX h (kT_X4_refuseNoEvent (q := fun i => q z1 (i + 11)) (hs (σ z1)) x2 hc0) cw_X4_205 [24, 25, 26, 27, 28, 29, 30, 31, 32] (fkW_h ..) (by decide) rfl rfl hl.1 (Nat.le_of_ble_eq_true rfl) dX4_kindOf_11 ⟨Nat.le_of_ble_eq_true rfl, Nat.le_of_ble_eq_true rfl⟩ rfl rfl ⟨Nat.le_of_ble_eq_true rfl, Nat.le_of_ble_eq_true rfl⟩
    · refine call_SRR (pc := 11) (As := [.ref (q z1 11), .int x2]) (rest := []) C h (k_X4_refuseNoEvent (q := fun i => q z1 (i + 11)) (hs (σ z1)) x2 hc2) cw_X4_205 [24, 25, 26, 27, 28, 29, 30, 31, 32] (fkW_h ..) (by decide) rfl rfl hl.1 (Nat.le_of_ble_eq_true rfl) dX4_kindOf_11 ⟨Nat.le_of_ble_eq_true rfl, Nat.le_of_ble_eq_true rfl⟩ rfl rfl ⟨Nat.le_of_ble_eq_true rfl, Nat.le_of_ble_eq_true rfl⟩ (fun H locs h => ?_)
      refine W.eq (g2 := F0 m 14 ls []) rfl ?_
      refine lv_aload_n (pc := 14) hx hb dX4_kindOf_14 rfl (lv_at hl 0 rfl) ?_
      refine g_get (pc := 15) (v := .ref (q z1 12)) C h.1 24 (fkW_c24 ..) fl_X4_209 rfl dX4_kindOf_15 ?_
      refine lv_iload_n (pc := 18) hx hb dX4_kindOf_18 rfl (lv_at hl 3 rfl) ?_
      refine call_rgetR (pc := 19) (rest := []) C h (by decide) (by decide) (fkW_c25 ..) (fkW_c29 ..) cw_X4_121 hl.1 (Nat.le_of_ble_eq_true rfl) dX4_kindOf_19 ⟨Nat.le_of_ble_eq_true rfl, Nat.le_of_ble_eq_true rfl⟩ rfl rfl ⟨Nat.le_of_ble_eq_true rfl, Nat.le_of_ble_eq_true rfl⟩ (fun H locs h => ?_)
      cases hf
abbrev rm_X4_personOf : Room := { frames := 1, cells := 0, slots := 0, locals := 22 }
def f_X4_personOf (n : Nat) (σ0 : (Nat → Nat → Int32)) (σ : (Nat → Nat → Nat → Int32)) (x1 x2 : Int32) : Option (String ⊕ (Int32)) := (xb (f_X4_envelopeAt n x1) fun z1 => (xb (f_X4_refuseNoEvent (hs (σ z1)) x2) fun z2 => (some (.inr (rg 49 ((σ z1) 6) x2)))))
set_option maxHeartbeats 400000 in
set_option maxRecDepth 100000 in
theorem k_X4_personOf {n : Nat} (hn : n ≤ 6) {q0 : Nat → Nat} {q : Nat → Nat → Nat} {cA : Nat → ClassId} {D : va_G} (σ0 : (Nat → Nat → Int32)) (σ : (Nat → Nat → Nat → Int32)) (x1 x2 : Int32) {z : Int32} (hf : f_X4_personOf n σ0 σ x1 x2 = some (.inr z)) : CtR yX4_personOf cX4_personOf 4 (some .int) rm_X4_personOf [.ref (q0 0), .int x1, .int x2] D cA (sW n q0 q cA σ0 σ) (some (.int z)) 0 0 := by
  refine ctR_of (by decide) (Nat.le_of_ble_eq_true rfl) ?_
  intro p l e s m below meth c ls C hr hnm h hl
  have C : Cx p s m _ meth c cX4_personOf 4 RX4 D cA := C
  obtain ⟨hx, hb, hml, hown, hts, hK, hlk⟩ := id C
  replace hl : lv_has ls 4 [(0, .ref (q0 0)), (1, .int x1), (2, .int x2)] := hl
  rw [f_X4_personOf] at hf
  refine lv_aload_n (pc := 0) hx hb dX4_personOf_0 rfl (lv_at hl 0 rfl) ?_
  refine lv_iload_n (pc := 1) hx hb dX4_personOf_1 rfl (lv_at hl 1 rfl) ?_
  obtain ⟨z1, hc1, hf⟩ := xbR hf
  refine call_VRR (pc := 2) (As := [.int x1]) (rest := []) C h (k_X4_envelopeAt hn (q0 := q0) (q := q) σ0 x1 hc1) cw_X4_43 0 (sW_c0 ..) rfl (List.range 13) (sW_f ..) (by decide) rfl rfl hl.1 (Nat.le_of_ble_eq_true rfl) dX4_personOf_2 ⟨Nat.le_of_ble_eq_true rfl, Nat.le_of_ble_eq_true rfl⟩ rfl rfl ⟨Nat.le_of_ble_eq_true rfl, Nat.le_of_ble_eq_true rfl⟩ (fun H locs h => ?_)
  refine W.eq (g2 := F0 m 5 ls [.ref (q z1 0)]) rfl ?_
  have hk1 : z1 < n := envAt_lt hn hc1
  have h := SR_perm (foc_perm hk1 q0 q cA σ0 σ) h
  refine g_get (pc := 5) (v := .ref (q z1 11)) C h.1 13 (fkW_c13 ..) fl_X4_196 rfl dX4_personOf_5 ?_
  refine lv_astore_n (pc := 8) (lv' := [(3, .ref (q z1 11)), (0, .ref (q0 0)), (1, .int x1), (2, .int x2)]) hx hb dX4_personOf_8 rfl hl (by decide) rfl (fun ls hl => ?_)
  refine lv_aload_n (pc := 9) hx hb dX4_personOf_9 rfl (lv_at hl 0 rfl) ?_
  refine lv_iload_n (pc := 10) hx hb dX4_personOf_10 rfl (lv_at hl 3 rfl) ?_
  obtain ⟨z2, hc2, hf⟩ := xbR hf
  refine call_SRR (pc := 11) (As := [.ref (q z1 11), .int x2]) (rest := []) C h (k_X4_refuseNoEvent (q := fun i => q z1 (i + 11)) (hs (σ z1)) x2 hc2) cw_X4_205 [24, 25, 26, 27, 28, 29, 30, 31, 32] (fkW_h ..) (by decide) rfl rfl hl.1 (Nat.le_of_ble_eq_true rfl) dX4_personOf_11 ⟨Nat.le_of_ble_eq_true rfl, Nat.le_of_ble_eq_true rfl⟩ rfl rfl ⟨Nat.le_of_ble_eq_true rfl, Nat.le_of_ble_eq_true rfl⟩ (fun H locs h => ?_)
  refine W.eq (g2 := F0 m 14 ls []) rfl ?_
  refine lv_aload_n (pc := 14) hx hb dX4_personOf_14 rfl (lv_at hl 0 rfl) ?_
  refine g_get (pc := 15) (v := .ref (q z1 13)) C h.1 24 (fkW_c24 ..) fl_X4_212 rfl dX4_personOf_15 ?_
  refine lv_iload_n (pc := 18) hx hb dX4_personOf_18 rfl (lv_at hl 3 rfl) ?_
  refine call_rgetR (pc := 19) (rest := []) C h (by decide) (by decide) (fkW_c26 ..) (fkW_c30 ..) cw_X4_121 hl.1 (Nat.le_of_ble_eq_true rfl) dX4_personOf_19 ⟨Nat.le_of_ble_eq_true rfl, Nat.le_of_ble_eq_true rfl⟩ rfl rfl ⟨Nat.le_of_ble_eq_true rfl, Nat.le_of_ble_eq_true rfl⟩ (fun H locs h => ?_)
  cases hf
  exact ret_iR (pc := 22) C hr h dX4_personOf_22
abbrev rmT_X4_personOf : Room := { frames := 7, cells := 1, slots := 6, locals := 104 }
set_option maxHeartbeats 400000 in
set_option maxRecDepth 100000 in
theorem kT_X4_personOf {n : Nat} (hn : n ≤ 6) {q0 : Nat → Nat} {q : Nat → Nat → Nat} {cA : Nat → ClassId} {D : va_G} (σ0 : (Nat → Nat → Int32)) (σ : (Nat → Nat → Nat → Int32)) (x1 x2 : Int32) {E : String} (hf : f_X4_personOf n σ0 σ x1 x2 = some (.inl E)) : CtT yX4_personOf cX4_personOf 4 (some .int) rmT_X4_personOf [.ref (q0 0), .int x1, .int x2] D cA (sW n q0 q cA σ0 σ) E := by
  refine ctT_of (by decide) (Nat.le_of_ble_eq_true rfl) ?_
  intro p l e s m below meth c ls hl0 C hex hX h hl
  have C : Cx p s m _ meth c cX4_personOf 4 RX4 D cA := C
  obtain ⟨hx, hb, hml, hown, hts, hK, hlk⟩ := id C
  replace hl : lv_has ls 4 [(0, .ref (q0 0)), (1, .int x1), (2, .int x2)] := hl
  rw [f_X4_personOf] at hf
  refine lv_aload_n (pc := 0) hx hb dX4_personOf_0 rfl (lv_at hl 0 rfl) ?_
  refine lv_iload_n (pc := 1) hx hb dX4_personOf_1 rfl (lv_at hl 1 rfl) ?_
  rcases xbT hf with hc0 | ⟨z1, hc1, hf⟩
  · exact call_TV (pc := 2) (As := [.int x1]) (rest := []) (Qc := QF) C hl0 hex hX h (kT_X4_envelopeAt hn (q0 := q0) (q := q) σ0 x1 hc0) cw_X4_43 0 (sW_c0 ..) rfl (List.range 13) (sW_f ..) (by decide) rfl rfl hl.1 (Nat.le_of_ble_eq_true rfl) dX4_personOf_2 ⟨Nat.le_of_ble_eq_true rfl, Nat.le_of_ble_eq_true rfl⟩ rfl rfl ⟨Nat.le_of_ble_eq_true rfl, Nat.le_of_ble_eq_true rfl⟩
  · refine call_VRR (pc := 2) (As := [.int x1]) (rest := []) C h (k_X4_envelopeAt hn (q0 := q0) (q := q) σ0 x1 hc1) cw_X4_43 0 (sW_c0 ..) rfl (List.range 13) (sW_f ..) (by decide) rfl rfl hl.1 (Nat.le_of_ble_eq_true rfl) dX4_personOf_2 ⟨Nat.le_of_ble_eq_true rfl, Nat.le_of_ble_eq_true rfl⟩ rfl rfl ⟨Nat.le_of_ble_eq_true rfl, Nat.le_of_ble_eq_true rfl⟩ (fun H locs h => ?_)
    refine W.eq (g2 := F0 m 5 ls [.ref (q z1 0)]) rfl ?_
    have hk1 : z1 < n := envAt_lt hn hc1
    have h := SR_perm (foc_perm hk1 q0 q cA σ0 σ) h
    refine g_get (pc := 5) (v := .ref (q z1 11)) C h.1 13 (fkW_c13 ..) fl_X4_196 rfl dX4_personOf_5 ?_
    refine lv_astore_n (pc := 8) (lv' := [(3, .ref (q z1 11)), (0, .ref (q0 0)), (1, .int x1), (2, .int x2)]) hx hb dX4_personOf_8 rfl hl (by decide) rfl (fun ls hl => ?_)
    refine lv_aload_n (pc := 9) hx hb dX4_personOf_9 rfl (lv_at hl 0 rfl) ?_
    refine lv_iload_n (pc := 10) hx hb dX4_personOf_10 rfl (lv_at hl 3 rfl) ?_
    rcases xbT hf with hc0 | ⟨z2, hc2, hf⟩
    · exact call_TS (pc := 11) (As := [.ref (q z1 11), .int x2]) (rest := []) (Qc := QF) C hl0 hex hX h (kT_X4_refuseNoEvent (q := fun i => q z1 (i + 11)) (hs (σ z1)) x2 hc0) cw_X4_205 [24, 25, 26, 27, 28, 29, 30, 31, 32] (fkW_h ..) (by decide) rfl rfl hl.1 (Nat.le_of_ble_eq_true rfl) dX4_personOf_11 ⟨Nat.le_of_ble_eq_true rfl, Nat.le_of_ble_eq_true rfl⟩ rfl rfl ⟨Nat.le_of_ble_eq_true rfl, Nat.le_of_ble_eq_true rfl⟩
    · refine call_SRR (pc := 11) (As := [.ref (q z1 11), .int x2]) (rest := []) C h (k_X4_refuseNoEvent (q := fun i => q z1 (i + 11)) (hs (σ z1)) x2 hc2) cw_X4_205 [24, 25, 26, 27, 28, 29, 30, 31, 32] (fkW_h ..) (by decide) rfl rfl hl.1 (Nat.le_of_ble_eq_true rfl) dX4_personOf_11 ⟨Nat.le_of_ble_eq_true rfl, Nat.le_of_ble_eq_true rfl⟩ rfl rfl ⟨Nat.le_of_ble_eq_true rfl, Nat.le_of_ble_eq_true rfl⟩ (fun H locs h => ?_)
      refine W.eq (g2 := F0 m 14 ls []) rfl ?_
      refine lv_aload_n (pc := 14) hx hb dX4_personOf_14 rfl (lv_at hl 0 rfl) ?_
      refine g_get (pc := 15) (v := .ref (q z1 13)) C h.1 24 (fkW_c24 ..) fl_X4_212 rfl dX4_personOf_15 ?_
      refine lv_iload_n (pc := 18) hx hb dX4_personOf_18 rfl (lv_at hl 3 rfl) ?_
      refine call_rgetR (pc := 19) (rest := []) C h (by decide) (by decide) (fkW_c26 ..) (fkW_c30 ..) cw_X4_121 hl.1 (Nat.le_of_ble_eq_true rfl) dX4_personOf_19 ⟨Nat.le_of_ble_eq_true rfl, Nat.le_of_ble_eq_true rfl⟩ rfl rfl ⟨Nat.le_of_ble_eq_true rfl, Nat.le_of_ble_eq_true rfl⟩ (fun H locs h => ?_)
      cases hf
abbrev rm_X4_dayOf : Room := { frames := 1, cells := 0, slots := 0, locals := 22 }
def f_X4_dayOf (n : Nat) (σ0 : (Nat → Nat → Int32)) (σ : (Nat → Nat → Nat → Int32)) (x1 x2 : Int32) : Option (String ⊕ (Int32)) := (xb (f_X4_envelopeAt n x1) fun z1 => (xb (f_X4_refuseNoEvent (hs (σ z1)) x2) fun z2 => (some (.inr (rg 49 ((σ z1) 8) x2)))))
set_option maxHeartbeats 400000 in
set_option maxRecDepth 100000 in
theorem k_X4_dayOf {n : Nat} (hn : n ≤ 6) {q0 : Nat → Nat} {q : Nat → Nat → Nat} {cA : Nat → ClassId} {D : va_G} (σ0 : (Nat → Nat → Int32)) (σ : (Nat → Nat → Nat → Int32)) (x1 x2 : Int32) {z : Int32} (hf : f_X4_dayOf n σ0 σ x1 x2 = some (.inr z)) : CtR yX4_dayOf cX4_dayOf 4 (some .int) rm_X4_dayOf [.ref (q0 0), .int x1, .int x2] D cA (sW n q0 q cA σ0 σ) (some (.int z)) 0 0 := by
  refine ctR_of (by decide) (Nat.le_of_ble_eq_true rfl) ?_
  intro p l e s m below meth c ls C hr hnm h hl
  have C : Cx p s m _ meth c cX4_dayOf 4 RX4 D cA := C
  obtain ⟨hx, hb, hml, hown, hts, hK, hlk⟩ := id C
  replace hl : lv_has ls 4 [(0, .ref (q0 0)), (1, .int x1), (2, .int x2)] := hl
  rw [f_X4_dayOf] at hf
  refine lv_aload_n (pc := 0) hx hb dX4_dayOf_0 rfl (lv_at hl 0 rfl) ?_
  refine lv_iload_n (pc := 1) hx hb dX4_dayOf_1 rfl (lv_at hl 1 rfl) ?_
  obtain ⟨z1, hc1, hf⟩ := xbR hf
  refine call_VRR (pc := 2) (As := [.int x1]) (rest := []) C h (k_X4_envelopeAt hn (q0 := q0) (q := q) σ0 x1 hc1) cw_X4_43 0 (sW_c0 ..) rfl (List.range 13) (sW_f ..) (by decide) rfl rfl hl.1 (Nat.le_of_ble_eq_true rfl) dX4_dayOf_2 ⟨Nat.le_of_ble_eq_true rfl, Nat.le_of_ble_eq_true rfl⟩ rfl rfl ⟨Nat.le_of_ble_eq_true rfl, Nat.le_of_ble_eq_true rfl⟩ (fun H locs h => ?_)
  refine W.eq (g2 := F0 m 5 ls [.ref (q z1 0)]) rfl ?_
  have hk1 : z1 < n := envAt_lt hn hc1
  have h := SR_perm (foc_perm hk1 q0 q cA σ0 σ) h
  refine g_get (pc := 5) (v := .ref (q z1 11)) C h.1 13 (fkW_c13 ..) fl_X4_196 rfl dX4_dayOf_5 ?_
  refine lv_astore_n (pc := 8) (lv' := [(3, .ref (q z1 11)), (0, .ref (q0 0)), (1, .int x1), (2, .int x2)]) hx hb dX4_dayOf_8 rfl hl (by decide) rfl (fun ls hl => ?_)
  refine lv_aload_n (pc := 9) hx hb dX4_dayOf_9 rfl (lv_at hl 0 rfl) ?_
  refine lv_iload_n (pc := 10) hx hb dX4_dayOf_10 rfl (lv_at hl 3 rfl) ?_
  obtain ⟨z2, hc2, hf⟩ := xbR hf
  refine call_SRR (pc := 11) (As := [.ref (q z1 11), .int x2]) (rest := []) C h (k_X4_refuseNoEvent (q := fun i => q z1 (i + 11)) (hs (σ z1)) x2 hc2) cw_X4_205 [24, 25, 26, 27, 28, 29, 30, 31, 32] (fkW_h ..) (by decide) rfl rfl hl.1 (Nat.le_of_ble_eq_true rfl) dX4_dayOf_11 ⟨Nat.le_of_ble_eq_true rfl, Nat.le_of_ble_eq_true rfl⟩ rfl rfl ⟨Nat.le_of_ble_eq_true rfl, Nat.le_of_ble_eq_true rfl⟩ (fun H locs h => ?_)
  refine W.eq (g2 := F0 m 14 ls []) rfl ?_
  refine lv_aload_n (pc := 14) hx hb dX4_dayOf_14 rfl (lv_at hl 0 rfl) ?_
  refine g_get (pc := 15) (v := .ref (q z1 15)) C h.1 24 (fkW_c24 ..) fl_X4_213 rfl dX4_dayOf_15 ?_
  refine lv_iload_n (pc := 18) hx hb dX4_dayOf_18 rfl (lv_at hl 3 rfl) ?_
  refine call_rgetR (pc := 19) (rest := []) C h (by decide) (by decide) (fkW_c28 ..) (fkW_c32 ..) cw_X4_121 hl.1 (Nat.le_of_ble_eq_true rfl) dX4_dayOf_19 ⟨Nat.le_of_ble_eq_true rfl, Nat.le_of_ble_eq_true rfl⟩ rfl rfl ⟨Nat.le_of_ble_eq_true rfl, Nat.le_of_ble_eq_true rfl⟩ (fun H locs h => ?_)
  cases hf
  exact ret_iR (pc := 22) C hr h dX4_dayOf_22
abbrev rmT_X4_dayOf : Room := { frames := 7, cells := 1, slots := 6, locals := 104 }
set_option maxHeartbeats 400000 in
set_option maxRecDepth 100000 in
theorem kT_X4_dayOf {n : Nat} (hn : n ≤ 6) {q0 : Nat → Nat} {q : Nat → Nat → Nat} {cA : Nat → ClassId} {D : va_G} (σ0 : (Nat → Nat → Int32)) (σ : (Nat → Nat → Nat → Int32)) (x1 x2 : Int32) {E : String} (hf : f_X4_dayOf n σ0 σ x1 x2 = some (.inl E)) : CtT yX4_dayOf cX4_dayOf 4 (some .int) rmT_X4_dayOf [.ref (q0 0), .int x1, .int x2] D cA (sW n q0 q cA σ0 σ) E := by
  refine ctT_of (by decide) (Nat.le_of_ble_eq_true rfl) ?_
  intro p l e s m below meth c ls hl0 C hex hX h hl
  have C : Cx p s m _ meth c cX4_dayOf 4 RX4 D cA := C
  obtain ⟨hx, hb, hml, hown, hts, hK, hlk⟩ := id C
  replace hl : lv_has ls 4 [(0, .ref (q0 0)), (1, .int x1), (2, .int x2)] := hl
  rw [f_X4_dayOf] at hf
  refine lv_aload_n (pc := 0) hx hb dX4_dayOf_0 rfl (lv_at hl 0 rfl) ?_
  refine lv_iload_n (pc := 1) hx hb dX4_dayOf_1 rfl (lv_at hl 1 rfl) ?_
  rcases xbT hf with hc0 | ⟨z1, hc1, hf⟩
  · exact call_TV (pc := 2) (As := [.int x1]) (rest := []) (Qc := QF) C hl0 hex hX h (kT_X4_envelopeAt hn (q0 := q0) (q := q) σ0 x1 hc0) cw_X4_43 0 (sW_c0 ..) rfl (List.range 13) (sW_f ..) (by decide) rfl rfl hl.1 (Nat.le_of_ble_eq_true rfl) dX4_dayOf_2 ⟨Nat.le_of_ble_eq_true rfl, Nat.le_of_ble_eq_true rfl⟩ rfl rfl ⟨Nat.le_of_ble_eq_true rfl, Nat.le_of_ble_eq_true rfl⟩
  · refine call_VRR (pc := 2) (As := [.int x1]) (rest := []) C h (k_X4_envelopeAt hn (q0 := q0) (q := q) σ0 x1 hc1) cw_X4_43 0 (sW_c0 ..) rfl (List.range 13) (sW_f ..) (by decide) rfl rfl hl.1 (Nat.le_of_ble_eq_true rfl) dX4_dayOf_2 ⟨Nat.le_of_ble_eq_true rfl, Nat.le_of_ble_eq_true rfl⟩ rfl rfl ⟨Nat.le_of_ble_eq_true rfl, Nat.le_of_ble_eq_true rfl⟩ (fun H locs h => ?_)
    refine W.eq (g2 := F0 m 5 ls [.ref (q z1 0)]) rfl ?_
    have hk1 : z1 < n := envAt_lt hn hc1
    have h := SR_perm (foc_perm hk1 q0 q cA σ0 σ) h
    refine g_get (pc := 5) (v := .ref (q z1 11)) C h.1 13 (fkW_c13 ..) fl_X4_196 rfl dX4_dayOf_5 ?_
    refine lv_astore_n (pc := 8) (lv' := [(3, .ref (q z1 11)), (0, .ref (q0 0)), (1, .int x1), (2, .int x2)]) hx hb dX4_dayOf_8 rfl hl (by decide) rfl (fun ls hl => ?_)
    refine lv_aload_n (pc := 9) hx hb dX4_dayOf_9 rfl (lv_at hl 0 rfl) ?_
    refine lv_iload_n (pc := 10) hx hb dX4_dayOf_10 rfl (lv_at hl 3 rfl) ?_
    rcases xbT hf with hc0 | ⟨z2, hc2, hf⟩
    · exact call_TS (pc := 11) (As := [.ref (q z1 11), .int x2]) (rest := []) (Qc := QF) C hl0 hex hX h (kT_X4_refuseNoEvent (q := fun i => q z1 (i + 11)) (hs (σ z1)) x2 hc0) cw_X4_205 [24, 25, 26, 27, 28, 29, 30, 31, 32] (fkW_h ..) (by decide) rfl rfl hl.1 (Nat.le_of_ble_eq_true rfl) dX4_dayOf_11 ⟨Nat.le_of_ble_eq_true rfl, Nat.le_of_ble_eq_true rfl⟩ rfl rfl ⟨Nat.le_of_ble_eq_true rfl, Nat.le_of_ble_eq_true rfl⟩
    · refine call_SRR (pc := 11) (As := [.ref (q z1 11), .int x2]) (rest := []) C h (k_X4_refuseNoEvent (q := fun i => q z1 (i + 11)) (hs (σ z1)) x2 hc2) cw_X4_205 [24, 25, 26, 27, 28, 29, 30, 31, 32] (fkW_h ..) (by decide) rfl rfl hl.1 (Nat.le_of_ble_eq_true rfl) dX4_dayOf_11 ⟨Nat.le_of_ble_eq_true rfl, Nat.le_of_ble_eq_true rfl⟩ rfl rfl ⟨Nat.le_of_ble_eq_true rfl, Nat.le_of_ble_eq_true rfl⟩ (fun H locs h => ?_)
      refine W.eq (g2 := F0 m 14 ls []) rfl ?_
      refine lv_aload_n (pc := 14) hx hb dX4_dayOf_14 rfl (lv_at hl 0 rfl) ?_
      refine g_get (pc := 15) (v := .ref (q z1 15)) C h.1 24 (fkW_c24 ..) fl_X4_213 rfl dX4_dayOf_15 ?_
      refine lv_iload_n (pc := 18) hx hb dX4_dayOf_18 rfl (lv_at hl 3 rfl) ?_
      refine call_rgetR (pc := 19) (rest := []) C h (by decide) (by decide) (fkW_c28 ..) (fkW_c32 ..) cw_X4_121 hl.1 (Nat.le_of_ble_eq_true rfl) dX4_dayOf_19 ⟨Nat.le_of_ble_eq_true rfl, Nat.le_of_ble_eq_true rfl⟩ rfl rfl ⟨Nat.le_of_ble_eq_true rfl, Nat.le_of_ble_eq_true rfl⟩ (fun H locs h => ?_)
      cases hf
abbrev rm_X4_seal : Room := { frames := 2, cells := 0, slots := 0, locals := 44 }
def f_X4_seal (n : Nat) (σ0 : (Nat → Nat → Int32)) (σ : (Nat → Nat → Nat → Int32)) (x1 x2 : Int32) : Option (String ⊕ (Int32)) := (xb (f_X4_envelopeAt n x1) fun z1 => (xb (f_X4_refuseTooManyEvents (hs (σ z1)) x2) fun z2 => ((f_X1_sealBehind (hs (σ z1)) x2).bind fun z3 => (some (.inr z3)))))
set_option maxHeartbeats 400000 in
set_option maxRecDepth 100000 in
theorem k_X4_seal {n : Nat} (hn : n ≤ 6) {q0 : Nat → Nat} {q : Nat → Nat → Nat} {cA : Nat → ClassId} {D : va_G} (σ0 : (Nat → Nat → Int32)) (σ : (Nat → Nat → Nat → Int32)) (x1 x2 : Int32) {z : Int32} (hf : f_X4_seal n σ0 σ x1 x2 = some (.inr z)) : CtR yX4_seal cX4_seal 4 (some .int) rm_X4_seal [.ref (q0 0), .int x1, .int x2] D cA (sW n q0 q cA σ0 σ) (some (.int z)) 0 0 := by
  refine ctR_of (by decide) (Nat.le_of_ble_eq_true rfl) ?_
  intro p l e s m below meth c ls C hr hnm h hl
  have C : Cx p s m _ meth c cX4_seal 4 RX4 D cA := C
  obtain ⟨hx, hb, hml, hown, hts, hK, hlk⟩ := id C
  replace hl : lv_has ls 4 [(0, .ref (q0 0)), (1, .int x1), (2, .int x2)] := hl
  rw [f_X4_seal] at hf
  refine lv_aload_n (pc := 0) hx hb dX4_seal_0 rfl (lv_at hl 0 rfl) ?_
  refine lv_iload_n (pc := 1) hx hb dX4_seal_1 rfl (lv_at hl 1 rfl) ?_
  obtain ⟨z1, hc1, hf⟩ := xbR hf
  refine call_VRR (pc := 2) (As := [.int x1]) (rest := []) C h (k_X4_envelopeAt hn (q0 := q0) (q := q) σ0 x1 hc1) cw_X4_43 0 (sW_c0 ..) rfl (List.range 13) (sW_f ..) (by decide) rfl rfl hl.1 (Nat.le_of_ble_eq_true rfl) dX4_seal_2 ⟨Nat.le_of_ble_eq_true rfl, Nat.le_of_ble_eq_true rfl⟩ rfl rfl ⟨Nat.le_of_ble_eq_true rfl, Nat.le_of_ble_eq_true rfl⟩ (fun H locs h => ?_)
  refine W.eq (g2 := F0 m 5 ls [.ref (q z1 0)]) rfl ?_
  have hk1 : z1 < n := envAt_lt hn hc1
  have h := SR_perm (foc_perm hk1 q0 q cA σ0 σ) h
  refine g_get (pc := 5) (v := .ref (q z1 11)) C h.1 13 (fkW_c13 ..) fl_X4_196 rfl dX4_seal_5 ?_
  refine lv_astore_n (pc := 8) (lv' := [(3, .ref (q z1 11)), (0, .ref (q0 0)), (1, .int x1), (2, .int x2)]) hx hb dX4_seal_8 rfl hl (by decide) rfl (fun ls hl => ?_)
  refine lv_aload_n (pc := 9) hx hb dX4_seal_9 rfl (lv_at hl 0 rfl) ?_
  refine lv_iload_n (pc := 10) hx hb dX4_seal_10 rfl (lv_at hl 3 rfl) ?_
  obtain ⟨z2, hc2, hf⟩ := xbR hf
  refine call_SRR (pc := 11) (As := [.ref (q z1 11), .int x2]) (rest := []) C h (k_X4_refuseTooManyEvents (q := fun i => q z1 (i + 11)) (hs (σ z1)) x2 hc2) cw_X4_216 [24, 25, 26, 27, 28, 29, 30, 31, 32] (fkW_h ..) (by decide) rfl rfl hl.1 (Nat.le_of_ble_eq_true rfl) dX4_seal_11 ⟨Nat.le_of_ble_eq_true rfl, Nat.le_of_ble_eq_true rfl⟩ rfl rfl ⟨Nat.le_of_ble_eq_true rfl, Nat.le_of_ble_eq_true rfl⟩ (fun H locs h => ?_)
  refine W.eq (g2 := F0 m 14 ls []) rfl ?_
  refine lv_aload_n (pc := 14) hx hb dX4_seal_14 rfl (lv_at hl 0 rfl) ?_
  refine lv_iload_n (pc := 15) hx hb dX4_seal_15 rfl (lv_at hl 3 rfl) ?_
  obtain ⟨z3, hc3, hf⟩ := bdS hf
  refine call_VRR (pc := 16) (As := [.int x2]) (rest := []) C h (k_X1_sealBehind (q := fun i => q z1 (i + 11)) (hs (σ z1)) x2 hc3) cw_X4_219 24 (fkW_c24 ..) rfl [24, 25, 26, 27, 28, 29, 30, 31, 32] (fkW_h ..) (by decide) rfl rfl hl.1 (Nat.le_of_ble_eq_true rfl) dX4_seal_16 ⟨Nat.le_of_ble_eq_true rfl, Nat.le_of_ble_eq_true rfl⟩ rfl rfl ⟨Nat.le_of_ble_eq_true rfl, Nat.le_of_ble_eq_true rfl⟩ (fun H locs h => ?_)
  refine W.eq (g2 := F0 m 19 ls [.int z3]) rfl ?_
  cases hf
  exact ret_iR (pc := 19) C hr h dX4_seal_19
abbrev rmT_X4_seal : Room := { frames := 7, cells := 1, slots := 6, locals := 104 }
set_option maxHeartbeats 400000 in
set_option maxRecDepth 100000 in
theorem kT_X4_seal {n : Nat} (hn : n ≤ 6) {q0 : Nat → Nat} {q : Nat → Nat → Nat} {cA : Nat → ClassId} {D : va_G} (σ0 : (Nat → Nat → Int32)) (σ : (Nat → Nat → Nat → Int32)) (x1 x2 : Int32) {E : String} (hf : f_X4_seal n σ0 σ x1 x2 = some (.inl E)) : CtT yX4_seal cX4_seal 4 (some .int) rmT_X4_seal [.ref (q0 0), .int x1, .int x2] D cA (sW n q0 q cA σ0 σ) E := by
  refine ctT_of (by decide) (Nat.le_of_ble_eq_true rfl) ?_
  intro p l e s m below meth c ls hl0 C hex hX h hl
  have C : Cx p s m _ meth c cX4_seal 4 RX4 D cA := C
  obtain ⟨hx, hb, hml, hown, hts, hK, hlk⟩ := id C
  replace hl : lv_has ls 4 [(0, .ref (q0 0)), (1, .int x1), (2, .int x2)] := hl
  rw [f_X4_seal] at hf
  refine lv_aload_n (pc := 0) hx hb dX4_seal_0 rfl (lv_at hl 0 rfl) ?_
  refine lv_iload_n (pc := 1) hx hb dX4_seal_1 rfl (lv_at hl 1 rfl) ?_
  rcases xbT hf with hc0 | ⟨z1, hc1, hf⟩
  · exact call_TV (pc := 2) (As := [.int x1]) (rest := []) (Qc := QF) C hl0 hex hX h (kT_X4_envelopeAt hn (q0 := q0) (q := q) σ0 x1 hc0) cw_X4_43 0 (sW_c0 ..) rfl (List.range 13) (sW_f ..) (by decide) rfl rfl hl.1 (Nat.le_of_ble_eq_true rfl) dX4_seal_2 ⟨Nat.le_of_ble_eq_true rfl, Nat.le_of_ble_eq_true rfl⟩ rfl rfl ⟨Nat.le_of_ble_eq_true rfl, Nat.le_of_ble_eq_true rfl⟩
  · refine call_VRR (pc := 2) (As := [.int x1]) (rest := []) C h (k_X4_envelopeAt hn (q0 := q0) (q := q) σ0 x1 hc1) cw_X4_43 0 (sW_c0 ..) rfl (List.range 13) (sW_f ..) (by decide) rfl rfl hl.1 (Nat.le_of_ble_eq_true rfl) dX4_seal_2 ⟨Nat.le_of_ble_eq_true rfl, Nat.le_of_ble_eq_true rfl⟩ rfl rfl ⟨Nat.le_of_ble_eq_true rfl, Nat.le_of_ble_eq_true rfl⟩ (fun H locs h => ?_)
    refine W.eq (g2 := F0 m 5 ls [.ref (q z1 0)]) rfl ?_
    have hk1 : z1 < n := envAt_lt hn hc1
    have h := SR_perm (foc_perm hk1 q0 q cA σ0 σ) h
    refine g_get (pc := 5) (v := .ref (q z1 11)) C h.1 13 (fkW_c13 ..) fl_X4_196 rfl dX4_seal_5 ?_
    refine lv_astore_n (pc := 8) (lv' := [(3, .ref (q z1 11)), (0, .ref (q0 0)), (1, .int x1), (2, .int x2)]) hx hb dX4_seal_8 rfl hl (by decide) rfl (fun ls hl => ?_)
    refine lv_aload_n (pc := 9) hx hb dX4_seal_9 rfl (lv_at hl 0 rfl) ?_
    refine lv_iload_n (pc := 10) hx hb dX4_seal_10 rfl (lv_at hl 3 rfl) ?_
    rcases xbT hf with hc0 | ⟨z2, hc2, hf⟩
    · exact call_TS (pc := 11) (As := [.ref (q z1 11), .int x2]) (rest := []) (Qc := QF) C hl0 hex hX h (kT_X4_refuseTooManyEvents (q := fun i => q z1 (i + 11)) (hs (σ z1)) x2 hc0) cw_X4_216 [24, 25, 26, 27, 28, 29, 30, 31, 32] (fkW_h ..) (by decide) rfl rfl hl.1 (Nat.le_of_ble_eq_true rfl) dX4_seal_11 ⟨Nat.le_of_ble_eq_true rfl, Nat.le_of_ble_eq_true rfl⟩ rfl rfl ⟨Nat.le_of_ble_eq_true rfl, Nat.le_of_ble_eq_true rfl⟩
    · refine call_SRR (pc := 11) (As := [.ref (q z1 11), .int x2]) (rest := []) C h (k_X4_refuseTooManyEvents (q := fun i => q z1 (i + 11)) (hs (σ z1)) x2 hc2) cw_X4_216 [24, 25, 26, 27, 28, 29, 30, 31, 32] (fkW_h ..) (by decide) rfl rfl hl.1 (Nat.le_of_ble_eq_true rfl) dX4_seal_11 ⟨Nat.le_of_ble_eq_true rfl, Nat.le_of_ble_eq_true rfl⟩ rfl rfl ⟨Nat.le_of_ble_eq_true rfl, Nat.le_of_ble_eq_true rfl⟩ (fun H locs h => ?_)
      refine W.eq (g2 := F0 m 14 ls []) rfl ?_
      refine lv_aload_n (pc := 14) hx hb dX4_seal_14 rfl (lv_at hl 0 rfl) ?_
      refine lv_iload_n (pc := 15) hx hb dX4_seal_15 rfl (lv_at hl 3 rfl) ?_
      obtain ⟨z3, hc3, hf⟩ := bdS hf
      refine call_VRR (pc := 16) (As := [.int x2]) (rest := []) C h (k_X1_sealBehind (q := fun i => q z1 (i + 11)) (hs (σ z1)) x2 hc3) cw_X4_219 24 (fkW_c24 ..) rfl [24, 25, 26, 27, 28, 29, 30, 31, 32] (fkW_h ..) (by decide) rfl rfl hl.1 (Nat.le_of_ble_eq_true rfl) dX4_seal_16 ⟨Nat.le_of_ble_eq_true rfl, Nat.le_of_ble_eq_true rfl⟩ rfl rfl ⟨Nat.le_of_ble_eq_true rfl, Nat.le_of_ble_eq_true rfl⟩ (fun H locs h => ?_)
      refine W.eq (g2 := F0 m 19 ls [.int z3]) rfl ?_
      cases hf
abbrev rm_X4_stateBehind : Room := { frames := 2, cells := 0, slots := 0, locals := 48 }
def f_X4_stateBehind (n : Nat) (σ0 : (Nat → Nat → Int32)) (σ : (Nat → Nat → Nat → Int32)) (x1 x2 : Int32) : Option (String ⊕ (Int32)) := (xb (f_X4_envelopeAt n x1) fun z1 => (xb (f_X4_refuseTooManyEvents (hs (σ z1)) x2) fun z2 => ((f_X1_stateAfter (hs (σ z1)) x2 ((σ z1) 10 0)).bind fun z3 => (some (.inr z3)))))
set_option maxHeartbeats 400000 in
set_option maxRecDepth 100000 in
theorem k_X4_stateBehind {n : Nat} (hn : n ≤ 6) {q0 : Nat → Nat} {q : Nat → Nat → Nat} {cA : Nat → ClassId} {D : va_G} (σ0 : (Nat → Nat → Int32)) (σ : (Nat → Nat → Nat → Int32)) (x1 x2 : Int32) {z : Int32} (hf : f_X4_stateBehind n σ0 σ x1 x2 = some (.inr z)) : CtR yX4_stateBehind cX4_stateBehind 4 (some .int) rm_X4_stateBehind [.ref (q0 0), .int x1, .int x2] D cA (sW n q0 q cA σ0 σ) (some (.int z)) 0 0 := by
  refine ctR_of (by decide) (Nat.le_of_ble_eq_true rfl) ?_
  intro p l e s m below meth c ls C hr hnm h hl
  have C : Cx p s m _ meth c cX4_stateBehind 4 RX4 D cA := C
  obtain ⟨hx, hb, hml, hown, hts, hK, hlk⟩ := id C
  replace hl : lv_has ls 4 [(0, .ref (q0 0)), (1, .int x1), (2, .int x2)] := hl
  rw [f_X4_stateBehind] at hf
  refine lv_aload_n (pc := 0) hx hb dX4_stateBehind_0 rfl (lv_at hl 0 rfl) ?_
  refine lv_iload_n (pc := 1) hx hb dX4_stateBehind_1 rfl (lv_at hl 1 rfl) ?_
  obtain ⟨z1, hc1, hf⟩ := xbR hf
  refine call_VRR (pc := 2) (As := [.int x1]) (rest := []) C h (k_X4_envelopeAt hn (q0 := q0) (q := q) σ0 x1 hc1) cw_X4_43 0 (sW_c0 ..) rfl (List.range 13) (sW_f ..) (by decide) rfl rfl hl.1 (Nat.le_of_ble_eq_true rfl) dX4_stateBehind_2 ⟨Nat.le_of_ble_eq_true rfl, Nat.le_of_ble_eq_true rfl⟩ rfl rfl ⟨Nat.le_of_ble_eq_true rfl, Nat.le_of_ble_eq_true rfl⟩ (fun H locs h => ?_)
  refine W.eq (g2 := F0 m 5 ls [.ref (q z1 0)]) rfl ?_
  have hk1 : z1 < n := envAt_lt hn hc1
  have h := SR_perm (foc_perm hk1 q0 q cA σ0 σ) h
  refine lv_astore_n (pc := 5) (lv' := [(3, .ref (q z1 0)), (0, .ref (q0 0)), (1, .int x1), (2, .int x2)]) hx hb dX4_stateBehind_5 rfl hl (by decide) rfl (fun ls hl => ?_)
  refine lv_aload_n (pc := 6) hx hb dX4_stateBehind_6 rfl (lv_at hl 0 rfl) ?_
  refine g_get (pc := 7) (v := .ref (q z1 11)) C h.1 13 (fkW_c13 ..) fl_X4_196 rfl dX4_stateBehind_7 ?_
  refine lv_iload_n (pc := 10) hx hb dX4_stateBehind_10 rfl (lv_at hl 3 rfl) ?_
  obtain ⟨z2, hc2, hf⟩ := xbR hf
  refine call_SRR (pc := 11) (As := [.ref (q z1 11), .int x2]) (rest := []) C h (k_X4_refuseTooManyEvents (q := fun i => q z1 (i + 11)) (hs (σ z1)) x2 hc2) cw_X4_216 [24, 25, 26, 27, 28, 29, 30, 31, 32] (fkW_h ..) (by decide) rfl rfl hl.1 (Nat.le_of_ble_eq_true rfl) dX4_stateBehind_11 ⟨Nat.le_of_ble_eq_true rfl, Nat.le_of_ble_eq_true rfl⟩ rfl rfl ⟨Nat.le_of_ble_eq_true rfl, Nat.le_of_ble_eq_true rfl⟩ (fun H locs h => ?_)
  refine W.eq (g2 := F0 m 14 ls []) rfl ?_
  refine lv_aload_n (pc := 14) hx hb dX4_stateBehind_14 rfl (lv_at hl 0 rfl) ?_
  refine g_get (pc := 15) (v := .ref (q z1 11)) C h.1 13 (fkW_c13 ..) fl_X4_196 rfl dX4_stateBehind_15 ?_
  refine lv_iload_n (pc := 18) hx hb dX4_stateBehind_18 rfl (lv_at hl 3 rfl) ?_
  refine lv_aload_n (pc := 19) hx hb dX4_stateBehind_19 rfl (lv_at hl 0 rfl) ?_
  refine g_get (pc := 20) (v := .int ((σ z1) 10 0)) C h.1 13 (fkW_c13 ..) fl_X4_63 rfl dX4_stateBehind_20 ?_
  obtain ⟨z3, hc3, hf⟩ := bdS hf
  refine call_VRR (pc := 23) (As := [.int x2, .int ((σ z1) 10 0)]) (rest := []) C h (k_X1_stateAfter (q := fun i => q z1 (i + 11)) (hs (σ z1)) x2 ((σ z1) 10 0) hc3) cw_X4_222 24 (fkW_c24 ..) rfl [24, 25, 26, 27, 28, 29, 30, 31, 32] (fkW_h ..) (by decide) rfl rfl hl.1 (Nat.le_of_ble_eq_true rfl) dX4_stateBehind_23 ⟨Nat.le_of_ble_eq_true rfl, Nat.le_of_ble_eq_true rfl⟩ rfl rfl ⟨Nat.le_of_ble_eq_true rfl, Nat.le_of_ble_eq_true rfl⟩ (fun H locs h => ?_)
  refine W.eq (g2 := F0 m 26 ls [.int z3]) rfl ?_
  cases hf
  exact ret_iR (pc := 26) C hr h dX4_stateBehind_26
abbrev rmT_X4_stateBehind : Room := { frames := 7, cells := 1, slots := 6, locals := 104 }
set_option maxHeartbeats 400000 in
set_option maxRecDepth 100000 in
theorem kT_X4_stateBehind {n : Nat} (hn : n ≤ 6) {q0 : Nat → Nat} {q : Nat → Nat → Nat} {cA : Nat → ClassId} {D : va_G} (σ0 : (Nat → Nat → Int32)) (σ : (Nat → Nat → Nat → Int32)) (x1 x2 : Int32) {E : String} (hf : f_X4_stateBehind n σ0 σ x1 x2 = some (.inl E)) : CtT yX4_stateBehind cX4_stateBehind 4 (some .int) rmT_X4_stateBehind [.ref (q0 0), .int x1, .int x2] D cA (sW n q0 q cA σ0 σ) E := by
  refine ctT_of (by decide) (Nat.le_of_ble_eq_true rfl) ?_
  intro p l e s m below meth c ls hl0 C hex hX h hl
  have C : Cx p s m _ meth c cX4_stateBehind 4 RX4 D cA := C
  obtain ⟨hx, hb, hml, hown, hts, hK, hlk⟩ := id C
  replace hl : lv_has ls 4 [(0, .ref (q0 0)), (1, .int x1), (2, .int x2)] := hl
  rw [f_X4_stateBehind] at hf
  refine lv_aload_n (pc := 0) hx hb dX4_stateBehind_0 rfl (lv_at hl 0 rfl) ?_
  refine lv_iload_n (pc := 1) hx hb dX4_stateBehind_1 rfl (lv_at hl 1 rfl) ?_
  rcases xbT hf with hc0 | ⟨z1, hc1, hf⟩
  · exact call_TV (pc := 2) (As := [.int x1]) (rest := []) (Qc := QF) C hl0 hex hX h (kT_X4_envelopeAt hn (q0 := q0) (q := q) σ0 x1 hc0) cw_X4_43 0 (sW_c0 ..) rfl (List.range 13) (sW_f ..) (by decide) rfl rfl hl.1 (Nat.le_of_ble_eq_true rfl) dX4_stateBehind_2 ⟨Nat.le_of_ble_eq_true rfl, Nat.le_of_ble_eq_true rfl⟩ rfl rfl ⟨Nat.le_of_ble_eq_true rfl, Nat.le_of_ble_eq_true rfl⟩
  · refine call_VRR (pc := 2) (As := [.int x1]) (rest := []) C h (k_X4_envelopeAt hn (q0 := q0) (q := q) σ0 x1 hc1) cw_X4_43 0 (sW_c0 ..) rfl (List.range 13) (sW_f ..) (by decide) rfl rfl hl.1 (Nat.le_of_ble_eq_true rfl) dX4_stateBehind_2 ⟨Nat.le_of_ble_eq_true rfl, Nat.le_of_ble_eq_true rfl⟩ rfl rfl ⟨Nat.le_of_ble_eq_true rfl, Nat.le_of_ble_eq_true rfl⟩ (fun H locs h => ?_)
    refine W.eq (g2 := F0 m 5 ls [.ref (q z1 0)]) rfl ?_
    have hk1 : z1 < n := envAt_lt hn hc1
    have h := SR_perm (foc_perm hk1 q0 q cA σ0 σ) h
    refine lv_astore_n (pc := 5) (lv' := [(3, .ref (q z1 0)), (0, .ref (q0 0)), (1, .int x1), (2, .int x2)]) hx hb dX4_stateBehind_5 rfl hl (by decide) rfl (fun ls hl => ?_)
    refine lv_aload_n (pc := 6) hx hb dX4_stateBehind_6 rfl (lv_at hl 0 rfl) ?_
    refine g_get (pc := 7) (v := .ref (q z1 11)) C h.1 13 (fkW_c13 ..) fl_X4_196 rfl dX4_stateBehind_7 ?_
    refine lv_iload_n (pc := 10) hx hb dX4_stateBehind_10 rfl (lv_at hl 3 rfl) ?_
    rcases xbT hf with hc0 | ⟨z2, hc2, hf⟩
    · exact call_TS (pc := 11) (As := [.ref (q z1 11), .int x2]) (rest := []) (Qc := QF) C hl0 hex hX h (kT_X4_refuseTooManyEvents (q := fun i => q z1 (i + 11)) (hs (σ z1)) x2 hc0) cw_X4_216 [24, 25, 26, 27, 28, 29, 30, 31, 32] (fkW_h ..) (by decide) rfl rfl hl.1 (Nat.le_of_ble_eq_true rfl) dX4_stateBehind_11 ⟨Nat.le_of_ble_eq_true rfl, Nat.le_of_ble_eq_true rfl⟩ rfl rfl ⟨Nat.le_of_ble_eq_true rfl, Nat.le_of_ble_eq_true rfl⟩
    · refine call_SRR (pc := 11) (As := [.ref (q z1 11), .int x2]) (rest := []) C h (k_X4_refuseTooManyEvents (q := fun i => q z1 (i + 11)) (hs (σ z1)) x2 hc2) cw_X4_216 [24, 25, 26, 27, 28, 29, 30, 31, 32] (fkW_h ..) (by decide) rfl rfl hl.1 (Nat.le_of_ble_eq_true rfl) dX4_stateBehind_11 ⟨Nat.le_of_ble_eq_true rfl, Nat.le_of_ble_eq_true rfl⟩ rfl rfl ⟨Nat.le_of_ble_eq_true rfl, Nat.le_of_ble_eq_true rfl⟩ (fun H locs h => ?_)
      refine W.eq (g2 := F0 m 14 ls []) rfl ?_
      refine lv_aload_n (pc := 14) hx hb dX4_stateBehind_14 rfl (lv_at hl 0 rfl) ?_
      refine g_get (pc := 15) (v := .ref (q z1 11)) C h.1 13 (fkW_c13 ..) fl_X4_196 rfl dX4_stateBehind_15 ?_
      refine lv_iload_n (pc := 18) hx hb dX4_stateBehind_18 rfl (lv_at hl 3 rfl) ?_
      refine lv_aload_n (pc := 19) hx hb dX4_stateBehind_19 rfl (lv_at hl 0 rfl) ?_
      refine g_get (pc := 20) (v := .int ((σ z1) 10 0)) C h.1 13 (fkW_c13 ..) fl_X4_63 rfl dX4_stateBehind_20 ?_
      obtain ⟨z3, hc3, hf⟩ := bdS hf
      refine call_VRR (pc := 23) (As := [.int x2, .int ((σ z1) 10 0)]) (rest := []) C h (k_X1_stateAfter (q := fun i => q z1 (i + 11)) (hs (σ z1)) x2 ((σ z1) 10 0) hc3) cw_X4_222 24 (fkW_c24 ..) rfl [24, 25, 26, 27, 28, 29, 30, 31, 32] (fkW_h ..) (by decide) rfl rfl hl.1 (Nat.le_of_ble_eq_true rfl) dX4_stateBehind_23 ⟨Nat.le_of_ble_eq_true rfl, Nat.le_of_ble_eq_true rfl⟩ rfl rfl ⟨Nat.le_of_ble_eq_true rfl, Nat.le_of_ble_eq_true rfl⟩ (fun H locs h => ?_)
      refine W.eq (g2 := F0 m 26 ls [.int z3]) rfl ?_
      cases hf
abbrev rm_X4_openBehind : Room := { frames := 2, cells := 0, slots := 0, locals := 48 }
def f_X4_openBehind (n : Nat) (σ0 : (Nat → Nat → Int32)) (σ : (Nat → Nat → Nat → Int32)) (x1 x2 : Int32) : Option (String ⊕ (Int32)) := (xb (f_X4_envelopeAt n x1) fun z1 => (xb (f_X4_refuseTooManyEvents (hs (σ z1)) x2) fun z2 => ((f_X1_stateAfter (hs (σ z1)) x2 ((σ z1) 10 0)).bind fun z3 => (if z3 = (1 : Int32) then ((f_X1_signedAfter (hs (σ z1)) x2).bind fun z4 => ((f_X0_nextBehind (σ z1) z4).bind fun z5 => (some (.inr z5)))) else (some (.inr (0 : Int32)))))))
set_option maxHeartbeats 400000 in
set_option maxRecDepth 100000 in
theorem k_X4_openBehind {n : Nat} (hn : n ≤ 6) {q0 : Nat → Nat} {q : Nat → Nat → Nat} {cA : Nat → ClassId} {D : va_G} (σ0 : (Nat → Nat → Int32)) (σ : (Nat → Nat → Nat → Int32)) (x1 x2 : Int32) {z : Int32} (hf : f_X4_openBehind n σ0 σ x1 x2 = some (.inr z)) : CtR yX4_openBehind cX4_openBehind 4 (some .int) rm_X4_openBehind [.ref (q0 0), .int x1, .int x2] D cA (sW n q0 q cA σ0 σ) (some (.int z)) 0 0 := by
  refine ctR_of (by decide) (Nat.le_of_ble_eq_true rfl) ?_
  intro p l e s m below meth c ls C hr hnm h hl
  have C : Cx p s m _ meth c cX4_openBehind 4 RX4 D cA := C
  obtain ⟨hx, hb, hml, hown, hts, hK, hlk⟩ := id C
  replace hl : lv_has ls 4 [(0, .ref (q0 0)), (1, .int x1), (2, .int x2)] := hl
  rw [f_X4_openBehind] at hf
  refine lv_aload_n (pc := 0) hx hb dX4_openBehind_0 rfl (lv_at hl 0 rfl) ?_
  refine lv_iload_n (pc := 1) hx hb dX4_openBehind_1 rfl (lv_at hl 1 rfl) ?_
  obtain ⟨z1, hc1, hf⟩ := xbR hf
  refine call_VRR (pc := 2) (As := [.int x1]) (rest := []) C h (k_X4_envelopeAt hn (q0 := q0) (q := q) σ0 x1 hc1) cw_X4_43 0 (sW_c0 ..) rfl (List.range 13) (sW_f ..) (by decide) rfl rfl hl.1 (Nat.le_of_ble_eq_true rfl) dX4_openBehind_2 ⟨Nat.le_of_ble_eq_true rfl, Nat.le_of_ble_eq_true rfl⟩ rfl rfl ⟨Nat.le_of_ble_eq_true rfl, Nat.le_of_ble_eq_true rfl⟩ (fun H locs h => ?_)
  refine W.eq (g2 := F0 m 5 ls [.ref (q z1 0)]) rfl ?_
  have hk1 : z1 < n := envAt_lt hn hc1
  have h := SR_perm (foc_perm hk1 q0 q cA σ0 σ) h
  refine lv_astore_n (pc := 5) (lv' := [(3, .ref (q z1 0)), (0, .ref (q0 0)), (1, .int x1), (2, .int x2)]) hx hb dX4_openBehind_5 rfl hl (by decide) rfl (fun ls hl => ?_)
  refine lv_aload_n (pc := 6) hx hb dX4_openBehind_6 rfl (lv_at hl 0 rfl) ?_
  refine g_get (pc := 7) (v := .ref (q z1 11)) C h.1 13 (fkW_c13 ..) fl_X4_196 rfl dX4_openBehind_7 ?_
  refine lv_iload_n (pc := 10) hx hb dX4_openBehind_10 rfl (lv_at hl 3 rfl) ?_
  obtain ⟨z2, hc2, hf⟩ := xbR hf
  refine call_SRR (pc := 11) (As := [.ref (q z1 11), .int x2]) (rest := []) C h (k_X4_refuseTooManyEvents (q := fun i => q z1 (i + 11)) (hs (σ z1)) x2 hc2) cw_X4_216 [24, 25, 26, 27, 28, 29, 30, 31, 32] (fkW_h ..) (by decide) rfl rfl hl.1 (Nat.le_of_ble_eq_true rfl) dX4_openBehind_11 ⟨Nat.le_of_ble_eq_true rfl, Nat.le_of_ble_eq_true rfl⟩ rfl rfl ⟨Nat.le_of_ble_eq_true rfl, Nat.le_of_ble_eq_true rfl⟩ (fun H locs h => ?_)
  refine W.eq (g2 := F0 m 14 ls []) rfl ?_
  refine lv_aload_n (pc := 14) hx hb dX4_openBehind_14 rfl (lv_at hl 0 rfl) ?_
  refine g_get (pc := 15) (v := .ref (q z1 11)) C h.1 13 (fkW_c13 ..) fl_X4_196 rfl dX4_openBehind_15 ?_
  refine lv_iload_n (pc := 18) hx hb dX4_openBehind_18 rfl (lv_at hl 3 rfl) ?_
  refine lv_aload_n (pc := 19) hx hb dX4_openBehind_19 rfl (lv_at hl 0 rfl) ?_
  refine g_get (pc := 20) (v := .int ((σ z1) 10 0)) C h.1 13 (fkW_c13 ..) fl_X4_63 rfl dX4_openBehind_20 ?_
  obtain ⟨z3, hc3, hf⟩ := bdS hf
  refine call_VRR (pc := 23) (As := [.int x2, .int ((σ z1) 10 0)]) (rest := []) C h (k_X1_stateAfter (q := fun i => q z1 (i + 11)) (hs (σ z1)) x2 ((σ z1) 10 0) hc3) cw_X4_222 24 (fkW_c24 ..) rfl [24, 25, 26, 27, 28, 29, 30, 31, 32] (fkW_h ..) (by decide) rfl rfl hl.1 (Nat.le_of_ble_eq_true rfl) dX4_openBehind_23 ⟨Nat.le_of_ble_eq_true rfl, Nat.le_of_ble_eq_true rfl⟩ rfl rfl ⟨Nat.le_of_ble_eq_true rfl, Nat.le_of_ble_eq_true rfl⟩ (fun H locs h => ?_)
  refine W.eq (g2 := F0 m 26 ls [.int z3]) rfl ?_
  refine lv_iconst (pc := 26) (v := 1) hx hb dX4_openBehind_26 (by decide) ?_
  refine lv_icmp_eq (pc := 27) (tgt := 32) hx hb dX4_openBehind_27 (by decide) (fun c9 => ?_) (fun c9 => ?_)
  · have hf := ifT c9 hf
    refine lv_aload_n (pc := 32) hx hb dX4_openBehind_32 rfl (lv_at hl 0 rfl) ?_
    refine lv_aload_n (pc := 33) hx hb dX4_openBehind_33 rfl (lv_at hl 0 rfl) ?_
    refine g_get (pc := 34) (v := .ref (q z1 11)) C h.1 13 (fkW_c13 ..) fl_X4_196 rfl dX4_openBehind_34 ?_
    refine lv_iload_n (pc := 37) hx hb dX4_openBehind_37 rfl (lv_at hl 3 rfl) ?_
    obtain ⟨z4, hc4, hf⟩ := bdS hf
    refine call_VRR (pc := 38) (As := [.int x2]) (rest := [.ref (q z1 0)]) C h (k_X1_signedAfter (q := fun i => q z1 (i + 11)) (hs (σ z1)) x2 hc4) cw_X4_226 24 (fkW_c24 ..) rfl [24, 25, 26, 27, 28, 29, 30, 31, 32] (fkW_h ..) (by decide) rfl rfl hl.1 (Nat.le_of_ble_eq_true rfl) dX4_openBehind_38 ⟨Nat.le_of_ble_eq_true rfl, Nat.le_of_ble_eq_true rfl⟩ rfl rfl ⟨Nat.le_of_ble_eq_true rfl, Nat.le_of_ble_eq_true rfl⟩ (fun H locs h => ?_)
    refine W.eq (g2 := F0 m 41 ls [.int z4, .ref (q z1 0)]) rfl ?_
    obtain ⟨z5, hc5, hf⟩ := bdS hf
    refine call_VRR (pc := 41) (As := [.int z4]) (rest := []) C h (k_X0_nextBehind (q := q z1) (σ z1) z4 hc5) cw_X4_229 13 (fkW_c13 ..) rfl [13, 14, 15, 16, 17, 18, 19, 20, 21, 22, 23, 24, 25, 26, 27, 28, 29, 30, 31, 32] (fkW_e ..) (by decide) rfl rfl hl.1 (Nat.le_of_ble_eq_true rfl) dX4_openBehind_41 ⟨Nat.le_of_ble_eq_true rfl, Nat.le_of_ble_eq_true rfl⟩ rfl rfl ⟨Nat.le_of_ble_eq_true rfl, Nat.le_of_ble_eq_true rfl⟩ (fun H locs h => ?_)
    refine W.eq (g2 := F0 m 44 ls [.int z5]) rfl ?_
    cases hf
    exact ret_iR (pc := 44) C hr h dX4_openBehind_44
  · have hf := ifF c9 hf
    refine lv_iconst (pc := 30) (v := 0) hx hb dX4_openBehind_30 (by decide) ?_
    cases hf
    exact ret_iR (pc := 31) C hr h dX4_openBehind_31
abbrev rmT_X4_openBehind : Room := { frames := 7, cells := 1, slots := 6, locals := 104 }
set_option maxHeartbeats 400000 in
set_option maxRecDepth 100000 in
theorem kT_X4_openBehind {n : Nat} (hn : n ≤ 6) {q0 : Nat → Nat} {q : Nat → Nat → Nat} {cA : Nat → ClassId} {D : va_G} (σ0 : (Nat → Nat → Int32)) (σ : (Nat → Nat → Nat → Int32)) (x1 x2 : Int32) {E : String} (hf : f_X4_openBehind n σ0 σ x1 x2 = some (.inl E)) : CtT yX4_openBehind cX4_openBehind 4 (some .int) rmT_X4_openBehind [.ref (q0 0), .int x1, .int x2] D cA (sW n q0 q cA σ0 σ) E := by
  refine ctT_of (by decide) (Nat.le_of_ble_eq_true rfl) ?_
  intro p l e s m below meth c ls hl0 C hex hX h hl
  have C : Cx p s m _ meth c cX4_openBehind 4 RX4 D cA := C
  obtain ⟨hx, hb, hml, hown, hts, hK, hlk⟩ := id C
  replace hl : lv_has ls 4 [(0, .ref (q0 0)), (1, .int x1), (2, .int x2)] := hl
  rw [f_X4_openBehind] at hf
  refine lv_aload_n (pc := 0) hx hb dX4_openBehind_0 rfl (lv_at hl 0 rfl) ?_
  refine lv_iload_n (pc := 1) hx hb dX4_openBehind_1 rfl (lv_at hl 1 rfl) ?_
  rcases xbT hf with hc0 | ⟨z1, hc1, hf⟩
  · exact call_TV (pc := 2) (As := [.int x1]) (rest := []) (Qc := QF) C hl0 hex hX h (kT_X4_envelopeAt hn (q0 := q0) (q := q) σ0 x1 hc0) cw_X4_43 0 (sW_c0 ..) rfl (List.range 13) (sW_f ..) (by decide) rfl rfl hl.1 (Nat.le_of_ble_eq_true rfl) dX4_openBehind_2 ⟨Nat.le_of_ble_eq_true rfl, Nat.le_of_ble_eq_true rfl⟩ rfl rfl ⟨Nat.le_of_ble_eq_true rfl, Nat.le_of_ble_eq_true rfl⟩
  · refine call_VRR (pc := 2) (As := [.int x1]) (rest := []) C h (k_X4_envelopeAt hn (q0 := q0) (q := q) σ0 x1 hc1) cw_X4_43 0 (sW_c0 ..) rfl (List.range 13) (sW_f ..) (by decide) rfl rfl hl.1 (Nat.le_of_ble_eq_true rfl) dX4_openBehind_2 ⟨Nat.le_of_ble_eq_true rfl, Nat.le_of_ble_eq_true rfl⟩ rfl rfl ⟨Nat.le_of_ble_eq_true rfl, Nat.le_of_ble_eq_true rfl⟩ (fun H locs h => ?_)
    refine W.eq (g2 := F0 m 5 ls [.ref (q z1 0)]) rfl ?_
    have hk1 : z1 < n := envAt_lt hn hc1
    have h := SR_perm (foc_perm hk1 q0 q cA σ0 σ) h
    refine lv_astore_n (pc := 5) (lv' := [(3, .ref (q z1 0)), (0, .ref (q0 0)), (1, .int x1), (2, .int x2)]) hx hb dX4_openBehind_5 rfl hl (by decide) rfl (fun ls hl => ?_)
    refine lv_aload_n (pc := 6) hx hb dX4_openBehind_6 rfl (lv_at hl 0 rfl) ?_
    refine g_get (pc := 7) (v := .ref (q z1 11)) C h.1 13 (fkW_c13 ..) fl_X4_196 rfl dX4_openBehind_7 ?_
    refine lv_iload_n (pc := 10) hx hb dX4_openBehind_10 rfl (lv_at hl 3 rfl) ?_
    rcases xbT hf with hc0 | ⟨z2, hc2, hf⟩
    · exact call_TS (pc := 11) (As := [.ref (q z1 11), .int x2]) (rest := []) (Qc := QF) C hl0 hex hX h (kT_X4_refuseTooManyEvents (q := fun i => q z1 (i + 11)) (hs (σ z1)) x2 hc0) cw_X4_216 [24, 25, 26, 27, 28, 29, 30, 31, 32] (fkW_h ..) (by decide) rfl rfl hl.1 (Nat.le_of_ble_eq_true rfl) dX4_openBehind_11 ⟨Nat.le_of_ble_eq_true rfl, Nat.le_of_ble_eq_true rfl⟩ rfl rfl ⟨Nat.le_of_ble_eq_true rfl, Nat.le_of_ble_eq_true rfl⟩
    · refine call_SRR (pc := 11) (As := [.ref (q z1 11), .int x2]) (rest := []) C h (k_X4_refuseTooManyEvents (q := fun i => q z1 (i + 11)) (hs (σ z1)) x2 hc2) cw_X4_216 [24, 25, 26, 27, 28, 29, 30, 31, 32] (fkW_h ..) (by decide) rfl rfl hl.1 (Nat.le_of_ble_eq_true rfl) dX4_openBehind_11 ⟨Nat.le_of_ble_eq_true rfl, Nat.le_of_ble_eq_true rfl⟩ rfl rfl ⟨Nat.le_of_ble_eq_true rfl, Nat.le_of_ble_eq_true rfl⟩ (fun H locs h => ?_)
      refine W.eq (g2 := F0 m 14 ls []) rfl ?_
      refine lv_aload_n (pc := 14) hx hb dX4_openBehind_14 rfl (lv_at hl 0 rfl) ?_
      refine g_get (pc := 15) (v := .ref (q z1 11)) C h.1 13 (fkW_c13 ..) fl_X4_196 rfl dX4_openBehind_15 ?_
      refine lv_iload_n (pc := 18) hx hb dX4_openBehind_18 rfl (lv_at hl 3 rfl) ?_
      refine lv_aload_n (pc := 19) hx hb dX4_openBehind_19 rfl (lv_at hl 0 rfl) ?_
      refine g_get (pc := 20) (v := .int ((σ z1) 10 0)) C h.1 13 (fkW_c13 ..) fl_X4_63 rfl dX4_openBehind_20 ?_
      obtain ⟨z3, hc3, hf⟩ := bdS hf
      refine call_VRR (pc := 23) (As := [.int x2, .int ((σ z1) 10 0)]) (rest := []) C h (k_X1_stateAfter (q := fun i => q z1 (i + 11)) (hs (σ z1)) x2 ((σ z1) 10 0) hc3) cw_X4_222 24 (fkW_c24 ..) rfl [24, 25, 26, 27, 28, 29, 30, 31, 32] (fkW_h ..) (by decide) rfl rfl hl.1 (Nat.le_of_ble_eq_true rfl) dX4_openBehind_23 ⟨Nat.le_of_ble_eq_true rfl, Nat.le_of_ble_eq_true rfl⟩ rfl rfl ⟨Nat.le_of_ble_eq_true rfl, Nat.le_of_ble_eq_true rfl⟩ (fun H locs h => ?_)
      refine W.eq (g2 := F0 m 26 ls [.int z3]) rfl ?_
      refine lv_iconst (pc := 26) (v := 1) hx hb dX4_openBehind_26 (by decide) ?_
      refine lv_icmp_eq (pc := 27) (tgt := 32) hx hb dX4_openBehind_27 (by decide) (fun c9 => ?_) (fun c9 => ?_)
      · have hf := ifT c9 hf
        refine lv_aload_n (pc := 32) hx hb dX4_openBehind_32 rfl (lv_at hl 0 rfl) ?_
        refine lv_aload_n (pc := 33) hx hb dX4_openBehind_33 rfl (lv_at hl 0 rfl) ?_
        refine g_get (pc := 34) (v := .ref (q z1 11)) C h.1 13 (fkW_c13 ..) fl_X4_196 rfl dX4_openBehind_34 ?_
        refine lv_iload_n (pc := 37) hx hb dX4_openBehind_37 rfl (lv_at hl 3 rfl) ?_
        obtain ⟨z4, hc4, hf⟩ := bdS hf
        refine call_VRR (pc := 38) (As := [.int x2]) (rest := [.ref (q z1 0)]) C h (k_X1_signedAfter (q := fun i => q z1 (i + 11)) (hs (σ z1)) x2 hc4) cw_X4_226 24 (fkW_c24 ..) rfl [24, 25, 26, 27, 28, 29, 30, 31, 32] (fkW_h ..) (by decide) rfl rfl hl.1 (Nat.le_of_ble_eq_true rfl) dX4_openBehind_38 ⟨Nat.le_of_ble_eq_true rfl, Nat.le_of_ble_eq_true rfl⟩ rfl rfl ⟨Nat.le_of_ble_eq_true rfl, Nat.le_of_ble_eq_true rfl⟩ (fun H locs h => ?_)
        refine W.eq (g2 := F0 m 41 ls [.int z4, .ref (q z1 0)]) rfl ?_
        obtain ⟨z5, hc5, hf⟩ := bdS hf
        refine call_VRR (pc := 41) (As := [.int z4]) (rest := []) C h (k_X0_nextBehind (q := q z1) (σ z1) z4 hc5) cw_X4_229 13 (fkW_c13 ..) rfl [13, 14, 15, 16, 17, 18, 19, 20, 21, 22, 23, 24, 25, 26, 27, 28, 29, 30, 31, 32] (fkW_e ..) (by decide) rfl rfl hl.1 (Nat.le_of_ble_eq_true rfl) dX4_openBehind_41 ⟨Nat.le_of_ble_eq_true rfl, Nat.le_of_ble_eq_true rfl⟩ rfl rfl ⟨Nat.le_of_ble_eq_true rfl, Nat.le_of_ble_eq_true rfl⟩ (fun H locs h => ?_)
        refine W.eq (g2 := F0 m 44 ls [.int z5]) rfl ?_
        cases hf
      · have hf := ifF c9 hf
        refine lv_iconst (pc := 30) (v := 0) hx hb dX4_openBehind_30 (by decide) ?_
        cases hf
abbrev rm_X4_passOneDay : Room := { frames := 4, cells := 0, slots := 0, locals := 92 }
def f_X4_passOneDay_12 : Nat → Nat → (Nat → Nat → Int32) → (Nat → Nat → Nat → Int32) → Int32 → Option ((Nat → Nat → Int32) × (Nat → Nat → Nat → Int32) × Int32)
  | 0, _, _, _, _ => none
  | fu + 1, n, σ0, σ, x1 => (if (8 : Int32) ≤ x1 then some (σ0, σ, x1) else (xn (f_X4_standinOf x1) fun z2 => (lt (va_up σ0 (3 + z2) (upd (σ0 (3 + z2)) 4 (0 : Int32))) fun t3 => (f_X4_passOneDay_12 fu n t3 σ (x1 + (1 : Int32))))))
def f_X4_passOneDay_37 : Nat → Nat → (Nat → Nat → Int32) → (Nat → Nat → Nat → Int32) → Int32 → Int32 → Option ((Nat → Nat → Int32) × (Nat → Nat → Nat → Int32) × Int32 × Int32)
  | 0, _, _, _, _, _ => none
  | fu + 1, n, σ0, σ, x1, x2 => (if (nI n) ≤ x2 then some (σ0, σ, x1, x2) else (xn (f_X4_envelopeAt n x2) fun z3 => ((f_X0_meetDay (σ z3) (σ0 1 0)).bind fun z4 => (lt z4.2 fun t5 => (f_X4_passOneDay_37 fu n σ0 (va_up σ z3 t5) (x1 + z4.1) (x2 + (1 : Int32)))))))
def f_X4_passOneDay (n : Nat) (σ0 : (Nat → Nat → Int32)) (σ : (Nat → Nat → Nat → Int32)) : Option (Int32 × (Nat → Nat → Int32) × (Nat → Nat → Nat → Int32)) := (lt (va_up σ0 1 (fun _ => ((σ0 1 0) + (1 : Int32)))) fun t1 => ((f_X4_passOneDay_12 FU n t1 σ (0 : Int32)).bind fun z2 => ((f_X4_passOneDay_37 FU n z2.1 z2.2.1 (0 : Int32) (0 : Int32)).bind fun z3 => (some (z3.2.2.1, (z3.1, z3.2.1))))))
set_option maxHeartbeats 400000 in
set_option maxRecDepth 100000 in
theorem l_X4_passOneDay_12 (hn : n ≤ 6) (C : Cx p s m args meth c cX4_passOneDay 3 RX4 D cA) : ∀ (fu : Nat) (σ0 : (Nat → Nat → Int32)) (σ : (Nat → Nat → Nat → Int32)) (x1 : Int32) (z : (Nat → Nat → Int32) × (Nat → Nat → Nat → Int32) × Int32), f_X4_passOneDay_12 fu n σ0 σ x1 = some z → ∀ (H : Heap) (locs : List Loc) (ls : Array Slot), St D A s.heap (sW n q0 q cA σ0 σ) H locs → lv_has ls 3 [(0, .ref (q0 0)), (1, .int x1)] → (∀ (H : Heap) (locs : List Loc) (ls : Array Slot), St D A s.heap (sW n q0 q cA z.1 z.2.1) H locs → lv_has ls 3 [(0, .ref (q0 0)), (1, .int z.2.2)] → W p l e rm_X4_passOneDay s m args below meth c H locs 0 0 Q (F0 m 33 ls [])) → W p l e rm_X4_passOneDay s m args below meth c H locs 0 0 Q (F0 m 12 ls []) := by
  obtain ⟨hx, hb, hml, hown, hts, hK, hlk⟩ := id C
  intro fu
  induction fu with
  | zero => intro σ0 σ x1 z hf; rw [f_X4_passOneDay_12] at hf; cases hf
  | succ fu ih =>
    intro σ0 σ x1 z hf H locs ls h hl kk
    rw [f_X4_passOneDay_12] at hf
    refine lv_iload_n (pc := 12) hx hb dX4_passOneDay_12 rfl (lv_at hl 1 rfl) ?_
    refine lv_bipush (pc := 13) (v := 8) hx hb dX4_passOneDay_13 (by decide) ?_
    refine lv_icmp_ge (pc := 15) (tgt := 33) hx hb dX4_passOneDay_15 (by decide) (fun c9 => ?_) (fun c9 => ?_)
    · have hf := ifT c9 hf
      have hf : some (σ0, σ, x1) = some z := hf
      cases hf
      exact kk _ _ _ h (lv_sub hl [0, 1] rfl)
    · have hf := ifF c9 hf
      refine lv_aload_n (pc := 18) hx hb dX4_passOneDay_18 rfl (lv_at hl 0 rfl) ?_
      refine lv_iload_n (pc := 19) hx hb dX4_passOneDay_19 rfl (lv_at hl 1 rfl) ?_
      obtain ⟨z2, hc2, hf⟩ := xnS hf
      refine call_VR (pc := 20) (As := [.int x1]) (rest := []) C h (k_X4_standinOf (n := n) (q0 := q0) (q := q) σ0 x1 hc2) cw_X4_124 0 (sW_c0 ..) rfl (List.range 13) (sW_f ..) (by decide) rfl rfl hl.1 (Nat.le_of_ble_eq_true rfl) dX4_passOneDay_20 ⟨Nat.le_of_ble_eq_true rfl, Nat.le_of_ble_eq_true rfl⟩ rfl rfl ⟨Nat.le_of_ble_eq_true rfl, Nat.le_of_ble_eq_true rfl⟩ (fun H locs h => ?_)
      refine W.eq (g2 := F0 m 23 ls [.ref (q0 (5 + z2))]) rfl ?_
      have hp2 : z2 < 8 := stAt_lt hc2
      refine lv_iconst (pc := 23) (v := 0) hx hb dX4_passOneDay_23 (by decide) ?_
      obtain ⟨t3, et3, hf⟩ := ltS hf
      refine g_puti (pc := 24) (v := (0 : Int32)) (ws' := (sW n q0 q cA t3 σ)) C h (5 + z2) (sW_cs hp2 ..) fp_X4_128 (Nat.le_of_ble_eq_true rfl) ((sW_ws4 hp2 ..).trans (congrArg (fun w => sW n q0 q cA w σ) et3.symm)) dX4_passOneDay_24 (fun H locs h => ?_)
      refine lv_iinc (pc := 27) (v := (x1 + (1 : Int32))) (lv' := [(1, .int (x1 + (1 : Int32))), (0, .ref (q0 0))]) hx hb dX4_passOneDay_27 hl (k := 1) rfl rfl (by decide) rfl (fun ls hl => ?_)
      refine lv_goto (pc := 30) (tgt := 12) hx hb dX4_passOneDay_30 (by decide) ?_
      exact ih _ _ _ _ hf _ _ _ h (lv_sub hl [1, 0] rfl) kk
set_option maxHeartbeats 400000 in
set_option maxRecDepth 100000 in
theorem l_X4_passOneDay_37 (hn : n ≤ 6) (C : Cx p s m args meth c cX4_passOneDay 3 RX4 D cA) : ∀ (fu : Nat) (σ0 : (Nat → Nat → Int32)) (σ : (Nat → Nat → Nat → Int32)) (x1 x2 : Int32) (z : (Nat → Nat → Int32) × (Nat → Nat → Nat → Int32) × Int32 × Int32), f_X4_passOneDay_37 fu n σ0 σ x1 x2 = some z → ∀ (H : Heap) (locs : List Loc) (ls : Array Slot), St D A s.heap (sW n q0 q cA σ0 σ) H locs → lv_has ls 3 [(0, .ref (q0 0)), (1, .int x1), (2, .int x2)] → (∀ (H : Heap) (locs : List Loc) (ls : Array Slot), St D A s.heap (sW n q0 q cA z.1 z.2.1) H locs → lv_has ls 3 [(0, .ref (q0 0)), (1, .int z.2.2.1), (2, .int z.2.2.2)] → W p l e rm_X4_passOneDay s m args below meth c H locs 0 0 Q (F0 m 66 ls [])) → W p l e rm_X4_passOneDay s m args below meth c H locs 0 0 Q (F0 m 37 ls []) := by
  obtain ⟨hx, hb, hml, hown, hts, hK, hlk⟩ := id C
  intro fu
  induction fu with
  | zero => intro σ0 σ x1 x2 z hf; rw [f_X4_passOneDay_37] at hf; cases hf
  | succ fu ih =>
    intro σ0 σ x1 x2 z hf H locs ls h hl kk
    rw [f_X4_passOneDay_37] at hf
    refine lv_iload_n (pc := 37) hx hb dX4_passOneDay_37 rfl (lv_at hl 2 rfl) ?_
    refine lv_aload_n (pc := 38) hx hb dX4_passOneDay_38 rfl (lv_at hl 0 rfl) ?_
    refine g_get (pc := 39) (v := .int (nI n)) C h.1 0 (sW_c0 ..) fl_X4_31 rfl dX4_passOneDay_39 ?_
    refine lv_icmp_ge (pc := 42) (tgt := 66) hx hb dX4_passOneDay_42 (by decide) (fun c9 => ?_) (fun c9 => ?_)
    · have hf := ifT c9 hf
      have hf : some (σ0, σ, x1, x2) = some z := hf
      cases hf
      exact kk _ _ _ h (lv_sub hl [0, 1, 2] rfl)
    · have hf := ifF c9 hf
      refine lv_iload_n (pc := 45) hx hb dX4_passOneDay_45 rfl (lv_at hl 1 rfl) ?_
      refine lv_aload_n (pc := 46) hx hb dX4_passOneDay_46 rfl (lv_at hl 0 rfl) ?_
      refine lv_iload_n (pc := 47) hx hb dX4_passOneDay_47 rfl (lv_at hl 2 rfl) ?_
      obtain ⟨z3, hc3, hf⟩ := xnS hf
      refine call_VR (pc := 48) (As := [.int x2]) (rest := [.int x1]) C h (k_X4_envelopeAt hn (q0 := q0) (q := q) σ0 x2 hc3) cw_X4_43 0 (sW_c0 ..) rfl (List.range 13) (sW_f ..) (by decide) rfl rfl hl.1 (Nat.le_of_ble_eq_true rfl) dX4_passOneDay_48 ⟨Nat.le_of_ble_eq_true rfl, Nat.le_of_ble_eq_true rfl⟩ rfl rfl ⟨Nat.le_of_ble_eq_true rfl, Nat.le_of_ble_eq_true rfl⟩ (fun H locs h => ?_)
      refine W.eq (g2 := F0 m 51 ls [.ref (q z3 0), .int x1]) rfl ?_
      have hk3 : z3 < n := envAt_lt hn hc3
      have h := St_perm (foc_perm hk3 q0 q cA σ0 σ) h
      refine lv_aload_n (pc := 51) hx hb dX4_passOneDay_51 rfl (lv_at hl 0 rfl) ?_
      refine g_get (pc := 52) (v := .int (σ0 1 0)) C h.1 0 (fkW_c0 ..) fl_X4_98 rfl dX4_passOneDay_52 ?_
      obtain ⟨z4, hc4, hf⟩ := bdS hf
      obtain ⟨t5, et5, hf⟩ := ltS hf
      refine call_VU (pc := 55) (As := [.int (σ0 1 0)]) (rest := [.int x1]) (ws' := (fkW n z3 q0 q cA σ0 t5 σ)) C h (k_X0_meetDay (q := q z3) (σ z3) (σ0 1 0) hc4) cw_X4_250 13 (fkW_c13 ..) rfl [13, 14, 15, 16, 17, 18, 19, 20, 21, 22, 23, 24, 25, 26, 27, 28, 29, 30, 31, 32] (fkW_e ..) (by decide) (eW_fst _ _ _ _) ((fkW_ep ..).trans (congrArg (fun w => fkW n z3 q0 q cA σ0 w σ) et5.symm)) rfl rfl hl.1 (Nat.le_of_ble_eq_true rfl) dX4_passOneDay_55 ⟨Nat.le_of_ble_eq_true rfl, Nat.le_of_ble_eq_true rfl⟩ rfl rfl ⟨Nat.le_of_ble_eq_true rfl, Nat.le_of_ble_eq_true rfl⟩ (fun H locs h => ?_)
      refine W.eq (g2 := F0 m 58 ls [.int z4.1, .int x1]) rfl ?_
      refine lv_iadd (pc := 58) hx hb dX4_passOneDay_58 ?_
      refine lv_istore_n (pc := 59) (lv' := [(1, .int (x1 + z4.1)), (0, .ref (q0 0)), (2, .int x2)]) hx hb dX4_passOneDay_59 rfl hl (by decide) rfl (fun ls hl => ?_)
      refine lv_iinc (pc := 60) (v := (x2 + (1 : Int32))) (lv' := [(2, .int (x2 + (1 : Int32))), (1, .int (x1 + z4.1)), (0, .ref (q0 0))]) hx hb dX4_passOneDay_60 hl (k := 2) rfl rfl (by decide) rfl (fun ls hl => ?_)
      refine lv_goto (pc := 63) (tgt := 37) hx hb dX4_passOneDay_63 (by decide) ?_
      have h := St_perm (unf_perm hk3 q0 q cA σ0 t5 σ) h
      exact ih _ _ _ _ _ hf _ _ _ h (lv_sub hl [2, 1, 0] rfl) kk
set_option maxHeartbeats 400000 in
set_option maxRecDepth 100000 in
theorem k_X4_passOneDay {n : Nat} (hn : n ≤ 6) {q0 : Nat → Nat} {q : Nat → Nat → Nat} {cA : Nat → ClassId} {D : va_G} (σ0 : (Nat → Nat → Int32)) (σ : (Nat → Nat → Nat → Int32)) {z : Int32 × (Nat → Nat → Int32) × (Nat → Nat → Nat → Int32)} (hf : f_X4_passOneDay n σ0 σ = some z) : CtU yX4_passOneDay cX4_passOneDay 3 (some .int) rm_X4_passOneDay [.ref (q0 0)] D cA (sW n q0 q cA σ0 σ) (sW n q0 q cA z.2.1 z.2.2) (some (.int z.1)) 0 0 := by
  refine ctU_of (by decide) (Nat.le_of_ble_eq_true rfl) ?_
  intro p l e s m below meth c ls C hr hnm h hl
  have C : Cx p s m _ meth c cX4_passOneDay 3 RX4 D cA := C
  obtain ⟨hx, hb, hml, hown, hts, hK, hlk⟩ := id C
  replace hl : lv_has ls 3 [(0, .ref (q0 0))] := hl
  rw [f_X4_passOneDay] at hf
  refine lv_aload_n (pc := 0) hx hb dX4_passOneDay_0 rfl (lv_at hl 0 rfl) ?_
  refine lv_dup (pc := 1) hx hb dX4_passOneDay_1 rfl ?_
  refine g_get (pc := 2) (v := .int (σ0 1 0)) C h.1 0 (sW_c0 ..) fl_X4_98 rfl dX4_passOneDay_2 ?_
  refine lv_iconst (pc := 5) (v := 1) hx hb dX4_passOneDay_5 (by decide) ?_
  refine lv_iadd (pc := 6) hx hb dX4_passOneDay_6 ?_
  obtain ⟨t1, et1, hf⟩ := ltS hf
  refine g_puti (pc := 7) (v := ((σ0 1 0) + (1 : Int32))) (ws' := (sW n q0 q cA t1 σ)) C h 0 (sW_c0 ..) fp_X4_98 (Nat.le_of_ble_eq_true rfl) ((sW_w0_4 ..).trans (congrArg (fun w => sW n q0 q cA w σ) et1.symm)) dX4_passOneDay_7 (fun H locs h => ?_)
  refine lv_iconst (pc := 10) (v := 0) hx hb dX4_passOneDay_10 (by decide) ?_
  refine lv_istore_n (pc := 11) (lv' := [(1, .int (0 : Int32)), (0, .ref (q0 0))]) hx hb dX4_passOneDay_11 rfl hl (by decide) rfl (fun ls hl => ?_)
  obtain ⟨z2, hc2, hf⟩ := bdS hf
  refine l_X4_passOneDay_12 hn C _ _ _ _ _ hc2 _ _ _ h (lv_sub hl [1, 0] rfl) (fun H locs ls h hl => ?_)
  refine lv_iconst (pc := 33) (v := 0) hx hb dX4_passOneDay_33 (by decide) ?_
  refine lv_istore_n (pc := 34) (lv' := [(1, .int (0 : Int32)), (0, .ref (q0 0))]) hx hb dX4_passOneDay_34 rfl hl (by decide) rfl (fun ls hl => ?_)
  refine lv_iconst (pc := 35) (v := 0) hx hb dX4_passOneDay_35 (by decide) ?_
  refine lv_istore_n (pc := 36) (lv' := [(2, .int (0 : Int32)), (1, .int (0 : Int32)), (0, .ref (q0 0))]) hx hb dX4_passOneDay_36 rfl hl (by decide) rfl (fun ls hl => ?_)
  obtain ⟨z3, hc3, hf⟩ := bdS hf
  refine l_X4_passOneDay_37 hn C _ _ _ _ _ _ hc3 _ _ _ h (lv_sub hl [2, 1, 0] rfl) (fun H locs ls h hl => ?_)
  refine lv_iload_n (pc := 66) hx hb dX4_passOneDay_66 rfl (lv_at hl 1 rfl) ?_
  have hf : (some (z3.2.2.1, (z3.1, z3.2.1))) = some z := hf
  cases hf
  exact ret_iU (pc := 67) C hr h dX4_passOneDay_67
abbrev rm_X4_pass : Room := { frames := 5, cells := 0, slots := 0, locals := 114 }
def f_X4_pass_25 : Nat → Nat → (Nat → Nat → Int32) → (Nat → Nat → Nat → Int32) → Int32 → Int32 → Int32 → Option ((Nat → Nat → Int32) × (Nat → Nat → Nat → Int32) × Int32 × Int32)
  | 0, _, _, _, _, _, _ => none
  | fu + 1, n, σ0, σ, x1, x2, x3 => (if x1 ≤ x3 then some (σ0, σ, x2, x3) else ((f_X4_passOneDay n σ0 σ).bind fun z1 => (f_X4_pass_25 fu n z1.2.1 z1.2.2 x1 (x2 + z1.1) (x3 + (1 : Int32)))))
def f_X4_pass (n : Nat) (σ0 : (Nat → Nat → Int32)) (σ : (Nat → Nat → Nat → Int32)) (x1 : Int32) : Option (String ⊕ (Int32 × (Nat → Nat → Int32) × (Nat → Nat → Nat → Int32))) := (if x1 < (1 : Int32) then (some (.inl "java/lang/IllegalArgumentException")) else (if x1 ≤ (60 : Int32) then ((f_X4_pass_25 FU n σ0 σ x1 (0 : Int32) (0 : Int32)).bind fun z1 => (some (.inr (z1.2.2.1, (z1.1, z1.2.1))))) else (some (.inl "java/lang/IllegalArgumentException"))))
set_option maxHeartbeats 400000 in
set_option maxRecDepth 100000 in
theorem l_X4_pass_25 (hn : n ≤ 6) (C : Cx p s m args meth c cX4_pass 4 RX4 D cA) : ∀ (fu : Nat) (σ0 : (Nat → Nat → Int32)) (σ : (Nat → Nat → Nat → Int32)) (x1 x2 x3 : Int32) (z : (Nat → Nat → Int32) × (Nat → Nat → Nat → Int32) × Int32 × Int32), f_X4_pass_25 fu n σ0 σ x1 x2 x3 = some z → ∀ (H : Heap) (locs : List Loc) (ls : Array Slot), St D A s.heap (sW n q0 q cA σ0 σ) H locs → lv_has ls 4 [(0, .ref (q0 0)), (1, .int x1), (2, .int x2), (3, .int x3)] → (∀ (H : Heap) (locs : List Loc) (ls : Array Slot), St D A s.heap (sW n q0 q cA z.1 z.2.1) H locs → lv_has ls 4 [(0, .ref (q0 0)), (1, .int x1), (2, .int z.2.2.1), (3, .int z.2.2.2)] → W p l e rm_X4_pass s m args below meth c H locs 0 0 Q (F0 m 43 ls [])) → W p l e rm_X4_pass s m args below meth c H locs 0 0 Q (F0 m 25 ls []) := by
  obtain ⟨hx, hb, hml, hown, hts, hK, hlk⟩ := id C
  intro fu
  induction fu with
  | zero => intro σ0 σ x1 x2 x3 z hf; rw [f_X4_pass_25] at hf; cases hf
  | succ fu ih =>
    intro σ0 σ x1 x2 x3 z hf H locs ls h hl kk
    rw [f_X4_pass_25] at hf
    refine lv_iload_n (pc := 25) hx hb dX4_pass_25 rfl (lv_at hl 3 rfl) ?_
    refine lv_iload_n (pc := 26) hx hb dX4_pass_26 rfl (lv_at hl 1 rfl) ?_
    refine lv_icmp_ge (pc := 27) (tgt := 43) hx hb dX4_pass_27 (by decide) (fun c9 => ?_) (fun c9 => ?_)
    · have hf := ifT c9 hf
      have hf : some (σ0, σ, x2, x3) = some z := hf
      cases hf
      exact kk _ _ _ h (lv_sub hl [0, 1, 2, 3] rfl)
    · have hf := ifF c9 hf
      refine lv_iload_n (pc := 30) hx hb dX4_pass_30 rfl (lv_at hl 2 rfl) ?_
      refine lv_aload_n (pc := 31) hx hb dX4_pass_31 rfl (lv_at hl 0 rfl) ?_
      obtain ⟨z1, hc1, hf⟩ := bdS hf
      refine call_VUs (pc := 32) (As := []) (rest := [.int x2]) C h (k_X4_passOneDay hn (q0 := q0) (q := q) σ0 σ hc1) cw_X4_167 0 (sW_c0 ..) rfl (sW_fst ..) rfl rfl hl.1 (Nat.le_of_ble_eq_true rfl) dX4_pass_32 ⟨Nat.le_of_ble_eq_true rfl, Nat.le_of_ble_eq_true rfl⟩ rfl rfl ⟨Nat.le_of_ble_eq_true rfl, Nat.le_of_ble_eq_true rfl⟩ (fun H locs h => ?_)
      refine W.eq (g2 := F0 m 35 ls [.int z1.1, .int x2]) rfl ?_
      refine lv_iadd (pc := 35) hx hb dX4_pass_35 ?_
      refine lv_istore_n (pc := 36) (lv' := [(2, .int (x2 + z1.1)), (0, .ref (q0 0)), (1, .int x1), (3, .int x3)]) hx hb dX4_pass_36 rfl hl (by decide) rfl (fun ls hl => ?_)
      refine lv_iinc (pc := 37) (v := (x3 + (1 : Int32))) (lv' := [(3, .int (x3 + (1 : Int32))), (2, .int (x2 + z1.1)), (0, .ref (q0 0)), (1, .int x1)]) hx hb dX4_pass_37 hl (k := 3) rfl rfl (by decide) rfl (fun ls hl => ?_)
      refine lv_goto (pc := 40) (tgt := 25) hx hb dX4_pass_40 (by decide) ?_
      exact ih _ _ _ _ _ _ hf _ _ _ h (lv_sub hl [2, 3, 1, 0] rfl) kk
set_option maxHeartbeats 400000 in
set_option maxRecDepth 100000 in
theorem k_X4_pass {n : Nat} (hn : n ≤ 6) {q0 : Nat → Nat} {q : Nat → Nat → Nat} {cA : Nat → ClassId} {D : va_G} (σ0 : (Nat → Nat → Int32)) (σ : (Nat → Nat → Nat → Int32)) (x1 : Int32) {z : Int32 × (Nat → Nat → Int32) × (Nat → Nat → Nat → Int32)} (hf : f_X4_pass n σ0 σ x1 = some (.inr z)) : CtU yX4_pass cX4_pass 4 (some .int) rm_X4_pass [.ref (q0 0), .int x1] D cA (sW n q0 q cA σ0 σ) (sW n q0 q cA z.2.1 z.2.2) (some (.int z.1)) 0 0 := by
  refine ctU_of (by decide) (Nat.le_of_ble_eq_true rfl) ?_
  intro p l e s m below meth c ls C hr hnm h hl
  have C : Cx p s m _ meth c cX4_pass 4 RX4 D cA := C
  obtain ⟨hx, hb, hml, hown, hts, hK, hlk⟩ := id C
  replace hl : lv_has ls 4 [(0, .ref (q0 0)), (1, .int x1)] := hl
  rw [f_X4_pass] at hf
  refine lv_iload_n (pc := 0) hx hb dX4_pass_0 rfl (lv_at hl 1 rfl) ?_
  refine lv_iconst (pc := 1) (v := 1) hx hb dX4_pass_1 (by decide) ?_
  refine lv_icmp_lt (pc := 2) (tgt := 11) hx hb dX4_pass_2 (by decide) (fun c9 => ?_) (fun c9 => ?_)
  · have hf := ifT c9 hf
    cases hf
  · have hf := ifF c9 hf
    refine lv_iload_n (pc := 5) hx hb dX4_pass_5 rfl (lv_at hl 1 rfl) ?_
    refine lv_bipush (pc := 6) (v := 60) hx hb dX4_pass_6 (by decide) ?_
    refine lv_icmp_le (pc := 8) (tgt := 21) hx hb dX4_pass_8 (by decide) (fun c9 => ?_) (fun c9 => ?_)
    · have hf := ifT c9 hf
      refine lv_iconst (pc := 21) (v := 0) hx hb dX4_pass_21 (by decide) ?_
      refine lv_istore_n (pc := 22) (lv' := [(2, .int (0 : Int32)), (0, .ref (q0 0)), (1, .int x1)]) hx hb dX4_pass_22 rfl hl (by decide) rfl (fun ls hl => ?_)
      refine lv_iconst (pc := 23) (v := 0) hx hb dX4_pass_23 (by decide) ?_
      refine lv_istore_n (pc := 24) (lv' := [(3, .int (0 : Int32)), (2, .int (0 : Int32)), (0, .ref (q0 0)), (1, .int x1)]) hx hb dX4_pass_24 rfl hl (by decide) rfl (fun ls hl => ?_)
      obtain ⟨z1, hc1, hf⟩ := bdS hf
      refine l_X4_pass_25 hn C _ _ _ _ _ _ _ hc1 _ _ _ h (lv_sub hl [2, 3, 1, 0] rfl) (fun H locs ls h hl => ?_)
      refine lv_iload_n (pc := 43) hx hb dX4_pass_43 rfl (lv_at hl 2 rfl) ?_
      cases hf
      exact ret_iU (pc := 44) C hr h dX4_pass_44
    · have hf := ifF c9 hf
      cases hf
abbrev rmT_X4_pass : Room := { frames := 6, cells := 1, slots := 6, locals := 114 }
set_option maxHeartbeats 400000 in
set_option maxRecDepth 100000 in
theorem kT_X4_pass {n : Nat} (hn : n ≤ 6) {q0 : Nat → Nat} {q : Nat → Nat → Nat} {cA : Nat → ClassId} {D : va_G} (σ0 : (Nat → Nat → Int32)) (σ : (Nat → Nat → Nat → Int32)) (x1 : Int32) {E : String} (hf : f_X4_pass n σ0 σ x1 = some (.inl E)) : CtT yX4_pass cX4_pass 4 (some .int) rmT_X4_pass [.ref (q0 0), .int x1] D cA (sW n q0 q cA σ0 σ) E := by
  refine ctT_of (by decide) (Nat.le_of_ble_eq_true rfl) ?_
  intro p l e s m below meth c ls hl0 C hex hX h hl
  have C : Cx p s m _ meth c cX4_pass 4 RX4 D cA := C
  obtain ⟨hx, hb, hml, hown, hts, hK, hlk⟩ := id C
  replace hl : lv_has ls 4 [(0, .ref (q0 0)), (1, .int x1)] := hl
  rw [f_X4_pass] at hf
  refine lv_iload_n (pc := 0) hx hb dX4_pass_0 rfl (lv_at hl 1 rfl) ?_
  refine lv_iconst (pc := 1) (v := 1) hx hb dX4_pass_1 (by decide) ?_
  refine lv_icmp_lt (pc := 2) (tgt := 11) hx hb dX4_pass_2 (by decide) (fun c9 => ?_) (fun c9 => ?_)
  · have hf := ifT c9 hf
    cases hf
    exact g_throw (pc := 11) (rest := []) C hl0 hex hX h tw_IllegalArgumentException (is := 165) (text := "days is not 1 to 60") (by decide +kernel) hl.1 dX4_pass_11 dX4_pass_14 dX4_pass_15 dX4_pass_17 dX4_pass_20 (Nat.le_of_ble_eq_true rfl) (Nat.le_of_ble_eq_true rfl) (Nat.le_of_ble_eq_true rfl) (Nat.le_of_ble_eq_true rfl) (Nat.le_of_ble_eq_true rfl) (Nat.le_of_ble_eq_true rfl)
  · have hf := ifF c9 hf
    refine lv_iload_n (pc := 5) hx hb dX4_pass_5 rfl (lv_at hl 1 rfl) ?_
    refine lv_bipush (pc := 6) (v := 60) hx hb dX4_pass_6 (by decide) ?_
    refine lv_icmp_le (pc := 8) (tgt := 21) hx hb dX4_pass_8 (by decide) (fun c9 => ?_) (fun c9 => ?_)
    · have hf := ifT c9 hf
      refine lv_iconst (pc := 21) (v := 0) hx hb dX4_pass_21 (by decide) ?_
      refine lv_istore_n (pc := 22) (lv' := [(2, .int (0 : Int32)), (0, .ref (q0 0)), (1, .int x1)]) hx hb dX4_pass_22 rfl hl (by decide) rfl (fun ls hl => ?_)
      refine lv_iconst (pc := 23) (v := 0) hx hb dX4_pass_23 (by decide) ?_
      refine lv_istore_n (pc := 24) (lv' := [(3, .int (0 : Int32)), (2, .int (0 : Int32)), (0, .ref (q0 0)), (1, .int x1)]) hx hb dX4_pass_24 rfl hl (by decide) rfl (fun ls hl => ?_)
      obtain ⟨z1, hc1, hf⟩ := bdS hf
      cases hf
    · have hf := ifF c9 hf
      cases hf
      exact g_throw (pc := 11) (rest := []) C hl0 hex hX h tw_IllegalArgumentException (is := 165) (text := "days is not 1 to 60") (by decide +kernel) hl.1 dX4_pass_11 dX4_pass_14 dX4_pass_15 dX4_pass_17 dX4_pass_20 (Nat.le_of_ble_eq_true rfl) (Nat.le_of_ble_eq_true rfl) (Nat.le_of_ble_eq_true rfl) (Nat.le_of_ble_eq_true rfl) (Nat.le_of_ble_eq_true rfl) (Nat.le_of_ble_eq_true rfl)
end
