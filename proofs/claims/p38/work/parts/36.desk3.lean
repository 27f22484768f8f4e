section
variable {p : Program} {l : Launch} {e : Env} {R : Room} {s : State} {m : MethodId} {args : Array Value} {below : List Frame} {meth : Method} {c : Code} {Q : State → Prop}
variable {D : va_G} {cA : Nat → ClassId} {A : Nat → Prop} {n : Nat} {q0 : Nat → Nat} {q : Nat → Nat → Nat}
abbrev rm_X4_today : Room := { frames := 0, cells := 0, slots := 0, locals := 0 }
def f_X4_today (n : Nat) (σ0 : (Nat → Nat → Int32)) (σ : (Nat → Nat → Nat → Int32)) : Int32 := (σ0 1 0)
set_option maxHeartbeats 400000 in
set_option maxRecDepth 100000 in
theorem k_X4_today {n : Nat} (hn : n ≤ 6) {q0 : Nat → Nat} {q : Nat → Nat → Nat} {cA : Nat → ClassId} {D : va_G} (σ0 : (Nat → Nat → Int32)) (σ : (Nat → Nat → Nat → Int32)) {z : Int32} (hf : f_X4_today n σ0 σ = z) : CtR yX4_today cX4_today 1 (some .int) rm_X4_today [.ref (q0 0)] D cA (sW n q0 q cA σ0 σ) (some (.int z)) 0 0 := by
  refine ctR_of (by decide) (Nat.le_of_ble_eq_true rfl) ?_
  intro p l e s m below meth c ls C hr hnm h hl
  have C : Cx p s m _ meth c cX4_today 1 RX4 D cA := C
  obtain ⟨hx, hb, hml, hown, hts, hK, hlk⟩ := id C
  replace hl : lv_has ls 1 [(0, .ref (q0 0))] := hl
  rw [f_X4_today] at hf
  refine lv_aload_n (pc := 0) hx hb dX4_today_0 rfl (lv_at hl 0 rfl) ?_
  refine g_get (pc := 1) (v := .int (σ0 1 0)) C h.1 0 (sW_c0 ..) fl_X4_98 rfl dX4_today_1 ?_
  have hf : (σ0 1 0) = z := hf
  subst hf
  exact ret_iR (pc := 4) C hr h dX4_today_4
abbrev rm_X4_nextReminder : Room := { frames := 3, cells := 0, slots := 0, locals := 67 }
def f_X4_nextReminder (n : Nat) (σ0 : (Nat → Nat → Int32)) (σ : (Nat → Nat → Nat → Int32)) (x1 : Int32) : Option (String ⊕ (Int32)) := (xb (f_X4_envelopeAt n x1) fun z1 => ((f_X0_reminderBehind (σ z1) (σ0 1 0)).bind fun z2 => (some (.inr z2))))
set_option maxHeartbeats 400000 in
set_option maxRecDepth 100000 in
theorem k_X4_nextReminder {n : Nat} (hn : n ≤ 6) {q0 : Nat → Nat} {q : Nat → Nat → Nat} {cA : Nat → ClassId} {D : va_G} (σ0 : (Nat → Nat → Int32)) (σ : (Nat → Nat → Nat → Int32)) (x1 : Int32) {z : Int32} (hf : f_X4_nextReminder n σ0 σ x1 = some (.inr z)) : CtR yX4_nextReminder cX4_nextReminder 2 (some .int) rm_X4_nextReminder [.ref (q0 0), .int x1] D cA (sW n q0 q cA σ0 σ) (some (.int z)) 0 0 := by
  refine ctR_of (by decide) (Nat.le_of_ble_eq_true rfl) ?_
  intro p l e s m below meth c ls C hr hnm h hl
  have C : Cx p s m _ meth c cX4_nextReminder 2 RX4 D cA := C
  obtain ⟨hx, hb, hml, hown, hts, hK, hlk⟩ := id C
  replace hl : lv_has ls 2 [(0, .ref (q0 0)), (1, .int x1)] := hl
  rw [f_X4_nextReminder] at hf
  refine lv_aload_n (pc := 0) hx hb dX4_nextReminder_0 rfl (lv_at hl 0 rfl) ?_
  refine lv_iload_n (pc := 1) hx hb dX4_nextReminder_1 rfl (lv_at hl 1 rfl) ?_
  obtain ⟨z1, hc1, hf⟩ := xbR hf
  refine call_VRR (pc := 2) (As := [.int x1]) (rest := []) C h (k_X4_envelopeAt hn (q0 := q0) (q := q) σ0 x1 hc1) cw_X4_43 0 (sW_c0 ..) rfl (List.range 13) (sW_f ..) (by decide) rfl rfl hl.1 (Nat.le_of_ble_eq_true rfl) dX4_nextReminder_2 ⟨Nat.le_of_ble_eq_true rfl, Nat.le_of_ble_eq_true rfl⟩ rfl rfl ⟨Nat.le_of_ble_eq_true rfl, Nat.le_of_ble_eq_true rfl⟩ (fun H locs h => ?_)
  refine W.eq (g2 := F0 m 5 ls [.ref (q z1 0)]) rfl ?_
  have hk1 : z1 < n := envAt_lt hn hc1
  have h := SR_perm (foc_perm hk1 q0 q cA σ0 σ) h
  refine lv_aload_n (pc := 5) hx hb dX4_nextReminder_5 rfl (lv_at hl 0 rfl) ?_
  refine g_get (pc := 6) (v := .int (σ0 1 0)) C h.1 0 (fkW_c0 ..) fl_X4_98 rfl dX4_nextReminder_6 ?_
  obtain ⟨z2, hc2, hf⟩ := bdS hf
  refine call_VRR (pc := 9) (As := [.int (σ0 1 0)]) (rest := []) C h (k_X0_reminderBehind (q := q z1) (σ z1) (σ0 1 0) hc2) cw_X4_170 13 (fkW_c13 ..) rfl [13, 14, 15, 16, 17, 18, 19, 20, 21, 22, 23, 24, 25, 26, 27, 28, 29, 30, 31, 32] (fkW_e ..) (by decide) rfl rfl hl.1 (Nat.le_of_ble_eq_true rfl) dX4_nextReminder_9 ⟨Nat.le_of_ble_eq_true rfl, Nat.le_of_ble_eq_true rfl⟩ rfl rfl ⟨Nat.le_of_ble_eq_true rfl, Nat.le_of_ble_eq_true rfl⟩ (fun H locs h => ?_)
  refine W.eq (g2 := F0 m 12 ls [.int z2]) rfl ?_
  cases hf
  exact ret_iR (pc := 12) C hr h dX4_nextReminder_12
abbrev rmT_X4_nextReminder : Room := { frames := 7, cells := 1, slots := 6, locals := 104 }
set_option maxHeartbeats 400000 in
set_option maxRecDepth 100000 in
theorem kT_X4_nextReminder {n : Nat} (hn : n ≤ 6) {q0 : Nat → Nat} {q : Nat → Nat → Nat} {cA : Nat → ClassId} {D : va_G} (σ0 : (Nat → Nat → Int32)) (σ : (Nat → Nat → Nat → Int32)) (x1 : Int32) {E : String} (hf : f_X4_nextReminder n σ0 σ x1 = some (.inl E)) : CtT yX4_nextReminder cX4_nextReminder 2 (some .int) rmT_X4_nextReminder [.ref (q0 0), .int x1] D cA (sW n q0 q cA σ0 σ) E := by
  refine ctT_of (by decide) (Nat.le_of_ble_eq_true rfl) ?_
  intro p l e s m below meth c ls hl0 C hex hX h hl
  have C : Cx p s m _ meth c cX4_nextReminder 2 RX4 D cA := C
  obtain ⟨hx, hb, hml, hown, hts, hK, hlk⟩ := id C
  replace hl : lv_has ls 2 [(0, .ref (q0 0)), (1, .int x1)] := hl
  rw [f_X4_nextReminder] at hf
  refine lv_aload_n (pc := 0) hx hb dX4_nextReminder_0 rfl (lv_at hl 0 rfl) ?_
  refine lv_iload_n (pc := 1) hx hb dX4_nextReminder_1 rfl (lv_at hl 1 rfl) ?_
  rcases xbT hf with hc0 | ⟨z1, hc1, hf⟩
  · exact call_TV (pc := 2) (As := [.int x1]) (rest := []) (Qc := QF) C hl0 hex hX h (kT_X4_envelopeAt hn (q0 := q0) (q := q) σ0 x1 hc0) cw_X4_43 0 (sW_c0 ..) rfl (List.range 13) (sW_f ..) (by decide) rfl rfl hl.1 (Nat.le_of_ble_eq_true rfl) dX4_nextReminder_2 ⟨Nat.le_of_ble_eq_true rfl, Nat.le_of_ble_eq_true rfl⟩ rfl rfl ⟨Nat.le_of_ble_eq_true rfl, Nat.le_of_ble_eq_true rfl⟩
  · refine call_VRR (pc := 2) (As := [.int x1]) (rest := []) C h (k_X4_envelopeAt hn (q0 := q0) (q := q) σ0 x1 hc1) cw_X4_43 0 (sW_c0 ..) rfl (List.range 13) (sW_f ..) (by decide) rfl rfl hl.1 (Nat.le_of_ble_eq_true rfl) dX4_nextReminder_2 ⟨Nat.le_of_ble_eq_true rfl, Nat.le_of_ble_eq_true rfl⟩ rfl rfl ⟨Nat.le_of_ble_eq_true rfl, Nat.le_of_ble_eq_true rfl⟩ (fun H locs h => ?_)
    refine W.eq (g2 := F0 m 5 ls [.ref (q z1 0)]) rfl ?_
    have hk1 : z1 < n := envAt_lt hn hc1
    have h := SR_perm (foc_perm hk1 q0 q cA σ0 σ) h
    refine lv_aload_n (pc := 5) hx hb dX4_nextReminder_5 rfl (lv_at hl 0 rfl) ?_
    refine g_get (pc := 6) (v := .int (σ0 1 0)) C h.1 0 (fkW_c0 ..) fl_X4_98 rfl dX4_nextReminder_6 ?_
    obtain ⟨z2, hc2, hf⟩ := bdS hf
    refine call_VRR (pc := 9) (As := [.int (σ0 1 0)]) (rest := []) C h (k_X0_reminderBehind (q := q z1) (σ z1) (σ0 1 0) hc2) cw_X4_170 13 (fkW_c13 ..) rfl [13, 14, 15, 16, 17, 18, 19, 20, 21, 22, 23, 24, 25, 26, 27, 28, 29, 30, 31, 32] (fkW_e ..) (by decide) rfl rfl hl.1 (Nat.le_of_ble_eq_true rfl) dX4_nextReminder_9 ⟨Nat.le_of_ble_eq_true rfl, Nat.le_of_ble_eq_true rfl⟩ rfl rfl ⟨Nat.le_of_ble_eq_true rfl, Nat.le_of_ble_eq_true rfl⟩ (fun H locs h => ?_)
    refine W.eq (g2 := F0 m 12 ls [.int z2]) rfl ?_
    cases hf
abbrev rm_X4_envelopes : Room := { frames := 0, cells := 0, slots := 0, locals := 0 }
def f_X4_envelopes (n : Nat) (σ0 : (Nat → Nat → Int32)) (σ : (Nat → Nat → Nat → Int32)) : Int32 := (nI n)
set_option maxHeartbeats 400000 in
set_option maxRecDepth 100000 in
theorem k_X4_envelopes {n : Nat} (hn : n ≤ 6) {q0 : Nat → Nat} {q : Nat → Nat → Nat} {cA : Nat → ClassId} {D : va_G} (σ0 : (Nat → Nat → Int32)) (σ : (Nat → Nat → Nat → Int32)) {z : Int32} (hf : f_X4_envelopes n σ0 σ = z) : CtR yX4_envelopes cX4_envelopes 1 (some .int) rm_X4_envelopes [.ref (q0 0)] D cA (sW n q0 q cA σ0 σ) (some (.int z)) 0 0 := by
  refine ctR_of (by decide) (Nat.le_of_ble_eq_true rfl) ?_
  intro p l e s m below meth c ls C hr hnm h hl
  have C : Cx p s m _ meth c cX4_envelopes 1 RX4 D cA := C
  obtain ⟨hx, hb, hml, hown, hts, hK, hlk⟩ := id C
  replace hl : lv_has ls 1 [(0, .ref (q0 0))] := hl
  rw [f_X4_envelopes] at hf
  refine lv_aload_n (pc := 0) hx hb dX4_envelopes_0 rfl (lv_at hl 0 rfl) ?_
  refine g_get (pc := 1) (v := .int (nI n)) C h.1 0 (sW_c0 ..) fl_X4_31 rfl dX4_envelopes_1 ?_
  have hf : (nI n) = z := hf
  subst hf
  exact ret_iR (pc := 4) C hr h dX4_envelopes_4
abbrev rm_X4_state : Room := { frames := 1, cells := 0, slots := 0, locals := 22 }
def f_X4_state (n : Nat) (σ0 : (Nat → Nat → Int32)) (σ : (Nat → Nat → Nat → Int32)) (x1 : Int32) : Option (String ⊕ (Int32)) := (xb (f_X4_envelopeAt n x1) fun z1 => (some (.inr ((σ z1) 11 0))))
set_option maxHeartbeats 400000 in
set_option maxRecDepth 100000 in
theorem k_X4_state {n : Nat} (hn : n ≤ 6) {q0 : Nat → Nat} {q : Nat → Nat → Nat} {cA : Nat → ClassId} {D : va_G} (σ0 : (Nat → Nat → Int32)) (σ : (Nat → Nat → Nat → Int32)) (x1 : Int32) {z : Int32} (hf : f_X4_state n σ0 σ x1 = some (.inr z)) : CtR yX4_state cX4_state 2 (some .int) rm_X4_state [.ref (q0 0), .int x1] D cA (sW n q0 q cA σ0 σ) (some (.int z)) 0 0 := by
  refine ctR_of (by decide) (Nat.le_of_ble_eq_true rfl) ?_
  intro p l e s m below meth c ls C hr hnm h hl
  have C : Cx p s m _ meth c cX4_state 2 RX4 D cA := C
  obtain ⟨hx, hb, hml, hown, hts, hK, hlk⟩ := id C
  replace hl : lv_has ls 2 [(0, .ref (q0 0)), (1, .int x1)] := hl
  rw [f_X4_state] at hf
  refine lv_aload_n (pc := 0) hx hb dX4_state_0 rfl (lv_at hl 0 rfl) ?_
  refine lv_iload_n (pc := 1) hx hb dX4_state_1 rfl (lv_at hl 1 rfl) ?_
  obtain ⟨z1, hc1, hf⟩ := xbR hf
  refine call_VRR (pc := 2) (As := [.int x1]) (rest := []) C h (k_X4_envelopeAt hn (q0 := q0) (q := q) σ0 x1 hc1) cw_X4_43 0 (sW_c0 ..) rfl (List.range 13) (sW_f ..) (by decide) rfl rfl hl.1 (Nat.le_of_ble_eq_true rfl) dX4_state_2 ⟨Nat.le_of_ble_eq_true rfl, Nat.le_of_ble_eq_true rfl⟩ rfl rfl ⟨Nat.le_of_ble_eq_true rfl, Nat.le_of_ble_eq_true rfl⟩ (fun H locs h => ?_)
  refine W.eq (g2 := F0 m 5 ls [.ref (q z1 0)]) rfl ?_
  have hk1 : z1 < n := envAt_lt hn hc1
  have h := SR_perm (foc_perm hk1 q0 q cA σ0 σ) h
  refine g_get (pc := 5) (v := .int ((σ z1) 11 0)) C h.1 13 (fkW_c13 ..) fl_X4_137 rfl dX4_state_5 ?_
  cases hf
  exact ret_iR (pc := 8) C hr h dX4_state_8
abbrev rmT_X4_state : Room := { frames := 7, cells := 1, slots := 6, locals := 104 }
set_option maxHeartbeats 400000 in
set_option maxRecDepth 100000 in
theorem kT_X4_state {n : Nat} (hn : n ≤ 6) {q0 : Nat → Nat} {q : Nat → Nat → Nat} {cA : Nat → ClassId} {D : va_G} (σ0 : (Nat → Nat → Int32)) (σ : (Nat → Nat → Nat → Int32)) (x1 : Int32) {E : String} (hf : f_X4_state n σ0 σ x1 = some (.inl E)) : CtT yX4_state cX4_state 2 (some .int) rmT_X4_state [.ref (q0 0), .int x1] D cA (sW n q0 q cA σ0 σ) E := by
  refine ctT_of (by decide) (Nat.le_of_ble_eq_true rfl) ?_
  intro p l e s m below meth c ls hl0 C hex hX h hl
  have C : Cx p s m _ meth c cX4_state 2 RX4 D cA := C
  obtain ⟨hx, hb, hml, hown, hts, hK, hlk⟩ := id C
  replace hl : lv_has ls 2 [(0, .ref (q0 0)), (1, .int x1)] := hl
  rw [f_X4_state] at hf
  refine lv_aload_n (pc := 0) hx hb dX4_state_0 rfl (lv_at hl 0 rfl) ?_
  refine lv_iload_n (pc := 1) hx hb dX4_state_1 rfl (lv_at hl 1 rfl) ?_
  rcases xbT hf with hc0 | ⟨z1, hc1, hf⟩
  · exact call_TV (pc := 2) (As := [.int x1]) (rest := []) (Qc := QF) C hl0 hex hX h (kT_X4_envelopeAt hn (q0 := q0) (q := q) σ0 x1 hc0) cw_X4_43 0 (sW_c0 ..) rfl (List.range 13) (sW_f ..) (by decide) rfl rfl hl.1 (Nat.le_of_ble_eq_true rfl) dX4_state_2 ⟨Nat.le_of_ble_eq_true rfl, Nat.le_of_ble_eq_true rfl⟩ rfl rfl ⟨Nat.le_of_ble_eq_true rfl, Nat.le_of_ble_eq_true rfl⟩
  · refine call_VRR (pc := 2) (As := [.int x1]) (rest := []) C h (k_X4_envelopeAt hn (q0 := q0) (q := q) σ0 x1 hc1) cw_X4_43 0 (sW_c0 ..) rfl (List.range 13) (sW_f ..) (by decide) rfl rfl hl.1 (Nat.le_of_ble_eq_true rfl) dX4_state_2 ⟨Nat.le_of_ble_eq_true rfl, Nat.le_of_ble_eq_true rfl⟩ rfl rfl ⟨Nat.le_of_ble_eq_true rfl, Nat.le_of_ble_eq_true rfl⟩ (fun H locs h => ?_)
    refine W.eq (g2 := F0 m 5 ls [.ref (q z1 0)]) rfl ?_
    have hk1 : z1 < n := envAt_lt hn hc1
    have h := SR_perm (foc_perm hk1 q0 q cA σ0 σ) h
    refine g_get (pc := 5) (v := .int ((σ z1) 11 0)) C h.1 13 (fkW_c13 ..) fl_X4_137 rfl dX4_state_5 ?_
    cases hf
abbrev rm_X4_slots : Room := { frames := 1, cells := 0, slots := 0, locals := 22 }
def f_X4_slots (n : Nat) (σ0 : (Nat → Nat → Int32)) (σ : (Nat → Nat → Nat → Int32)) (x1 : Int32) : Option (String ⊕ (Int32)) := (xb (f_X4_envelopeAt n x1) fun z1 => (some (.inr ((σ z1) 10 0))))
set_option maxHeartbeats 400000 in
set_option maxRecDepth 100000 in
theorem k_X4_slots {n : Nat} (hn : n ≤ 6) {q0 : Nat → Nat} {q : Nat → Nat → Nat} {cA : Nat → ClassId} {D : va_G} (σ0 : (Nat → Nat → Int32)) (σ : (Nat → Nat → Nat → Int32)) (x1 : Int32) {z : Int32} (hf : f_X4_slots n σ0 σ x1 = some (.inr z)) : CtR yX4_slots cX4_slots 2 (some .int) rm_X4_slots [.ref (q0 0), .int x1] D cA (sW n q0 q cA σ0 σ) (some (.int z)) 0 0 := by
  refine ctR_of (by decide) (Nat.le_of_ble_eq_true rfl) ?_
  intro p l e s m below meth c ls C hr hnm h hl
  have C : Cx p s m _ meth c cX4_slots 2 RX4 D cA := C
  obtain ⟨hx, hb, hml, hown, hts, hK, hlk⟩ := id C
  replace hl : lv_has ls 2 [(0, .ref (q0 0)), (1, .int x1)] := hl
  rw [f_X4_slots] at hf
  refine lv_aload_n (pc := 0) hx hb dX4_slots_0 rfl (lv_at hl 0 rfl) ?_
  refine lv_iload_n (pc := 1) hx hb dX4_slots_1 rfl (lv_at hl 1 rfl) ?_
  obtain ⟨z1, hc1, hf⟩ := xbR hf
  refine call_VRR (pc := 2) (As := [.int x1]) (rest := []) C h (k_X4_envelopeAt hn (q0 := q0) (q := q) σ0 x1 hc1) cw_X4_43 0 (sW_c0 ..) rfl (List.range 13) (sW_f ..) (by decide) rfl rfl hl.1 (Nat.le_of_ble_eq_true rfl) dX4_slots_2 ⟨Nat.le_of_ble_eq_true rfl, Nat.le_of_ble_eq_true rfl⟩ rfl rfl ⟨Nat.le_of_ble_eq_true rfl, Nat.le_of_ble_eq_true rfl⟩ (fun H locs h => ?_)
  refine W.eq (g2 := F0 m 5 ls [.ref (q z1 0)]) rfl ?_
  have hk1 : z1 < n := envAt_lt hn hc1
  have h := SR_perm (foc_perm hk1 q0 q cA σ0 σ) h
  refine g_get (pc := 5) (v := .int ((σ z1) 10 0)) C h.1 13 (fkW_c13 ..) fl_X4_63 rfl dX4_slots_5 ?_
  cases hf
  exact ret_iR (pc := 8) C hr h dX4_slots_8
abbrev rmT_X4_slots : Room := { frames := 7, cells := 1, slots := 6, locals := 104 }
set_option maxHeartbeats 400000 in
set_option maxRecDepth 100000 in
theorem kT_X4_slots {n : Nat} (hn : n ≤ 6) {q0 : Nat → Nat} {q : Nat → Nat → Nat} {cA : Nat → ClassId} {D : va_G} (σ0 : (Nat → Nat → Int32)) (σ : (Nat → Nat → Nat → Int32)) (x1 : Int32) {E : String} (hf : f_X4_slots n σ0 σ x1 = some (.inl E)) : CtT yX4_slots cX4_slots 2 (some .int) rmT_X4_slots [.ref (q0 0), .int x1] D cA (sW n q0 q cA σ0 σ) E := by
  refine ctT_of (by decide) (Nat.le_of_ble_eq_true rfl) ?_
  intro p l e s m below meth c ls hl0 C hex hX h hl
  have C : Cx p s m _ meth c cX4_slots 2 RX4 D cA := C
  obtain ⟨hx, hb, hml, hown, hts, hK, hlk⟩ := id C
  replace hl : lv_has ls 2 [(0, .ref (q0 0)), (1, .int x1)] := hl
  rw [f_X4_slots] at hf
  refine lv_aload_n (pc := 0) hx hb dX4_slots_0 rfl (lv_at hl 0 rfl) ?_
  refine lv_iload_n (pc := 1) hx hb dX4_slots_1 rfl (lv_at hl 1 rfl) ?_
  rcases xbT hf with hc0 | ⟨z1, hc1, hf⟩
  · exact call_TV (pc := 2) (As := [.int x1]) (rest := []) (Qc := QF) C hl0 hex hX h (kT_X4_envelopeAt hn (q0 := q0) (q := q) σ0 x1 hc0) cw_X4_43 0 (sW_c0 ..) rfl (List.range 13) (sW_f ..) (by decide) rfl rfl hl.1 (Nat.le_of_ble_eq_true rfl) dX4_slots_2 ⟨Nat.le_of_ble_eq_true rfl, Nat.le_of_ble_eq_true rfl⟩ rfl rfl ⟨Nat.le_of_ble_eq_true rfl, Nat.le_of_ble_eq_true rfl⟩
  · refine call_VRR (pc := 2) (As := [.int x1]) (rest := []) C h (k_X4_envelopeAt hn (q0 := q0) (q := q) σ0 x1 hc1) cw_X4_43 0 (sW_c0 ..) rfl (List.range 13) (sW_f ..) (by decide) rfl rfl hl.1 (Nat.le_of_ble_eq_true rfl) dX4_slots_2 ⟨Nat.le_of_ble_eq_true rfl, Nat.le_of_ble_eq_true rfl⟩ rfl rfl ⟨Nat.le_of_ble_eq_true rfl, Nat.le_of_ble_eq_true rfl⟩ (fun H locs h => ?_)
    refine W.eq (g2 := F0 m 5 ls [.ref (q z1 0)]) rfl ?_
    have hk1 : z1 < n := envAt_lt hn hc1
    have h := SR_perm (foc_perm hk1 q0 q cA σ0 σ) h
    refine g_get (pc := 5) (v := .int ((σ z1) 10 0)) C h.1 13 (fkW_c13 ..) fl_X4_63 rfl dX4_slots_5 ?_
    cases hf
abbrev rm_X4_slotState : Room := { frames := 2, cells := 0, slots := 0, locals := 42 }
def f_X4_slotState (n : Nat) (σ0 : (Nat → Nat → Int32)) (σ : (Nat → Nat → Nat → Int32)) (x1 x2 : Int32) : Option (String ⊕ (Int32)) := (xb (f_X4_envelopeAt n x1) fun z1 => (xb (f_X4_refuseNoSlot (σ z1) x2) fun z2 => (some (.inr (f_X0_stateOf (σ z1) x2)))))
set_option maxHeartbeats 400000 in
set_option maxRecDepth 100000 in
theorem k_X4_slotState {n : Nat} (hn : n ≤ 6) {q0 : Nat → Nat} {q : Nat → Nat → Nat} {cA : Nat → ClassId} {D : va_G} (σ0 : (Nat → Nat → Int32)) (σ : (Nat → Nat → Nat → Int32)) (x1 x2 : Int32) {z : Int32} (hf : f_X4_slotState n σ0 σ x1 x2 = some (.inr z)) : CtR yX4_slotState cX4_slotState 4 (some .int) rm_X4_slotState [.ref (q0 0), .int x1, .int x2] D cA (sW n q0 q cA σ0 σ) (some (.int z)) 0 0 := by
  refine ctR_of (by decide) (Nat.le_of_ble_eq_true rfl) ?_
  intro p l e s m below meth c ls C hr hnm h hl
  have C : Cx p s m _ meth c cX4_slotState 4 RX4 D cA := C
  obtain ⟨hx, hb, hml, hown, hts, hK, hlk⟩ := id C
  replace hl : lv_has ls 4 [(0, .ref (q0 0)), (1, .int x1), (2, .int x2)] := hl
  rw [f_X4_slotState] at hf
  refine lv_aload_n (pc := 0) hx hb dX4_slotState_0 rfl (lv_at hl 0 rfl) ?_
  refine lv_iload_n (pc := 1) hx hb dX4_slotState_1 rfl (lv_at hl 1 rfl) ?_
  obtain ⟨z1, hc1, hf⟩ := xbR hf
  refine call_VRR (pc := 2) (As := [.int x1]) (rest := []) C h (k_X4_envelopeAt hn (q0 := q0) (q := q) σ0 x1 hc1) cw_X4_43 0 (sW_c0 ..) rfl (List.range 13) (sW_f ..) (by decide) rfl rfl hl.1 (Nat.le_of_ble_eq_true rfl) dX4_slotState_2 ⟨Nat.le_of_ble_eq_true rfl, Nat.le_of_ble_eq_true rfl⟩ rfl rfl ⟨Nat.le_of_ble_eq_true rfl, Nat.le_of_ble_eq_true rfl⟩ (fun H locs h => ?_)
  refine W.eq (g2 := F0 m 5 ls [.ref (q z1 0)]) rfl ?_
  have hk1 : z1 < n := envAt_lt hn hc1
  have h := SR_perm (foc_perm hk1 q0 q cA σ0 σ) h
  refine lv_astore_n (pc := 5) (lv' := [(3, .ref (q z1 0)), (0, .ref (q0 0)), (1, .int x1), (2, .int x2)]) hx hb dX4_slotState_5 rfl hl (by decide) rfl (fun ls hl => ?_)
  refine lv_aload_n (pc := 6) hx hb dX4_slotState_6 rfl (lv_at hl 0 rfl) ?_
  refine lv_iload_n (pc := 7) hx hb dX4_slotState_7 rfl (lv_at hl 3 rfl) ?_
  obtain ⟨z2, hc2, hf⟩ := xbR hf
  refine call_SRR (pc := 8) (As := [.ref (q z1 0), .int x2]) (rest := []) C h (k_X4_refuseNoSlot (q := q z1) (σ z1) x2 hc2) cw_X4_104 [13, 14, 15, 16, 17, 18, 19, 20, 21, 22, 23, 24, 25, 26, 27, 28, 29, 30, 31, 32] (fkW_e ..) (by decide) rfl rfl hl.1 (Nat.le_of_ble_eq_true rfl) dX4_slotState_8 ⟨Nat.le_of_ble_eq_true rfl, Nat.le_of_ble_eq_true rfl⟩ rfl rfl ⟨Nat.le_of_ble_eq_true rfl, Nat.le_of_ble_eq_true rfl⟩ (fun H locs h => ?_)
  refine W.eq (g2 := F0 m 11 ls []) rfl ?_
  refine lv_aload_n (pc := 11) hx hb dX4_slotState_11 rfl (lv_at hl 0 rfl) ?_
  refine lv_iload_n (pc := 12) hx hb dX4_slotState_12 rfl (lv_at hl 3 rfl) ?_
  refine call_VRR (pc := 13) (As := [.int x2]) (rest := []) C h (k_X0_stateOf (q := q z1) (σ z1) x2 rfl) cw_X4_173 13 (fkW_c13 ..) rfl [13, 14, 15, 16, 17, 18, 19, 20, 21, 22, 23, 24, 25, 26, 27, 28, 29, 30, 31, 32] (fkW_e ..) (by decide) rfl rfl hl.1 (Nat.le_of_ble_eq_true rfl) dX4_slotState_13 ⟨Nat.le_of_ble_eq_true rfl, Nat.le_of_ble_eq_true rfl⟩ rfl rfl ⟨Nat.le_of_ble_eq_true rfl, Nat.le_of_ble_eq_true rfl⟩ (fun H locs h => ?_)
  refine W.eq (g2 := F0 m 16 ls [.int (f_X0_stateOf (σ z1) x2)]) rfl ?_
  cases hf
  exact ret_iR (pc := 16) C hr h dX4_slotState_16
abbrev rmT_X4_slotState : Room := { frames := 7, cells := 1, slots := 6, locals := 104 }
set_option maxHeartbeats 400000 in
set_option maxRecDepth 100000 in
theorem kT_X4_slotState {n : Nat} (hn : n ≤ 6) {q0 : Nat → Nat} {q : Nat → Nat → Nat} {cA : Nat → ClassId} {D : va_G} (σ0 : (Nat → Nat → Int32)) (σ : (Nat → Nat → Nat → Int32)) (x1 x2 : Int32) {E : String} (hf : f_X4_slotState n σ0 σ x1 x2 = some (.inl E)) : CtT yX4_slotState cX4_slotState 4 (some .int) rmT_X4_slotState [.ref (q0 0), .int x1, .int x2] D cA (sW n q0 q cA σ0 σ) E := by
  refine ctT_of (by decide) (Nat.le_of_ble_eq_true rfl) ?_
  intro p l e s m below meth c ls hl0 C hex hX h hl
  have C : Cx p s m _ meth c cX4_slotState 4 RX4 D cA := C
  obtain ⟨hx, hb, hml, hown, hts, hK, hlk⟩ := id C
  replace hl : lv_has ls 4 [(0, .ref (q0 0)), (1, .int x1), (2, .int x2)] := hl
  rw [f_X4_slotState] at hf
  refine lv_aload_n (pc := 0) hx hb dX4_slotState_0 rfl (lv_at hl 0 rfl) ?_
  refine lv_iload_n (pc := 1) hx hb dX4_slotState_1 rfl (lv_at hl 1 rfl) ?_
  rcases xbT hf with hc0 | ⟨z1, hc1, hf⟩
  · exact call_TV (pc := 2) (As := [.int x1]) (rest := []) (Qc := QF) C hl0 hex hX h (kT_X4_envelopeAt hn (q0 := q0) (q := q) σ0 x1 hc0) cw_X4_43 0 (sW_c0 ..) rfl (List.range 13) (sW_f ..) (by decide) rfl rfl hl.1 (Nat.le_of_ble_eq_true rfl) dX4_slotState_2 ⟨Nat.le_of_ble_eq_true rfl, Nat.le_of_ble_eq_true rfl⟩ rfl rfl ⟨Nat.le_of_ble_eq_true rfl, Nat.le_of_ble_eq_true rfl⟩
  · refine call_VRR (pc := 2) (As := [.int x1]) (rest := []) C h (k_X4_envelopeAt hn (q0 := q0) (q := q) σ0 x1 hc1) cw_X4_43 0 (sW_c0 ..) rfl (List.range 13) (sW_f ..) (by decide) rfl rfl hl.1 (Nat.le_of_ble_eq_true rfl) dX4_slotState_2 ⟨Nat.le_of_ble_eq_true rfl, Nat.le_of_ble_eq_true rfl⟩ rfl rfl ⟨Nat.le_of_ble_eq_true rfl, Nat.le_of_ble_eq_true rfl⟩ (fun H locs h => ?_)
    refine W.eq (g2 := F0 m 5 ls [.ref (q z1 0)]) rfl ?_
    have hk1 : z1 < n := envAt_lt hn hc1
    have h := SR_perm (foc_perm hk1 q0 q cA σ0 σ) h
    refine lv_astore_n (pc := 5) (lv' := [(3, .ref (q z1 0)), (0, .ref (q0 0)), (1, .int x1), (2, .int x2)]) hx hb dX4_slotState_5 rfl hl (by decide) rfl (fun ls hl => ?_)
    refine lv_aload_n (pc := 6) hx hb dX4_slotState_6 rfl (lv_at hl 0 rfl) ?_
    refine lv_iload_n (pc := 7) hx hb dX4_slotState_7 rfl (lv_at hl 3 rfl) ?_
    rcases xbT hf with hc0 | ⟨z2, hc2, hf⟩
    · exact call_TS (pc := 8) (As := [.ref (q z1 0), .int x2]) (rest := []) (Qc := QF) C hl0 hex hX h (kT_X4_refuseNoSlot (q := q z1) (σ z1) x2 hc0) cw_X4_104 [13, 14, 15, 16, 17, 18, 19, 20, 21, 22, 23, 24, 25, 26, 27, 28, 29, 30, 31, 32] (fkW_e ..) (by decide) rfl rfl hl.1 (Nat.le_of_ble_eq_true rfl) dX4_slotState_8 ⟨Nat.le_of_ble_eq_true rfl, Nat.le_of_ble_eq_true rfl⟩ rfl rfl ⟨Nat.le_of_ble_eq_true rfl, Nat.le_of_ble_eq_true rfl⟩
    · refine call_SRR (pc := 8) (As := [.ref (q z1 0), .int x2]) (rest := []) C h (k_X4_refuseNoSlot (q := q z1) (σ z1) x2 hc2) cw_X4_104 [13, 14, 15, 16, 17, 18, 19, 20, 21, 22, 23, 24, 25, 26, 27, 28, 29, 30, 31, 32] (fkW_e ..) (by decide) rfl rfl hl.1 (Nat.le_of_ble_eq_true rfl) dX4_slotState_8 ⟨Nat.le_of_ble_eq_true rfl, Nat.le_of_ble_eq_true rfl⟩ rfl rfl ⟨Nat.le_of_ble_eq_true rfl, Nat.le_of_ble_eq_true rfl⟩ (fun H locs h => ?_)
      refine W.eq (g2 := F0 m 11 ls []) rfl ?_
      refine lv_aload_n (pc := 11) hx hb dX4_slotState_11 rfl (lv_at hl 0 rfl) ?_
      refine lv_iload_n (pc := 12) hx hb dX4_slotState_12 rfl (lv_at hl 3 rfl) ?_
      refine call_VRR (pc := 13) (As := [.int x2]) (rest := []) C h (k_X0_stateOf (q := q z1) (σ z1) x2 rfl) cw_X4_173 13 (fkW_c13 ..) rfl [13, 14, 15, 16, 17, 18, 19, 20, 21, 22, 23, 24, 25, 26, 27, 28, 29, 30, 31, 32] (fkW_e ..) (by decide) rfl rfl hl.1 (Nat.le_of_ble_eq_true rfl) dX4_slotState_13 ⟨Nat.le_of_ble_eq_true rfl, Nat.le_of_ble_eq_true rfl⟩ rfl rfl ⟨Nat.le_of_ble_eq_true rfl, Nat.le_of_ble_eq_true rfl⟩ (fun H locs h => ?_)
      refine W.eq (g2 := F0 m 16 ls [.int (f_X0_stateOf (σ z1) x2)]) rfl ?_
      cases hf
abbrev rm_X4_missing : Room := { frames := 1, cells := 0, slots := 0, locals := 22 }
def f_X4_missing (n : Nat) (σ0 : (Nat → Nat → Int32)) (σ : (Nat → Nat → Nat → Int32)) (x1 x2 : Int32) : Option (String ⊕ (Int32)) := (xb (f_X4_envelopeAt n x1) fun z1 => (xb (f_X4_refuseNoSlot (σ z1) x2) fun z2 => (some (.inr (f_J6_bitCount_0f7a4 ((rg 8 ((σ z1) 1) x2) &&& (((σ z1) 15 0) ^^^ (-1 : Int32))))))))
set_option maxHeartbeats 400000 in
set_option maxRecDepth 100000 in
theorem k_X4_missing {n : Nat} (hn : n ≤ 6) {q0 : Nat → Nat} {q : Nat → Nat → Nat} {cA : Nat → ClassId} {D : va_G} (σ0 : (Nat → Nat → Int32)) (σ : (Nat → Nat → Nat → Int32)) (x1 x2 : Int32) {z : Int32} (hf : f_X4_missing n σ0 σ x1 x2 = some (.inr z)) : CtR yX4_missing cX4_missing 4 (some .int) rm_X4_missing [.ref (q0 0), .int x1, .int x2] D cA (sW n q0 q cA σ0 σ) (some (.int z)) 0 0 := by
  refine ctR_of (by decide) (Nat.le_of_ble_eq_true rfl) ?_
  intro p l e s m below meth c ls C hr hnm h hl
  have C : Cx p s m _ meth c cX4_missing 4 RX4 D cA := C
  obtain ⟨hx, hb, hml, hown, hts, hK, hlk⟩ := id C
  replace hl : lv_has ls 4 [(0, .ref (q0 0)), (1, .int x1), (2, .int x2)] := hl
  rw [f_X4_missing] at hf
  refine lv_aload_n (pc := 0) hx hb dX4_missing_0 rfl (lv_at hl 0 rfl) ?_
  refine lv_iload_n (pc := 1) hx hb dX4_missing_1 rfl (lv_at hl 1 rfl) ?_
  obtain ⟨z1, hc1, hf⟩ := xbR hf
  refine call_VRR (pc := 2) (As := [.int x1]) (rest := []) C h (k_X4_envelopeAt hn (q0 := q0) (q := q) σ0 x1 hc1) cw_X4_43 0 (sW_c0 ..) rfl (List.range 13) (sW_f ..) (by decide) rfl rfl hl.1 (Nat.le_of_ble_eq_true rfl) dX4_missing_2 ⟨Nat.le_of_ble_eq_true rfl, Nat.le_of_ble_eq_true rfl⟩ rfl rfl ⟨Nat.le_of_ble_eq_true rfl, Nat.le_of_ble_eq_true rfl⟩ (fun H locs h => ?_)
  refine W.eq (g2 := F0 m 5 ls [.ref (q z1 0)]) rfl ?_
  have hk1 : z1 < n := envAt_lt hn hc1
  have h := SR_perm (foc_perm hk1 q0 q cA σ0 σ) h
  refine lv_astore_n (pc := 5) (lv' := [(3, .ref (q z1 0)), (0, .ref (q0 0)), (1, .int x1), (2, .int x2)]) hx hb dX4_missing_5 rfl hl (by decide) rfl (fun ls hl => ?_)
  refine lv_aload_n (pc := 6) hx hb dX4_missing_6 rfl (lv_at hl 0 rfl) ?_
  refine lv_iload_n (pc := 7) hx hb dX4_missing_7 rfl (lv_at hl 3 rfl) ?_
  obtain ⟨z2, hc2, hf⟩ := xbR hf
  refine call_SRR (pc := 8) (As := [.ref (q z1 0), .int x2]) (rest := []) C h (k_X4_refuseNoSlot (q := q z1) (σ z1) x2 hc2) cw_X4_104 [13, 14, 15, 16, 17, 18, 19, 20, 21, 22, 23, 24, 25, 26, 27, 28, 29, 30, 31, 32] (fkW_e ..) (by decide) rfl rfl hl.1 (Nat.le_of_ble_eq_true rfl) dX4_missing_8 ⟨Nat.le_of_ble_eq_true rfl, Nat.le_of_ble_eq_true rfl⟩ rfl rfl ⟨Nat.le_of_ble_eq_true rfl, Nat.le_of_ble_eq_true rfl⟩ (fun H locs h => ?_)
  refine W.eq (g2 := F0 m 11 ls []) rfl ?_
  refine lv_aload_n (pc := 11) hx hb dX4_missing_11 rfl (lv_at hl 0 rfl) ?_
  refine g_get (pc := 12) (v := .ref (q z1 2)) C h.1 13 (fkW_c13 ..) fl_X4_176 rfl dX4_missing_12 ?_
  refine lv_iload_n (pc := 15) hx hb dX4_missing_15 rfl (lv_at hl 3 rfl) ?_
  refine call_rgetR (pc := 16) (rest := []) C h (by decide) (by decide) (fkW_c15 ..) (fkW_c20 ..) cw_X4_121 hl.1 (Nat.le_of_ble_eq_true rfl) dX4_missing_16 ⟨Nat.le_of_ble_eq_true rfl, Nat.le_of_ble_eq_true rfl⟩ rfl rfl ⟨Nat.le_of_ble_eq_true rfl, Nat.le_of_ble_eq_true rfl⟩ (fun H locs h => ?_)
  refine lv_aload_n (pc := 19) hx hb dX4_missing_19 rfl (lv_at hl 0 rfl) ?_
  refine g_get (pc := 20) (v := .int ((σ z1) 15 0)) C h.1 13 (fkW_c13 ..) fl_X4_179 rfl dX4_missing_20 ?_
  refine lv_iconst (pc := 23) (v := -1) hx hb dX4_missing_23 (by decide) ?_
  refine lv_ixor (pc := 24) hx hb dX4_missing_24 ?_
  refine lv_iand (pc := 25) hx hb dX4_missing_25 ?_
  refine call_SRR (pc := 26) (As := [.int ((rg 8 ((σ z1) 1) x2) &&& (((σ z1) 15 0) ^^^ (-1 : Int32)))]) (rest := []) C h (k_J6_bitCount_0f7a4 ((rg 8 ((σ z1) 1) x2) &&& (((σ z1) 15 0) ^^^ (-1 : Int32))) rfl) cw_X4_74 [] rfl (by decide) rfl rfl hl.1 (Nat.le_of_ble_eq_true rfl) dX4_missing_26 ⟨Nat.le_of_ble_eq_true rfl, Nat.le_of_ble_eq_true rfl⟩ rfl rfl ⟨Nat.le_of_ble_eq_true rfl, Nat.le_of_ble_eq_true rfl⟩ (fun H locs h => ?_)
  refine W.eq (g2 := F0 m 29 ls [.int (f_J6_bitCount_0f7a4 ((rg 8 ((σ z1) 1) x2) &&& (((σ z1) 15 0) ^^^ (-1 : Int32))))]) rfl ?_
  cases hf
  exact ret_iR (pc := 29) C hr h dX4_missing_29
abbrev rmT_X4_missing : Room := { frames := 7, cells := 1, slots := 6, locals := 104 }
set_option maxHeartbeats 400000 in
set_option maxRecDepth 100000 in
theorem kT_X4_missing {n : Nat} (hn : n ≤ 6) {q0 : Nat → Nat} {q : Nat → Nat → Nat} {cA : Nat → ClassId} {D : va_G} (σ0 : (Nat → Nat → Int32)) (σ : (Nat → Nat → Nat → Int32)) (x1 x2 : Int32) {E : String} (hf : f_X4_missing n σ0 σ x1 x2 = some (.inl E)) : CtT yX4_missing cX4_missing 4 (some .int) rmT_X4_missing [.ref (q0 0), .int x1, .int x2] D cA (sW n q0 q cA σ0 σ) E := by
  refine ctT_of (by decide) (Nat.le_of_ble_eq_true rfl) ?_
  intro p l e s m below meth c ls hl0 C hex hX h hl
  have C : Cx p s m _ meth c cX4_missing 4 RX4 D cA := C
  obtain ⟨hx, hb, hml, hown, hts, hK, hlk⟩ := id C
  replace hl : lv_has ls 4 [(0, .ref (q0 0)), (1, .int x1), (2, .int x2)] := hl
  rw [f_X4_missing] at hf
  refine lv_aload_n (pc := 0) hx hb dX4_missing_0 rfl (lv_at hl 0 rfl) ?_
  refine lv_iload_n (pc := 1) hx hb dX4_missing_1 rfl (lv_at hl 1 rfl) ?_
  rcases xbT hf with hc0 | ⟨z1, hc1, hf⟩
  · exact call_TV (pc := 2) (As := [.int x1]) (rest := []) (Qc := QF) C hl0 hex hX h (kT_X4_envelopeAt hn (q0 := q0) (q := q) σ0 x1 hc0) cw_X4_43 0 (sW_c0 ..) rfl (List.range 13) (sW_f ..) (by decide) rfl rfl hl.1 (Nat.le_of_ble_eq_true rfl) dX4_missing_2 ⟨Nat.le_of_ble_eq_true rfl, Nat.le_of_ble_eq_true rfl⟩ rfl rfl ⟨Nat.le_of_ble_eq_true rfl, Nat.le_of_ble_eq_true rfl⟩
  · refine call_VRR (pc := 2) (As := [.int x1]) (rest := []) C h (k_X4_envelopeAt hn (q0 := q0) (q := q) σ0 x1 hc1) cw_X4_43 0 (sW_c0 ..) rfl (List.range 13) (sW_f ..) (by decide) rfl rfl hl.1 (Nat.le_of_ble_eq_true rfl) dX4_missing_2 ⟨Nat.le_of_ble_eq_true rfl, Nat.le_of_ble_eq_true rfl⟩ rfl rfl ⟨Nat.le_of_ble_eq_true rfl, Nat.le_of_ble_eq_true rfl⟩ (fun H locs h => ?_)
    refine W.eq (g2 := F0 m 5 ls [.ref (q z1 0)]) rfl ?_
    have hk1 : z1 < n := envAt_lt hn hc1
    have h := SR_perm (foc_perm hk1 q0 q cA σ0 σ) h
    refine lv_astore_n (pc := 5) (lv' := [(3, .ref (q z1 0)), (0, .ref (q0 0)), (1, .int x1), (2, .int x2)]) hx hb dX4_missing_5 rfl hl (by decide) rfl (fun ls hl => ?_)
    refine lv_aload_n (pc := 6) hx hb dX4_missing_6 rfl (lv_at hl 0 rfl) ?_
    refine lv_iload_n (pc := 7) hx hb dX4_missing_7 rfl (lv_at hl 3 rfl) ?_
    rcases xbT hf with hc0 | ⟨z2, hc2, hf⟩
    · exact call_TS (pc := 8) (As := [.ref (q z1 0), .int x2]) (rest := []) (Qc := QF) C hl0 hex hX h (kT_X4_refuseNoSlot (q := q z1) (σ z1) x2 hc0) cw_X4_104 [13, 14, 15, 16, 17, 18, 19, 20, 21, 22, 23, 24, 25, 26, 27, 28, 29, 30, 31, 32] (fkW_e ..) (by decide) rfl rfl hl.1 (Nat.le_of_ble_eq_true rfl) dX4_missing_8 ⟨Nat.le_of_ble_eq_true rfl, Nat.le_of_ble_eq_true rfl⟩ rfl rfl ⟨Nat.le_of_ble_eq_true rfl, Nat.le_of_ble_eq_true rfl⟩
    · refine call_SRR (pc := 8) (As := [.ref (q z1 0), .int x2]) (rest := []) C h (k_X4_refuseNoSlot (q := q z1) (σ z1) x2 hc2) cw_X4_104 [13, 14, 15, 16, 17, 18, 19, 20, 21, 22, 23, 24, 25, 26, 27, 28, 29, 30, 31, 32] (fkW_e ..) (by decide) rfl rfl hl.1 (Nat.le_of_ble_eq_true rfl) dX4_missing_8 ⟨Nat.le_of_ble_eq_true rfl, Nat.le_of_ble_eq_true rfl⟩ rfl rfl ⟨Nat.le_of_ble_eq_true rfl, Nat.le_of_ble_eq_true rfl⟩ (fun H locs h => ?_)
      refine W.eq (g2 := F0 m 11 ls []) rfl ?_
      refine lv_aload_n (pc := 11) hx hb dX4_missing_11 rfl (lv_at hl 0 rfl) ?_
      refine g_get (pc := 12) (v := .ref (q z1 2)) C h.1 13 (fkW_c13 ..) fl_X4_176 rfl dX4_missing_12 ?_
      refine lv_iload_n (pc := 15) hx hb dX4_missing_15 rfl (lv_at hl 3 rfl) ?_
      refine call_rgetR (pc := 16) (rest := []) C h (by decide) (by decide) (fkW_c15 ..) (fkW_c20 ..) cw_X4_121 hl.1 (Nat.le_of_ble_eq_true rfl) dX4_missing_16 ⟨Nat.le_of_ble_eq_true rfl, Nat.le_of_ble_eq_true rfl⟩ rfl rfl ⟨Nat.le_of_ble_eq_true rfl, Nat.le_of_ble_eq_true rfl⟩ (fun H locs h => ?_)
      refine lv_aload_n (pc := 19) hx hb dX4_missing_19 rfl (lv_at hl 0 rfl) ?_
      refine g_get (pc := 20) (v := .int ((σ z1) 15 0)) C h.1 13 (fkW_c13 ..) fl_X4_179 rfl dX4_missing_20 ?_
      refine lv_iconst (pc := 23) (v := -1) hx hb dX4_missing_23 (by decide) ?_
      refine lv_ixor (pc := 24) hx hb dX4_missing_24 ?_
      refine lv_iand (pc := 25) hx hb dX4_missing_25 ?_
      refine call_SRR (pc := 26) (As := [.int ((rg 8 ((σ z1) 1) x2) &&& (((σ z1) 15 0) ^^^ (-1 : Int32)))]) (rest := []) C h (k_J6_bitCount_0f7a4 ((rg 8 ((σ z1) 1) x2) &&& (((σ z1) 15 0) ^^^ (-1 : Int32))) rfl) cw_X4_74 [] rfl (by decide) rfl rfl hl.1 (Nat.le_of_ble_eq_true rfl) dX4_missing_26 ⟨Nat.le_of_ble_eq_true rfl, Nat.le_of_ble_eq_true rfl⟩ rfl rfl ⟨Nat.le_of_ble_eq_true rfl, Nat.le_of_ble_eq_true rfl⟩ (fun H locs h => ?_)
      refine W.eq (g2 := F0 m 29 ls [.int (f_J6_bitCount_0f7a4 ((rg 8 ((σ z1) 1) x2) &&& (((σ z1) 15 0) ^^^ (-1 : Int32))))]) rfl ?_
      cases hf
abbrev rm_X4_ahead : Room := { frames := 2, cells := 0, slots := 0, locals := 44 }
def f_X4_ahead (n : Nat) (σ0 : (Nat → Nat → Int32)) (σ : (Nat → Nat → Nat → Int32)) (x1 x2 : Int32) : Option (String ⊕ (Int32)) := (xb (f_X4_envelopeAt n x1) fun z1 => (xb (f_X4_refuseNoSlot (σ z1) x2) fun z2 => ((f_X0_aheadOf (σ z1) x2).bind fun z3 => (some (.inr (f_J6_bitCount_0f7a4 z3))))))
set_option maxHeartbeats 400000 in
set_option maxRecDepth 100000 in
theorem k_X4_ahead {n : Nat} (hn : n ≤ 6) {q0 : Nat → Nat} {q : Nat → Nat → Nat} {cA : Nat → ClassId} {D : va_G} (σ0 : (Nat → Nat → Int32)) (σ : (Nat → Nat → Nat → Int32)) (x1 x2 : Int32) {z : Int32} (hf : f_X4_ahead n σ0 σ x1 x2 = some (.inr z)) : CtR yX4_ahead cX4_ahead 4 (some .int) rm_X4_ahead [.ref (q0 0), .int x1, .int x2] D cA (sW n q0 q cA σ0 σ) (some (.int z)) 0 0 := by
  refine ctR_of (by decide) (Nat.le_of_ble_eq_true rfl) ?_
  intro p l e s m below meth c ls C hr hnm h hl
  have C : Cx p s m _ meth c cX4_ahead 4 RX4 D cA := C
  obtain ⟨hx, hb, hml, hown, hts, hK, hlk⟩ := id C
  replace hl : lv_has ls 4 [(0, .ref (q0 0)), (1, .int x1), (2, .int x2)] := hl
  rw [f_X4_ahead] at hf
  refine lv_aload_n (pc := 0) hx hb dX4_ahead_0 rfl (lv_at hl 0 rfl) ?_
  refine lv_iload_n (pc := 1) hx hb dX4_ahead_1 rfl (lv_at hl 1 rfl) ?_
  obtain ⟨z1, hc1, hf⟩ := xbR hf
  refine call_VRR (pc := 2) (As := [.int x1]) (rest := []) C h (k_X4_envelopeAt hn (q0 := q0) (q := q) σ0 x1 hc1) cw_X4_43 0 (sW_c0 ..) rfl (List.range 13) (sW_f ..) (by decide) rfl rfl hl.1 (Nat.le_of_ble_eq_true rfl) dX4_ahead_2 ⟨Nat.le_of_ble_eq_true rfl, Nat.le_of_ble_eq_true rfl⟩ rfl rfl ⟨Nat.le_of_ble_eq_true rfl, Nat.le_of_ble_eq_true rfl⟩ (fun H locs h => ?_)
  refine W.eq (g2 := F0 m 5 ls [.ref (q z1 0)]) rfl ?_
  have hk1 : z1 < n := envAt_lt hn hc1
  have h := SR_perm (foc_perm hk1 q0 q cA σ0 σ) h
  refine lv_astore_n (pc := 5) (lv' := [(3, .ref (q z1 0)), (0, .ref (q0 0)), (1, .int x1), (2, .int x2)]) hx hb dX4_ahead_5 rfl hl (by decide) rfl (fun ls hl => ?_)
  refine lv_aload_n (pc := 6) hx hb dX4_ahead_6 rfl (lv_at hl 0 rfl) ?_
  refine lv_iload_n (pc := 7) hx hb dX4_ahead_7 rfl (lv_at hl 3 rfl) ?_
  obtain ⟨z2, hc2, hf⟩ := xbR hf
  refine call_SRR (pc := 8) (As := [.ref (q z1 0), .int x2]) (rest := []) C h (k_X4_refuseNoSlot (q := q z1) (σ z1) x2 hc2) cw_X4_104 [13, 14, 15, 16, 17, 18, 19, 20, 21, 22, 23, 24, 25, 26, 27, 28, 29, 30, 31, 32] (fkW_e ..) (by decide) rfl rfl hl.1 (Nat.le_of_ble_eq_true rfl) dX4_ahead_8 ⟨Nat.le_of_ble_eq_true rfl, Nat.le_of_ble_eq_true rfl⟩ rfl rfl ⟨Nat.le_of_ble_eq_true rfl, Nat.le_of_ble_eq_true rfl⟩ (fun H locs h => ?_)
  refine W.eq (g2 := F0 m 11 ls []) rfl ?_
  refine lv_aload_n (pc := 11) hx hb dX4_ahead_11 rfl (lv_at hl 0 rfl) ?_
  refine lv_iload_n (pc := 12) hx hb dX4_ahead_12 rfl (lv_at hl 3 rfl) ?_
  obtain ⟨z3, hc3, hf⟩ := bdS hf
  refine call_VRR (pc := 13) (As := [.int x2]) (rest := []) C h (k_X0_aheadOf (q := q z1) (σ z1) x2 hc3) cw_X4_182 13 (fkW_c13 ..) rfl [13, 14, 15, 16, 17, 18, 19, 20, 21, 22, 23, 24, 25, 26, 27, 28, 29, 30, 31, 32] (fkW_e ..) (by decide) rfl rfl hl.1 (Nat.le_of_ble_eq_true rfl) dX4_ahead_13 ⟨Nat.le_of_ble_eq_true rfl, Nat.le_of_ble_eq_true rfl⟩ rfl rfl ⟨Nat.le_of_ble_eq_true rfl, Nat.le_of_ble_eq_true rfl⟩ (fun H locs h => ?_)
  refine W.eq (g2 := F0 m 16 ls [.int z3]) rfl ?_
  refine call_SRR (pc := 16) (As := [.int z3]) (rest := []) C h (k_J6_bitCount_0f7a4 z3 rfl) cw_X4_74 [] rfl (by decide) rfl rfl hl.1 (Nat.le_of_ble_eq_true rfl) dX4_ahead_16 ⟨Nat.le_of_ble_eq_true rfl, Nat.le_of_ble_eq_true rfl⟩ rfl rfl ⟨Nat.le_of_ble_eq_true rfl, Nat.le_of_ble_eq_true rfl⟩ (fun H locs h => ?_)
  refine W.eq (g2 := F0 m 19 ls [.int (f_J6_bitCount_0f7a4 z3)]) rfl ?_
  cases hf
  exact ret_iR (pc := 19) C hr h dX4_ahead_19
abbrev rmT_X4_ahead : Room := { frames := 7, cells := 1, slots := 6, locals := 104 }
set_option maxHeartbeats 400000 in
set_option maxRecDepth 100000 in
theorem kT_X4_ahead {n : Nat} (hn : n ≤ 6) {q0 : Nat → Nat} {q : Nat → Nat → Nat} {cA : Nat → ClassId} {D : va_G} (σ0 : (Nat → Nat → Int32)) (σ : (Nat → Nat → Nat → Int32)) (x1 x2 : Int32) {E : String} (hf : f_X4_ahead n σ0 σ x1 x2 = some (.inl E)) : CtT yX4_ahead cX4_ahead 4 (some .int) rmT_X4_ahead [.ref (q0 0), .int x1, .int x2] D cA (sW n q0 q cA σ0 σ) E := by
  refine ctT_of (by decide) (Nat.le_of_ble_eq_true rfl) ?_
  intro p l e s m below meth c ls hl0 C hex hX h hl
  have C : Cx p s m _ meth c cX4_ahead 4 RX4 D cA := C
  obtain ⟨hx, hb, hml, hown, hts, hK, hlk⟩ := id C
  replace hl : lv_has ls 4 [(0, .ref (q0 0)), (1, .int x1), (2, .int x2)] := hl
  rw [f_X4_ahead] at hf
  refine lv_aload_n (pc := 0) hx hb dX4_ahead_0 rfl (lv_at hl 0 rfl) ?_
  refine lv_iload_n (pc := 1) hx hb dX4_ahead_1 rfl (lv_at hl 1 rfl) ?_
  rcases xbT hf with hc0 | ⟨z1, hc1, hf⟩
  · exact call_TV (pc := 2) (As := [.int x1]) (rest := []) (Qc := QF) C hl0 hex hX h (kT_X4_envelopeAt hn (q0 := q0) (q := q) σ0 x1 hc0) cw_X4_43 0 (sW_c0 ..) rfl (List.range 13) (sW_f ..) (by decide) rfl rfl hl.1 (Nat.le_of_ble_eq_true rfl) dX4_ahead_2 ⟨Nat.le_of_ble_eq_true rfl, Nat.le_of_ble_eq_true rfl⟩ rfl rfl ⟨Nat.le_of_ble_eq_true rfl, Nat.le_of_ble_eq_true rfl⟩
  · refine call_VRR (pc := 2) (As := [.int x1]) (rest := []) C h (k_X4_envelopeAt hn (q0 := q0) (q := q) σ0 x1 hc1) cw_X4_43 0 (sW_c0 ..) rfl (List.range 13) (sW_f ..) (by decide) rfl rfl hl.1 (Nat.le_of_ble_eq_true rfl) dX4_ahead_2 ⟨Nat.le_of_ble_eq_true rfl, Nat.le_of_ble_eq_true rfl⟩ rfl rfl ⟨Nat.le_of_ble_eq_true rfl, Nat.le_of_ble_eq_true rfl⟩ (fun H locs h => ?_)
    refine W.eq (g2 := F0 m 5 ls [.ref (q z1 0)]) rfl ?_
    have hk1 : z1 < n := envAt_lt hn hc1
    have h := SR_perm (foc_perm hk1 q0 q cA σ0 σ) h
    refine lv_astore_n (pc := 5) (lv' := [(3, .ref (q z1 0)), (0, .ref (q0 0)), (1, .int x1), (2, .int x2)]) hx hb dX4_ahead_5 rfl hl (by decide) rfl (fun ls hl => ?_)
    refine lv_aload_n (pc := 6) hx hb dX4_ahead_6 rfl (lv_at hl 0 rfl) ?_
    refine lv_iload_n (pc := 7) hx hb dX4_ahead_7 rfl (lv_at hl 3 rfl) ?_
    rcases xbT hf with hc0 | ⟨z2, hc2, hf⟩
    · exact call_TS (pc := 8) (As := [.ref (q z1 0), .int x2]) (rest := []) (Qc := QF) C hl0 hex hX h (kT_X4_refuseNoSlot (q := q z1) (σ z1) x2 hc0) cw_X4_104 [13, 14, 15, 16, 17, 18, 19, 20, 21, 22, 23, 24, 25, 26, 27, 28, 29, 30, 31, 32] (fkW_e ..) (by decide) rfl rfl hl.1 (Nat.le_of_ble_eq_true rfl) dX4_ahead_8 ⟨Nat.le_of_ble_eq_true rfl, Nat.le_of_ble_eq_true rfl⟩ rfl rfl ⟨Nat.le_of_ble_eq_true rfl, Nat.le_of_ble_eq_true rfl⟩
    · refine call_SRR (pc := 8) (As := [.ref (q z1 0), .int x2]) (rest := []) C h (k_X4_refuseNoSlot (q := q z1) (σ z1) x2 hc2) cw_X4_104 [13, 14, 15, 16, 17, 18, 19, 20, 21, 22, 23, 24, 25, 26, 27, 28, 29, 30, 31, 32] (fkW_e ..) (by decide) rfl rfl hl.1 (Nat.le_of_ble_eq_true rfl) dX4_ahead_8 ⟨Nat.le_of_ble_eq_true rfl, Nat.le_of_ble_eq_true rfl⟩ rfl rfl ⟨Nat.le_of_ble_eq_true rfl, Nat.le_of_ble_eq_true rfl⟩ (fun H locs h => ?_)
      refine W.eq (g2 := F0 m 11 ls []) rfl ?_
      refine lv_aload_n (pc := 11) hx hb dX4_ahead_11 rfl (lv_at hl 0 rfl) ?_
      refine lv_iload_n (pc := 12) hx hb dX4_ahead_12 rfl (lv_at hl 3 rfl) ?_
      obtain ⟨z3, hc3, hf⟩ := bdS hf
      refine call_VRR (pc := 13) (As := [.int x2]) (rest := []) C h (k_X0_aheadOf (q := q z1) (σ z1) x2 hc3) cw_X4_182 13 (fkW_c13 ..) rfl [13, 14, 15, 16, 17, 18, 19, 20, 21, 22, 23, 24, 25, 26, 27, 28, 29, 30, 31, 32] (fkW_e ..) (by decide) rfl rfl hl.1 (Nat.le_of_ble_eq_true rfl) dX4_ahead_13 ⟨Nat.le_of_ble_eq_true rfl, Nat.le_of_ble_eq_true rfl⟩ rfl rfl ⟨Nat.le_of_ble_eq_true rfl, Nat.le_of_ble_eq_true rfl⟩ (fun H locs h => ?_)
      refine W.eq (g2 := F0 m 16 ls [.int z3]) rfl ?_
      refine call_SRR (pc := 16) (As := [.int z3]) (rest := []) C h (k_J6_bitCount_0f7a4 z3 rfl) cw_X4_74 [] rfl (by decide) rfl rfl hl.1 (Nat.le_of_ble_eq_true rfl) dX4_ahead_16 ⟨Nat.le_of_ble_eq_true rfl, Nat.le_of_ble_eq_true rfl⟩ rfl rfl ⟨Nat.le_of_ble_eq_true rfl, Nat.le_of_ble_eq_true rfl⟩ (fun H locs h => ?_)
      refine W.eq (g2 := F0 m 19 ls [.int (f_J6_bitCount_0f7a4 z3)]) rfl ?_
      cases hf
abbrev rm_X4_roundOf : Room := { frames := 1, cells := 0, slots := 0, locals := 22 }
def f_X4_roundOf (n : Nat) (σ0 : (Nat → Nat → Int32)) (σ : (Nat → Nat → Nat → Int32)) (x1 x2 : Int32) : Option (String ⊕ (Int32)) := (xb (f_X4_envelopeAt n x1) fun z1 => (xb (f_X4_refuseNoSlot (σ z1) x2) fun z2 => (some (.inr (rg 8 ((σ z1) 2) x2)))))
set_option maxHeartbeats 400000 in
set_option maxRecDepth 100000 in
theorem k_X4_roundOf {n : Nat} (hn : n ≤ 6) {q0 : Nat → Nat} {q : Nat → Nat → Nat} {cA : Nat → ClassId} {D : va_G} (σ0 : (Nat → Nat → Int32)) (σ : (Nat → Nat → Nat → Int32)) (x1 x2 : Int32) {z : Int32} (hf : f_X4_roundOf n σ0 σ x1 x2 = some (.inr z)) : CtR yX4_roundOf cX4_roundOf 4 (some .int) rm_X4_roundOf [.ref (q0 0), .int x1, .int x2] D cA (sW n q0 q cA σ0 σ) (some (.int z)) 0 0 := by
  refine ctR_of (by decide) (Nat.le_of_ble_eq_true rfl) ?_
  intro p l e s m below meth c ls C hr hnm h hl
  have C : Cx p s m _ meth c cX4_roundOf 4 RX4 D cA := C
  obtain ⟨hx, hb, hml, hown, hts, hK, hlk⟩ := id C
  replace hl : lv_has ls 4 [(0, .ref (q0 0)), (1, .int x1), (2, .int x2)] := hl
  rw [f_X4_roundOf] at hf
  refine lv_aload_n (pc := 0) hx hb dX4_roundOf_0 rfl (lv_at hl 0 rfl) ?_
  refine lv_iload_n (pc := 1) hx hb dX4_roundOf_1 rfl (lv_at hl 1 rfl) ?_
  obtain ⟨z1, hc1, hf⟩ := xbR hf
  refine call_VRR (pc := 2) (As := [.int x1]) (rest := []) C h (k_X4_envelopeAt hn (q0 := q0) (q := q) σ0 x1 hc1) cw_X4_43 0 (sW_c0 ..) rfl (List.range 13) (sW_f ..) (by decide) rfl rfl hl.1 (Nat.le_of_ble_eq_true rfl) dX4_roundOf_2 ⟨Nat.le_of_ble_eq_true rfl, Nat.le_of_ble_eq_true rfl⟩ rfl rfl ⟨Nat.le_of_ble_eq_true rfl, Nat.le_of_ble_eq_true rfl⟩ (fun H locs h => ?_)
  refine W.eq (g2 := F0 m 5 ls [.ref (q z1 0)]) rfl ?_
  have hk1 : z1 < n := envAt_lt hn hc1
  have h := SR_perm (foc_perm hk1 q0 q cA σ0 σ) h
  refine lv_astore_n (pc := 5) (lv' := [(3, .ref (q z1 0)), (0, .ref (q0 0)), (1, .int x1), (2, .int x2)]) hx hb dX4_roundOf_5 rfl hl (by decide) rfl (fun ls hl => ?_)
  refine lv_aload_n (pc := 6) hx hb dX4_roundOf_6 rfl (lv_at hl 0 rfl) ?_
  refine lv_iload_n (pc := 7) hx hb dX4_roundOf_7 rfl (lv_at hl 3 rfl) ?_
  obtain ⟨z2, hc2, hf⟩ := xbR hf
  refine call_SRR (pc := 8) (As := [.ref (q z1 0), .int x2]) (rest := []) C h (k_X4_refuseNoSlot (q := q z1) (σ z1) x2 hc2) cw_X4_104 [13, 14, 15, 16, 17, 18, 19, 20, 21, 22, 23, 24, 25, 26, 27, 28, 29, 30, 31, 32] (fkW_e ..) (by decide) rfl rfl hl.1 (Nat.le_of_ble_eq_true rfl) dX4_roundOf_8 ⟨Nat.le_of_ble_eq_true rfl, Nat.le_of_ble_eq_true rfl⟩ rfl rfl ⟨Nat.le_of_ble_eq_true rfl, Nat.le_of_ble_eq_true rfl⟩ (fun H locs h => ?_)
  refine W.eq (g2 := F0 m 11 ls []) rfl ?_
  refine lv_aload_n (pc := 11) hx hb dX4_roundOf_11 rfl (lv_at hl 0 rfl) ?_
  refine g_get (pc := 12) (v := .ref (q z1 3)) C h.1 13 (fkW_c13 ..) fl_X4_185 rfl dX4_roundOf_12 ?_
  refine lv_iload_n (pc := 15) hx hb dX4_roundOf_15 rfl (lv_at hl 3 rfl) ?_
  refine call_rgetR (pc := 16) (rest := []) C h (by decide) (by decide) (fkW_c16 ..) (fkW_c21 ..) cw_X4_121 hl.1 (Nat.le_of_ble_eq_true rfl) dX4_roundOf_16 ⟨Nat.le_of_ble_eq_true rfl, Nat.le_of_ble_eq_true rfl⟩ rfl rfl ⟨Nat.le_of_ble_eq_true rfl, Nat.le_of_ble_eq_true rfl⟩ (fun H locs h => ?_)
  cases hf
  exact ret_iR (pc := 19) C hr h dX4_roundOf_19
abbrev rmT_X4_roundOf : Room := { frames := 7, cells := 1, slots := 6, locals := 104 }
set_option maxHeartbeats 400000 in
set_option maxRecDepth 100000 in
theorem kT_X4_roundOf {n : Nat} (hn : n ≤ 6) {q0 : Nat → Nat} {q : Nat → Nat → Nat} {cA : Nat → ClassId} {D : va_G} (σ0 : (Nat → Nat → Int32)) (σ : (Nat → Nat → Nat → Int32)) (x1 x2 : Int32) {E : String} (hf : f_X4_roundOf n σ0 σ x1 x2 = some (.inl E)) : CtT yX4_roundOf cX4_roundOf 4 (some .int) rmT_X4_roundOf [.ref (q0 0), .int x1, .int x2] D cA (sW n q0 q cA σ0 σ) E := by
  refine ctT_of (by decide) (Nat.le_of_ble_eq_true rfl) ?_
  intro p l e s m below meth c ls hl0 C hex hX h hl
  have C : Cx p s m _ meth c cX4_roundOf 4 RX4 D cA := C
  obtain ⟨hx, hb, hml, hown, hts, hK, hlk⟩ := id C
  replace hl : lv_has ls 4 [(0, .ref (q0 0)), (1, .int x1), (2, .int x2)] := hl
  rw [f_X4_roundOf] at hf
  refine lv_aload_n (pc := 0) hx hb dX4_roundOf_0 rfl (lv_at hl 0 rfl) ?_
  refine lv_iload_n (pc := 1) hx hb dX4_roundOf_1 rfl (lv_at hl 1 rfl) ?_
  rcases xbT hf with hc0 | ⟨z1, hc1, hf⟩
  · exact call_TV (pc := 2) (As := [.int x1]) (rest := []) (Qc := QF) C hl0 hex hX h (kT_X4_envelopeAt hn (q0 := q0) (q := q) σ0 x1 hc0) cw_X4_43 0 (sW_c0 ..) rfl (List.range 13) (sW_f ..) (by decide) rfl rfl hl.1 (Nat.le_of_ble_eq_true rfl) dX4_roundOf_2 ⟨Nat.le_of_ble_eq_true rfl, Nat.le_of_ble_eq_true rfl⟩ rfl rfl ⟨Nat.le_of_ble_eq_true rfl, Nat.le_of_ble_eq_true rfl⟩
  · refine call_VRR (pc := 2) (As := [.int x1]) (rest := []) C h (k_X4_envelopeAt hn (q0 := q0) (q := q) σ0 x1 hc1) cw_X4_43 0 (sW_c0 ..) rfl (List.range 13) (sW_f ..) (by decide) rfl rfl hl.1 (Nat.le_of_ble_eq_true rfl) dX4_roundOf_2 ⟨Nat.le_of_ble_eq_true rfl, Nat.le_of_ble_eq_true rfl⟩ rfl rfl ⟨Nat.le_of_ble_eq_true rfl, Nat.le_of_ble_eq_true rfl⟩ (fun H locs h => ?_)
    refine W.eq (g2 := F0 m 5 ls [.ref (q z1 0)]) rfl ?_
    have hk1 : z1 < n := envAt_lt hn hc1
    have h := SR_perm (foc_perm hk1 q0 q cA σ0 σ) h
    refine lv_astore_n (pc := 5) (lv' := [(3, .ref (q z1 0)), (0, .ref (q0 0)), (1, .int x1), (2, .int x2)]) hx hb dX4_roundOf_5 rfl hl (by decide) rfl (fun ls hl => ?_)
    refine lv_aload_n (pc := 6) hx hb dX4_roundOf_6 rfl (lv_at hl 0 rfl) ?_
    refine lv_iload_n (pc := 7) hx hb dX4_roundOf_7 rfl (lv_at hl 3 rfl) ?_
    rcases xbT hf with hc0 | ⟨z2, hc2, hf⟩
    · exact call_TS (pc := 8) (As := [.ref (q z1 0), .int x2]) (rest := []) (Qc := QF) C hl0 hex hX h (kT_X4_refuseNoSlot (q := q z1) (σ z1) x2 hc0) cw_X4_104 [13, 14, 15, 16, 17, 18, 19, 20, 21, 22, 23, 24, 25, 26, 27, 28, 29, 30, 31, 32] (fkW_e ..) (by decide) rfl rfl hl.1 (Nat.le_of_ble_eq_true rfl) dX4_roundOf_8 ⟨Nat.le_of_ble_eq_true rfl, Nat.le_of_ble_eq_true rfl⟩ rfl rfl ⟨Nat.le_of_ble_eq_true rfl, Nat.le_of_ble_eq_true rfl⟩
    · refine call_SRR (pc := 8) (As := [.ref (q z1 0), .int x2]) (rest := []) C h (k_X4_refuseNoSlot (q := q z1) (σ z1) x2 hc2) cw_X4_104 [13, 14, 15, 16, 17, 18, 19, 20, 21, 22, 23, 24, 25, 26, 27, 28, 29, 30, 31, 32] (fkW_e ..) (by decide) rfl rfl hl.1 (Nat.le_of_ble_eq_true rfl) dX4_roundOf_8 ⟨Nat.le_of_ble_eq_true rfl, Nat.le_of_ble_eq_true rfl⟩ rfl rfl ⟨Nat.le_of_ble_eq_true rfl, Nat.le_of_ble_eq_true rfl⟩ (fun H locs h => ?_)
      refine W.eq (g2 := F0 m 11 ls []) rfl ?_
      refine lv_aload_n (pc := 11) hx hb dX4_roundOf_11 rfl (lv_at hl 0 rfl) ?_
      refine g_get (pc := 12) (v := .ref (q z1 3)) C h.1 13 (fkW_c13 ..) fl_X4_185 rfl dX4_roundOf_12 ?_
      refine lv_iload_n (pc := 15) hx hb dX4_roundOf_15 rfl (lv_at hl 3 rfl) ?_
      refine call_rgetR (pc := 16) (rest := []) C h (by decide) (by decide) (fkW_c16 ..) (fkW_c21 ..) cw_X4_121 hl.1 (Nat.le_of_ble_eq_true rfl) dX4_roundOf_16 ⟨Nat.le_of_ble_eq_true rfl, Nat.le_of_ble_eq_true rfl⟩ rfl rfl ⟨Nat.le_of_ble_eq_true rfl, Nat.le_of_ble_eq_true rfl⟩ (fun H locs h => ?_)
      cases hf
abbrev rm_X4_orders : Room := { frames := 3, cells := 0, slots := 0, locals := 71 }
def f_X4_orders (n : Nat) (σ0 : (Nat → Nat → Int32)) (σ : (Nat → Nat → Nat → Int32)) (x1 : Int32) : Option (String ⊕ (Int32 × (Nat → Nat → Int32) × (Nat → Nat → Nat → Int32))) := (xb (f_X4_envelopeAt n x1) fun z1 => ((f_X0_ordersBehind (eo (σ z1) (σ0 2)) (0 : Int32)).bind fun z2 => (lt z2.2 fun t3 => (some (.inr (z2.1, ((va_up σ0 2 (t3 17)), va_up σ z1 t3)))))))
set_option maxHeartbeats 400000 in
set_option maxRecDepth 100000 in
theorem k_X4_orders {n : Nat} (hn : n ≤ 6) {q0 : Nat → Nat} {q : Nat → Nat → Nat} {cA : Nat → ClassId} {D : va_G} (σ0 : (Nat → Nat → Int32)) (σ : (Nat → Nat → Nat → Int32)) (x1 : Int32) {z : Int32 × (Nat → Nat → Int32) × (Nat → Nat → Nat → Int32)} (hf : f_X4_orders n σ0 σ x1 = some (.inr z)) : CtU yX4_orders cX4_orders 2 (some .int) rm_X4_orders [.ref (q0 0), .int x1] D cA (sW n q0 q cA σ0 σ) (sW n q0 q cA z.2.1 z.2.2) (some (.int z.1)) 0 0 := by
  refine ctU_of (by decide) (Nat.le_of_ble_eq_true rfl) ?_
  intro p l e s m below meth c ls C hr hnm h hl
  have C : Cx p s m _ meth c cX4_orders 2 RX4 D cA := C
  obtain ⟨hx, hb, hml, hown, hts, hK, hlk⟩ := id C
  replace hl : lv_has ls 2 [(0, .ref (q0 0)), (1, .int x1)] := hl
  rw [f_X4_orders] at hf
  refine lv_aload_n (pc := 0) hx hb dX4_orders_0 rfl (lv_at hl 0 rfl) ?_
  refine lv_iload_n (pc := 1) hx hb dX4_orders_1 rfl (lv_at hl 1 rfl) ?_
  obtain ⟨z1, hc1, hf⟩ := xbR hf
  refine call_VR (pc := 2) (As := [.int x1]) (rest := []) C h (k_X4_envelopeAt hn (q0 := q0) (q := q) σ0 x1 hc1) cw_X4_43 0 (sW_c0 ..) rfl (List.range 13) (sW_f ..) (by decide) rfl rfl hl.1 (Nat.le_of_ble_eq_true rfl) dX4_orders_2 ⟨Nat.le_of_ble_eq_true rfl, Nat.le_of_ble_eq_true rfl⟩ rfl rfl ⟨Nat.le_of_ble_eq_true rfl, Nat.le_of_ble_eq_true rfl⟩ (fun H locs h => ?_)
  refine W.eq (g2 := F0 m 5 ls [.ref (q z1 0)]) rfl ?_
  have hk1 : z1 < n := envAt_lt hn hc1
  have h := St_perm (foc_perm hk1 q0 q cA σ0 σ) h
  refine lv_iconst (pc := 5) (v := 0) hx hb dX4_orders_5 (by decide) ?_
  refine lv_aload_n (pc := 6) hx hb dX4_orders_6 rfl (lv_at hl 0 rfl) ?_
  refine g_get (pc := 7) (v := .ref (q0 3)) C h.1 0 (fkW_c0 ..) fl_X4_26 rfl dX4_orders_7 ?_
  obtain ⟨z2, hc2, hf⟩ := bdS hf
  obtain ⟨t3, et3, hf⟩ := ltS hf
  refine call_VU (pc := 10) (As := [.int (0 : Int32), .ref (q0 3)]) (rest := []) (ws' := (fkW n z1 q0 q cA (va_up σ0 2 (t3 17)) t3 σ)) C h (k_X0_ordersBehind (q := eoq (q z1) q0) (eo (σ z1) (σ0 2)) (0 : Int32) hc2) cw_X4_188 13 (fkW_c13 ..) rfl [13, 14, 15, 16, 17, 18, 19, 20, 21, 22, 23, 24, 25, 26, 27, 28, 29, 30, 31, 32, 3, 4] (fkW_eo ..) (by decide) (eoW_fst _ _ _ _) ((fkW_eop ..).trans (by rw [et3])) rfl rfl hl.1 (Nat.le_of_ble_eq_true rfl) dX4_orders_10 ⟨Nat.le_of_ble_eq_true rfl, Nat.le_of_ble_eq_true rfl⟩ rfl rfl ⟨Nat.le_of_ble_eq_true rfl, Nat.le_of_ble_eq_true rfl⟩ (fun H locs h => ?_)
  refine W.eq (g2 := F0 m 13 ls [.int z2.1]) rfl ?_
  cases hf
  have h := St_perm (unf_perm hk1 q0 q cA (va_up σ0 2 (t3 17)) t3 σ) h
  exact ret_iU (pc := 13) C hr h dX4_orders_13
abbrev rmT_X4_orders : Room := { frames := 7, cells := 1, slots := 6, locals := 104 }
set_option maxHeartbeats 400000 in
set_option maxRecDepth 100000 in
theorem kT_X4_orders {n : Nat} (hn : n ≤ 6) {q0 : Nat → Nat} {q : Nat → Nat → Nat} {cA : Nat → ClassId} {D : va_G} (σ0 : (Nat → Nat → Int32)) (σ : (Nat → Nat → Nat → Int32)) (x1 : Int32) {E : String} (hf : f_X4_orders n σ0 σ x1 = some (.inl E)) : CtT yX4_orders cX4_orders 2 (some .int) rmT_X4_orders [.ref (q0 0), .int x1] D cA (sW n q0 q cA σ0 σ) E := by
  refine ctT_of (by decide) (Nat.le_of_ble_eq_true rfl) ?_
  intro p l e s m below meth c ls hl0 C hex hX h hl
  have C : Cx p s m _ meth c cX4_orders 2 RX4 D cA := C
  obtain ⟨hx, hb, hml, hown, hts, hK, hlk⟩ := id C
  replace hl : lv_has ls 2 [(0, .ref (q0 0)), (1, .int x1)] := hl
  rw [f_X4_orders] at hf
  refine lv_aload_n (pc := 0) hx hb dX4_orders_0 rfl (lv_at hl 0 rfl) ?_
  refine lv_iload_n (pc := 1) hx hb dX4_orders_1 rfl (lv_at hl 1 rfl) ?_
  rcases xbT hf with hc0 | ⟨z1, hc1, hf⟩
  · exact call_TV (pc := 2) (As := [.int x1]) (rest := []) (Qc := QF) C hl0 hex hX h (kT_X4_envelopeAt hn (q0 := q0) (q := q) σ0 x1 hc0) cw_X4_43 0 (sW_c0 ..) rfl (List.range 13) (sW_f ..) (by decide) rfl rfl hl.1 (Nat.le_of_ble_eq_true rfl) dX4_orders_2 ⟨Nat.le_of_ble_eq_true rfl, Nat.le_of_ble_eq_true rfl⟩ rfl rfl ⟨Nat.le_of_ble_eq_true rfl, Nat.le_of_ble_eq_true rfl⟩
  · refine call_VRR (pc := 2) (As := [.int x1]) (rest := []) C h (k_X4_envelopeAt hn (q0 := q0) (q := q) σ0 x1 hc1) cw_X4_43 0 (sW_c0 ..) rfl (List.range 13) (sW_f ..) (by decide) rfl rfl hl.1 (Nat.le_of_ble_eq_true rfl) dX4_orders_2 ⟨Nat.le_of_ble_eq_true rfl, Nat.le_of_ble_eq_true rfl⟩ rfl rfl ⟨Nat.le_of_ble_eq_true rfl, Nat.le_of_ble_eq_true rfl⟩ (fun H locs h => ?_)
    refine W.eq (g2 := F0 m 5 ls [.ref (q z1 0)]) rfl ?_
    have hk1 : z1 < n := envAt_lt hn hc1
    have h := SR_perm (foc_perm hk1 q0 q cA σ0 σ) h
    refine lv_iconst (pc := 5) (v := 0) hx hb dX4_orders_5 (by decide) ?_
    refine lv_aload_n (pc := 6) hx hb dX4_orders_6 rfl (lv_at hl 0 rfl) ?_
    refine g_get (pc := 7) (v := .ref (q0 3)) C h.1 0 (fkW_c0 ..) fl_X4_26 rfl dX4_orders_7 ?_
    obtain ⟨z2, hc2, hf⟩ := bdS hf
    obtain ⟨t3, _, hf⟩ := ltS hf
    cases hf
end
