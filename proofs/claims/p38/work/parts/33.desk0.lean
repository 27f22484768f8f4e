section
variable {p : Program} {l : Launch} {e : Env} {R : Room} {s : State} {m : MethodId} {args : Array Value} {below : List Frame} {meth : Method} {c : Code} {Q : State → Prop}
variable {D : va_G} {cA : Nat → ClassId} {A : Nat → Prop} {q : Nat → Nat}
abbrev rm_X4_refuseNoPerson : Room := { frames := 0, cells := 0, slots := 0, locals := 0 }
def f_X4_refuseNoPerson (x0 : Int32) : Option (String ⊕ Unit) := (if x0 < 0 then (some (.inl "java/lang/IndexOutOfBoundsException")) else (if x0 < (8 : Int32) then (some (.inr ())) else (some (.inl "java/lang/IndexOutOfBoundsException"))))
set_option maxHeartbeats 400000 in
set_option maxRecDepth 100000 in
theorem k_X4_refuseNoPerson {cA : Nat → ClassId} {D : va_G} (x0 : Int32) {z : Unit} (hf : f_X4_refuseNoPerson x0 = some (.inr z)) : CtR yX4_refuseNoPerson cX4_refuseNoPerson 1 none rm_X4_refuseNoPerson [.int x0] D cA [] none 0 0 := by
  refine ctR_of (by decide) (Nat.le_of_ble_eq_true rfl) ?_
  intro p l e s m below meth c ls C hr hnm h hl
  have C : Cx p s m _ meth c cX4_refuseNoPerson 1 RX4 D cA := C
  obtain ⟨hx, hb, hml, hown, hts, hK, hlk⟩ := id C
  replace hl : lv_has ls 1 [(0, .int x0)] := hl
  rw [f_X4_refuseNoPerson] at hf
  refine lv_iload_n (pc := 0) hx hb dX4_refuseNoPerson_0 rfl (lv_at hl 0 rfl) ?_
  refine lv_if_lt (pc := 1) (tgt := 10) hx hb dX4_refuseNoPerson_1 (by decide) (fun c9 => ?_) (fun c9 => ?_)
  · have hf := ifT c9 hf
    cases hf
  · have hf := ifF c9 hf
    refine lv_iload_n (pc := 4) hx hb dX4_refuseNoPerson_4 rfl (lv_at hl 0 rfl) ?_
    refine lv_bipush (pc := 5) (v := 8) hx hb dX4_refuseNoPerson_5 (by decide) ?_
    refine lv_icmp_lt (pc := 7) (tgt := 20) hx hb dX4_refuseNoPerson_7 (by decide) (fun c9 => ?_) (fun c9 => ?_)
    · have hf := ifT c9 hf
      cases hf
      exact ret_vR (pc := 20) C hr h dX4_refuseNoPerson_20
    · have hf := ifF c9 hf
      cases hf
abbrev rmT_X4_refuseNoPerson : Room := { frames := 6, cells := 1, slots := 6, locals := 82 }
set_option maxHeartbeats 400000 in
set_option maxRecDepth 100000 in
theorem kT_X4_refuseNoPerson {cA : Nat → ClassId} {D : va_G} (x0 : Int32) {E : String} (hf : f_X4_refuseNoPerson x0 = some (.inl E)) : CtT yX4_refuseNoPerson cX4_refuseNoPerson 1 none rmT_X4_refuseNoPerson [.int x0] D cA [] E := by
  refine ctT_of (by decide) (Nat.le_of_ble_eq_true rfl) ?_
  intro p l e s m below meth c ls hl0 C hex hX h hl
  have C : Cx p s m _ meth c cX4_refuseNoPerson 1 RX4 D cA := C
  obtain ⟨hx, hb, hml, hown, hts, hK, hlk⟩ := id C
  replace hl : lv_has ls 1 [(0, .int x0)] := hl
  rw [f_X4_refuseNoPerson] at hf
  refine lv_iload_n (pc := 0) hx hb dX4_refuseNoPerson_0 rfl (lv_at hl 0 rfl) ?_
  refine lv_if_lt (pc := 1) (tgt := 10) hx hb dX4_refuseNoPerson_1 (by decide) (fun c9 => ?_) (fun c9 => ?_)
  · have hf := ifT c9 hf
    cases hf
    exact g_throw (pc := 10) (rest := []) C hl0 hex hX h tw_IndexOutOfBoundsException (is := 237) (text := "there is no such person") (by decide +kernel) hl.1 dX4_refuseNoPerson_10 dX4_refuseNoPerson_13 dX4_refuseNoPerson_14 dX4_refuseNoPerson_16 dX4_refuseNoPerson_19 (Nat.le_of_ble_eq_true rfl) (Nat.le_of_ble_eq_true rfl) (Nat.le_of_ble_eq_true rfl) (Nat.le_of_ble_eq_true rfl) (Nat.le_of_ble_eq_true rfl) (Nat.le_of_ble_eq_true rfl)
  · have hf := ifF c9 hf
    refine lv_iload_n (pc := 4) hx hb dX4_refuseNoPerson_4 rfl (lv_at hl 0 rfl) ?_
    refine lv_bipush (pc := 5) (v := 8) hx hb dX4_refuseNoPerson_5 (by decide) ?_
    refine lv_icmp_lt (pc := 7) (tgt := 20) hx hb dX4_refuseNoPerson_7 (by decide) (fun c9 => ?_) (fun c9 => ?_)
    · have hf := ifT c9 hf
      cases hf
    · have hf := ifF c9 hf
      cases hf
      exact g_throw (pc := 10) (rest := []) C hl0 hex hX h tw_IndexOutOfBoundsException (is := 237) (text := "there is no such person") (by decide +kernel) hl.1 dX4_refuseNoPerson_10 dX4_refuseNoPerson_13 dX4_refuseNoPerson_14 dX4_refuseNoPerson_16 dX4_refuseNoPerson_19 (Nat.le_of_ble_eq_true rfl) (Nat.le_of_ble_eq_true rfl) (Nat.le_of_ble_eq_true rfl) (Nat.le_of_ble_eq_true rfl) (Nat.le_of_ble_eq_true rfl) (Nat.le_of_ble_eq_true rfl)
abbrev rm_X4_refuseNoSlot : Room := { frames := 0, cells := 0, slots := 0, locals := 0 }
def f_X4_refuseNoSlot (σ : Nat → Nat → Int32) (x1 : Int32) : Option (String ⊕ Unit) := (if x1 < 0 then (some (.inl "java/lang/IndexOutOfBoundsException")) else (if x1 < (σ 10 0) then (some (.inr ())) else (some (.inl "java/lang/IndexOutOfBoundsException"))))
set_option maxHeartbeats 400000 in
set_option maxRecDepth 100000 in
theorem k_X4_refuseNoSlot {q : Nat → Nat} {cA : Nat → ClassId} {D : va_G} (σ : Nat → Nat → Int32) (x1 : Int32) {z : Unit} (hf : f_X4_refuseNoSlot σ x1 = some (.inr z)) : CtR yX4_refuseNoSlot cX4_refuseNoSlot 2 none rm_X4_refuseNoSlot [.ref (q 0), .int x1] D cA (eW q cA σ) none 0 0 := by
  refine ctR_of (by decide) (Nat.le_of_ble_eq_true rfl) ?_
  intro p l e s m below meth c ls C hr hnm h hl
  have C : Cx p s m _ meth c cX4_refuseNoSlot 2 RX4 D cA := C
  obtain ⟨hx, hb, hml, hown, hts, hK, hlk⟩ := id C
  replace hl : lv_has ls 2 [(0, .ref (q 0)), (1, .int x1)] := hl
  rw [f_X4_refuseNoSlot] at hf
  refine lv_iload_n (pc := 0) hx hb dX4_refuseNoSlot_0 rfl (lv_at hl 1 rfl) ?_
  refine lv_if_lt (pc := 1) (tgt := 12) hx hb dX4_refuseNoSlot_1 (by decide) (fun c9 => ?_) (fun c9 => ?_)
  · have hf := ifT c9 hf
    cases hf
  · have hf := ifF c9 hf
    refine lv_iload_n (pc := 4) hx hb dX4_refuseNoSlot_4 rfl (lv_at hl 1 rfl) ?_
    refine lv_aload_n (pc := 5) hx hb dX4_refuseNoSlot_5 rfl (lv_at hl 0 rfl) ?_
    refine g_get (pc := 6) (v := .int (σ 10 0)) C h.1 0 (eW_c0 _ _ _) fl_X4_63 rfl dX4_refuseNoSlot_6 ?_
    refine lv_icmp_lt (pc := 9) (tgt := 22) hx hb dX4_refuseNoSlot_9 (by decide) (fun c9 => ?_) (fun c9 => ?_)
    · have hf := ifT c9 hf
      cases hf
      exact ret_vR (pc := 22) C hr h dX4_refuseNoSlot_22
    · have hf := ifF c9 hf
      cases hf
abbrev rmT_X4_refuseNoSlot : Room := { frames := 6, cells := 1, slots := 6, locals := 82 }
set_option maxHeartbeats 400000 in
set_option maxRecDepth 100000 in
theorem kT_X4_refuseNoSlot {q : Nat → Nat} {cA : Nat → ClassId} {D : va_G} (σ : Nat → Nat → Int32) (x1 : Int32) {E : String} (hf : f_X4_refuseNoSlot σ x1 = some (.inl E)) : CtT yX4_refuseNoSlot cX4_refuseNoSlot 2 none rmT_X4_refuseNoSlot [.ref (q 0), .int x1] D cA (eW q cA σ) E := by
  refine ctT_of (by decide) (Nat.le_of_ble_eq_true rfl) ?_
  intro p l e s m below meth c ls hl0 C hex hX h hl
  have C : Cx p s m _ meth c cX4_refuseNoSlot 2 RX4 D cA := C
  obtain ⟨hx, hb, hml, hown, hts, hK, hlk⟩ := id C
  replace hl : lv_has ls 2 [(0, .ref (q 0)), (1, .int x1)] := hl
  rw [f_X4_refuseNoSlot] at hf
  refine lv_iload_n (pc := 0) hx hb dX4_refuseNoSlot_0 rfl (lv_at hl 1 rfl) ?_
  refine lv_if_lt (pc := 1) (tgt := 12) hx hb dX4_refuseNoSlot_1 (by decide) (fun c9 => ?_) (fun c9 => ?_)
  · have hf := ifT c9 hf
    cases hf
    exact g_throw (pc := 12) (rest := []) C hl0 hex hX h tw_IndexOutOfBoundsException (is := 239) (text := "there is no such slot") (by decide +kernel) hl.1 dX4_refuseNoSlot_12 dX4_refuseNoSlot_15 dX4_refuseNoSlot_16 dX4_refuseNoSlot_18 dX4_refuseNoSlot_21 (Nat.le_of_ble_eq_true rfl) (Nat.le_of_ble_eq_true rfl) (Nat.le_of_ble_eq_true rfl) (Nat.le_of_ble_eq_true rfl) (Nat.le_of_ble_eq_true rfl) (Nat.le_of_ble_eq_true rfl)
  · have hf := ifF c9 hf
    refine lv_iload_n (pc := 4) hx hb dX4_refuseNoSlot_4 rfl (lv_at hl 1 rfl) ?_
    refine lv_aload_n (pc := 5) hx hb dX4_refuseNoSlot_5 rfl (lv_at hl 0 rfl) ?_
    refine g_get (pc := 6) (v := .int (σ 10 0)) C h.1 0 (eW_c0 _ _ _) fl_X4_63 rfl dX4_refuseNoSlot_6 ?_
    refine lv_icmp_lt (pc := 9) (tgt := 22) hx hb dX4_refuseNoSlot_9 (by decide) (fun c9 => ?_) (fun c9 => ?_)
    · have hf := ifT c9 hf
      cases hf
    · have hf := ifF c9 hf
      cases hf
      exact g_throw (pc := 12) (rest := []) C hl0 hex hX h tw_IndexOutOfBoundsException (is := 239) (text := "there is no such slot") (by decide +kernel) hl.1 dX4_refuseNoSlot_12 dX4_refuseNoSlot_15 dX4_refuseNoSlot_16 dX4_refuseNoSlot_18 dX4_refuseNoSlot_21 (Nat.le_of_ble_eq_true rfl) (Nat.le_of_ble_eq_true rfl) (Nat.le_of_ble_eq_true rfl) (Nat.le_of_ble_eq_true rfl) (Nat.le_of_ble_eq_true rfl) (Nat.le_of_ble_eq_true rfl)
abbrev rm_X4_refuseNoDraft : Room := { frames := 0, cells := 0, slots := 0, locals := 0 }
def f_X4_refuseNoDraft (σ : Nat → Nat → Int32) : Option (String ⊕ Unit) := (if (σ 11 0) = 0 then (some (.inr ())) else (some (.inl "java/lang/IllegalStateException")))
set_option maxHeartbeats 400000 in
set_option maxRecDepth 100000 in
theorem k_X4_refuseNoDraft {q : Nat → Nat} {cA : Nat → ClassId} {D : va_G} (σ : Nat → Nat → Int32) {z : Unit} (hf : f_X4_refuseNoDraft σ = some (.inr z)) : CtR yX4_refuseNoDraft cX4_refuseNoDraft 1 none rm_X4_refuseNoDraft [.ref (q 0)] D cA (eW q cA σ) none 0 0 := by
  refine ctR_of (by decide) (Nat.le_of_ble_eq_true rfl) ?_
  intro p l e s m below meth c ls C hr hnm h hl
  have C : Cx p s m _ meth c cX4_refuseNoDraft 1 RX4 D cA := C
  obtain ⟨hx, hb, hml, hown, hts, hK, hlk⟩ := id C
  replace hl : lv_has ls 1 [(0, .ref (q 0))] := hl
  rw [f_X4_refuseNoDraft] at hf
  refine lv_aload_n (pc := 0) hx hb dX4_refuseNoDraft_0 rfl (lv_at hl 0 rfl) ?_
  refine g_get (pc := 1) (v := .int (σ 11 0)) C h.1 0 (eW_c0 _ _ _) fl_X4_137 rfl dX4_refuseNoDraft_1 ?_
  refine lv_if_eq (pc := 4) (tgt := 17) hx hb dX4_refuseNoDraft_4 (by decide) (fun c9 => ?_) (fun c9 => ?_)
  · have hf := ifT c9 hf
    cases hf
    exact ret_vR (pc := 17) C hr h dX4_refuseNoDraft_17
  · have hf := ifF c9 hf
    cases hf
abbrev rmT_X4_refuseNoDraft : Room := { frames := 6, cells := 1, slots := 6, locals := 82 }
set_option maxHeartbeats 400000 in
set_option maxRecDepth 100000 in
theorem kT_X4_refuseNoDraft {q : Nat → Nat} {cA : Nat → ClassId} {D : va_G} (σ : Nat → Nat → Int32) {E : String} (hf : f_X4_refuseNoDraft σ = some (.inl E)) : CtT yX4_refuseNoDraft cX4_refuseNoDraft 1 none rmT_X4_refuseNoDraft [.ref (q 0)] D cA (eW q cA σ) E := by
  refine ctT_of (by decide) (Nat.le_of_ble_eq_true rfl) ?_
  intro p l e s m below meth c ls hl0 C hex hX h hl
  have C : Cx p s m _ meth c cX4_refuseNoDraft 1 RX4 D cA := C
  obtain ⟨hx, hb, hml, hown, hts, hK, hlk⟩ := id C
  replace hl : lv_has ls 1 [(0, .ref (q 0))] := hl
  rw [f_X4_refuseNoDraft] at hf
  refine lv_aload_n (pc := 0) hx hb dX4_refuseNoDraft_0 rfl (lv_at hl 0 rfl) ?_
  refine g_get (pc := 1) (v := .int (σ 11 0)) C h.1 0 (eW_c0 _ _ _) fl_X4_137 rfl dX4_refuseNoDraft_1 ?_
  refine lv_if_eq (pc := 4) (tgt := 17) hx hb dX4_refuseNoDraft_4 (by decide) (fun c9 => ?_) (fun c9 => ?_)
  · have hf := ifT c9 hf
    cases hf
  · have hf := ifF c9 hf
    cases hf
    exact g_throw (pc := 7) (rest := []) C hl0 hex hX h tw_IllegalStateException (is := 245) (text := "the envelope is no draft") (by decide +kernel) hl.1 dX4_refuseNoDraft_7 dX4_refuseNoDraft_10 dX4_refuseNoDraft_11 dX4_refuseNoDraft_13 dX4_refuseNoDraft_16 (Nat.le_of_ble_eq_true rfl) (Nat.le_of_ble_eq_true rfl) (Nat.le_of_ble_eq_true rfl) (Nat.le_of_ble_eq_true rfl) (Nat.le_of_ble_eq_true rfl) (Nat.le_of_ble_eq_true rfl)
abbrev rm_X4_refuseNoEvent : Room := { frames := 0, cells := 0, slots := 0, locals := 0 }
def f_X4_refuseNoEvent (σ : Nat → Nat → Int32) (x1 : Int32) : Option (String ⊕ Unit) := (if x1 < 0 then (some (.inl "java/lang/IndexOutOfBoundsException")) else (if x1 < (σ 4 0) then (some (.inr ())) else (some (.inl "java/lang/IndexOutOfBoundsException"))))
set_option maxHeartbeats 400000 in
set_option maxRecDepth 100000 in
theorem k_X4_refuseNoEvent {q : Nat → Nat} {cA : Nat → ClassId} {D : va_G} (σ : Nat → Nat → Int32) (x1 : Int32) {z : Unit} (hf : f_X4_refuseNoEvent σ x1 = some (.inr z)) : CtR yX4_refuseNoEvent cX4_refuseNoEvent 2 none rm_X4_refuseNoEvent [.ref (q 0), .int x1] D cA (hW q cA σ) none 0 0 := by
  refine ctR_of (by decide) (Nat.le_of_ble_eq_true rfl) ?_
  intro p l e s m below meth c ls C hr hnm h hl
  have C : Cx p s m _ meth c cX4_refuseNoEvent 2 RX4 D cA := C
  obtain ⟨hx, hb, hml, hown, hts, hK, hlk⟩ := id C
  replace hl : lv_has ls 2 [(0, .ref (q 0)), (1, .int x1)] := hl
  rw [f_X4_refuseNoEvent] at hf
  refine lv_iload_n (pc := 0) hx hb dX4_refuseNoEvent_0 rfl (lv_at hl 1 rfl) ?_
  refine lv_if_lt (pc := 1) (tgt := 12) hx hb dX4_refuseNoEvent_1 (by decide) (fun c9 => ?_) (fun c9 => ?_)
  · have hf := ifT c9 hf
    cases hf
  · have hf := ifF c9 hf
    refine lv_iload_n (pc := 4) hx hb dX4_refuseNoEvent_4 rfl (lv_at hl 1 rfl) ?_
    refine lv_aload_n (pc := 5) hx hb dX4_refuseNoEvent_5 rfl (lv_at hl 0 rfl) ?_
    refine g_get (pc := 6) (v := .int (σ 4 0)) C h.1 0 (hW_c0 _ _ _) fl_X4_200 rfl dX4_refuseNoEvent_6 ?_
    refine lv_icmp_lt (pc := 9) (tgt := 22) hx hb dX4_refuseNoEvent_9 (by decide) (fun c9 => ?_) (fun c9 => ?_)
    · have hf := ifT c9 hf
      cases hf
      exact ret_vR (pc := 22) C hr h dX4_refuseNoEvent_22
    · have hf := ifF c9 hf
      cases hf
abbrev rmT_X4_refuseNoEvent : Room := { frames := 6, cells := 1, slots := 6, locals := 82 }
set_option maxHeartbeats 400000 in
set_option maxRecDepth 100000 in
theorem kT_X4_refuseNoEvent {q : Nat → Nat} {cA : Nat → ClassId} {D : va_G} (σ : Nat → Nat → Int32) (x1 : Int32) {E : String} (hf : f_X4_refuseNoEvent σ x1 = some (.inl E)) : CtT yX4_refuseNoEvent cX4_refuseNoEvent 2 none rmT_X4_refuseNoEvent [.ref (q 0), .int x1] D cA (hW q cA σ) E := by
  refine ctT_of (by decide) (Nat.le_of_ble_eq_true rfl) ?_
  intro p l e s m below meth c ls hl0 C hex hX h hl
  have C : Cx p s m _ meth c cX4_refuseNoEvent 2 RX4 D cA := C
  obtain ⟨hx, hb, hml, hown, hts, hK, hlk⟩ := id C
  replace hl : lv_has ls 2 [(0, .ref (q 0)), (1, .int x1)] := hl
  rw [f_X4_refuseNoEvent] at hf
  refine lv_iload_n (pc := 0) hx hb dX4_refuseNoEvent_0 rfl (lv_at hl 1 rfl) ?_
  refine lv_if_lt (pc := 1) (tgt := 12) hx hb dX4_refuseNoEvent_1 (by decide) (fun c9 => ?_) (fun c9 => ?_)
  · have hf := ifT c9 hf
    cases hf
    exact g_throw (pc := 12) (rest := []) C hl0 hex hX h tw_IndexOutOfBoundsException (is := 241) (text := "there is no such event") (by decide +kernel) hl.1 dX4_refuseNoEvent_12 dX4_refuseNoEvent_15 dX4_refuseNoEvent_16 dX4_refuseNoEvent_18 dX4_refuseNoEvent_21 (Nat.le_of_ble_eq_true rfl) (Nat.le_of_ble_eq_true rfl) (Nat.le_of_ble_eq_true rfl) (Nat.le_of_ble_eq_true rfl) (Nat.le_of_ble_eq_true rfl) (Nat.le_of_ble_eq_true rfl)
  · have hf := ifF c9 hf
    refine lv_iload_n (pc := 4) hx hb dX4_refuseNoEvent_4 rfl (lv_at hl 1 rfl) ?_
    refine lv_aload_n (pc := 5) hx hb dX4_refuseNoEvent_5 rfl (lv_at hl 0 rfl) ?_
    refine g_get (pc := 6) (v := .int (σ 4 0)) C h.1 0 (hW_c0 _ _ _) fl_X4_200 rfl dX4_refuseNoEvent_6 ?_
    refine lv_icmp_lt (pc := 9) (tgt := 22) hx hb dX4_refuseNoEvent_9 (by decide) (fun c9 => ?_) (fun c9 => ?_)
    · have hf := ifT c9 hf
      cases hf
    · have hf := ifF c9 hf
      cases hf
      exact g_throw (pc := 12) (rest := []) C hl0 hex hX h tw_IndexOutOfBoundsException (is := 241) (text := "there is no such event") (by decide +kernel) hl.1 dX4_refuseNoEvent_12 dX4_refuseNoEvent_15 dX4_refuseNoEvent_16 dX4_refuseNoEvent_18 dX4_refuseNoEvent_21 (Nat.le_of_ble_eq_true rfl) (Nat.le_of_ble_eq_true rfl) (Nat.le_of_ble_eq_true rfl) (Nat.le_of_ble_eq_true rfl) (Nat.le_of_ble_eq_true rfl) (Nat.le_of_ble_eq_true rfl)
abbrev rm_X4_refuseTooManyEvents : Room := { frames := 0, cells := 0, slots := 0, locals := 0 }
def f_X4_refuseTooManyEvents (σ : Nat → Nat → Int32) (x1 : Int32) : Option (String ⊕ Unit) := (if x1 < 0 then (some (.inl "java/lang/IndexOutOfBoundsException")) else (if x1 ≤ (σ 4 0) then (some (.inr ())) else (some (.inl "java/lang/IndexOutOfBoundsException"))))
set_option maxHeartbeats 400000 in
set_option maxRecDepth 100000 in
theorem k_X4_refuseTooManyEvents {q : Nat → Nat} {cA : Nat → ClassId} {D : va_G} (σ : Nat → Nat → Int32) (x1 : Int32) {z : Unit} (hf : f_X4_refuseTooManyEvents σ x1 = some (.inr z)) : CtR yX4_refuseTooManyEvents cX4_refuseTooManyEvents 2 none rm_X4_refuseTooManyEvents [.ref (q 0), .int x1] D cA (hW q cA σ) none 0 0 := by
  refine ctR_of (by decide) (Nat.le_of_ble_eq_true rfl) ?_
  intro p l e s m below meth c ls C hr hnm h hl
  have C : Cx p s m _ meth c cX4_refuseTooManyEvents 2 RX4 D cA := C
  obtain ⟨hx, hb, hml, hown, hts, hK, hlk⟩ := id C
  replace hl : lv_has ls 2 [(0, .ref (q 0)), (1, .int x1)] := hl
  rw [f_X4_refuseTooManyEvents] at hf
  refine lv_iload_n (pc := 0) hx hb dX4_refuseTooManyEvents_0 rfl (lv_at hl 1 rfl) ?_
  refine lv_if_lt (pc := 1) (tgt := 12) hx hb dX4_refuseTooManyEvents_1 (by decide) (fun c9 => ?_) (fun c9 => ?_)
  · have hf := ifT c9 hf
    cases hf
  · have hf := ifF c9 hf
    refine lv_iload_n (pc := 4) hx hb dX4_refuseTooManyEvents_4 rfl (lv_at hl 1 rfl) ?_
    refine lv_aload_n (pc := 5) hx hb dX4_refuseTooManyEvents_5 rfl (lv_at hl 0 rfl) ?_
    refine g_get (pc := 6) (v := .int (σ 4 0)) C h.1 0 (hW_c0 _ _ _) fl_X4_200 rfl dX4_refuseTooManyEvents_6 ?_
    refine lv_icmp_le (pc := 9) (tgt := 22) hx hb dX4_refuseTooManyEvents_9 (by decide) (fun c9 => ?_) (fun c9 => ?_)
    · have hf := ifT c9 hf
      cases hf
      exact ret_vR (pc := 22) C hr h dX4_refuseTooManyEvents_22
    · have hf := ifF c9 hf
      cases hf
abbrev rmT_X4_refuseTooManyEvents : Room := { frames := 6, cells := 1, slots := 6, locals := 82 }
set_option maxHeartbeats 400000 in
set_option maxRecDepth 100000 in
theorem kT_X4_refuseTooManyEvents {q : Nat → Nat} {cA : Nat → ClassId} {D : va_G} (σ : Nat → Nat → Int32) (x1 : Int32) {E : String} (hf : f_X4_refuseTooManyEvents σ x1 = some (.inl E)) : CtT yX4_refuseTooManyEvents cX4_refuseTooManyEvents 2 none rmT_X4_refuseTooManyEvents [.ref (q 0), .int x1] D cA (hW q cA σ) E := by
  refine ctT_of (by decide) (Nat.le_of_ble_eq_true rfl) ?_
  intro p l e s m below meth c ls hl0 C hex hX h hl
  have C : Cx p s m _ meth c cX4_refuseTooManyEvents 2 RX4 D cA := C
  obtain ⟨hx, hb, hml, hown, hts, hK, hlk⟩ := id C
  replace hl : lv_has ls 2 [(0, .ref (q 0)), (1, .int x1)] := hl
  rw [f_X4_refuseTooManyEvents] at hf
  refine lv_iload_n (pc := 0) hx hb dX4_refuseTooManyEvents_0 rfl (lv_at hl 1 rfl) ?_
  refine lv_if_lt (pc := 1) (tgt := 12) hx hb dX4_refuseTooManyEvents_1 (by decide) (fun c9 => ?_) (fun c9 => ?_)
  · have hf := ifT c9 hf
    cases hf
    exact g_throw (pc := 12) (rest := []) C hl0 hex hX h tw_IndexOutOfBoundsException (is := 243) (text := "there are not so many events") (by decide +kernel) hl.1 dX4_refuseTooManyEvents_12 dX4_refuseTooManyEvents_15 dX4_refuseTooManyEvents_16 dX4_refuseTooManyEvents_18 dX4_refuseTooManyEvents_21 (Nat.le_of_ble_eq_true rfl) (Nat.le_of_ble_eq_true rfl) (Nat.le_of_ble_eq_true rfl) (Nat.le_of_ble_eq_true rfl) (Nat.le_of_ble_eq_true rfl) (Nat.le_of_ble_eq_true rfl)
  · have hf := ifF c9 hf
    refine lv_iload_n (pc := 4) hx hb dX4_refuseTooManyEvents_4 rfl (lv_at hl 1 rfl) ?_
    refine lv_aload_n (pc := 5) hx hb dX4_refuseTooManyEvents_5 rfl (lv_at hl 0 rfl) ?_
    refine g_get (pc := 6) (v := .int (σ 4 0)) C h.1 0 (hW_c0 _ _ _) fl_X4_200 rfl dX4_refuseTooManyEvents_6 ?_
    refine lv_icmp_le (pc := 9) (tgt := 22) hx hb dX4_refuseTooManyEvents_9 (by decide) (fun c9 => ?_) (fun c9 => ?_)
    · have hf := ifT c9 hf
      cases hf
    · have hf := ifF c9 hf
      cases hf
      exact g_throw (pc := 12) (rest := []) C hl0 hex hX h tw_IndexOutOfBoundsException (is := 243) (text := "there are not so many events") (by decide +kernel) hl.1 dX4_refuseTooManyEvents_12 dX4_refuseTooManyEvents_15 dX4_refuseTooManyEvents_16 dX4_refuseTooManyEvents_18 dX4_refuseTooManyEvents_21 (Nat.le_of_ble_eq_true rfl) (Nat.le_of_ble_eq_true rfl) (Nat.le_of_ble_eq_true rfl) (Nat.le_of_ble_eq_true rfl) (Nat.le_of_ble_eq_true rfl) (Nat.le_of_ble_eq_true rfl)
end
