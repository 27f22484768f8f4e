abbrev nN (x y : UInt32) : Prop := FP.fdiv x y &&& 0x7fffffff ≤ 0x7f800000
section
variable {p : Program} {l : Launch} {e : Env} {R : Room} {s : State} {m : MethodId} {args : Array Value} {below : List Frame} {meth : Method} {c : Code} {Q : State → Prop}
variable {D : va_G} {cA : Nat → ClassId} {A : Nat → Prop} {n : Nat} {q0 : Nat → Nat} {q : Nat → Nat → Nat}
abbrev rm_X4_share : Room := { frames := 1, cells := 0, slots := 0, locals := 22 }
def f_X4_share (n : Nat) (σ0 : (Nat → Nat → Int32)) (σ : (Nat → Nat → Nat → Int32)) (x1 : Int32) : Option (String ⊕ (UInt32)) := (xb (f_X4_envelopeAt n x1) fun z1 => (if ((σ z1) 10 0) = 0 then (some (.inr FP.fconst0)) else (if nN (FP.i2f (f_J6_bitCount_0f7a4 ((σ z1) 15 0))) (FP.i2f ((σ z1) 10 0)) then (some (.inr (FP.fdiv (FP.i2f (f_J6_bitCount_0f7a4 ((σ z1) 15 0))) (FP.i2f ((σ z1) 10 0))))) else none)))
set_option maxHeartbeats 400000 in
set_option maxRecDepth 100000 in
theorem k_X4_share {n : Nat} (hn : n ≤ 6) {q0 : Nat → Nat} {q : Nat → Nat → Nat} {cA : Nat → ClassId} {D : va_G} (σ0 : (Nat → Nat → Int32)) (σ : (Nat → Nat → Nat → Int32)) (x1 : Int32) {z : UInt32} (hf : f_X4_share n σ0 σ x1 = some (.inr z)) : CtR yX4_share cX4_share 3 (some .float) rm_X4_share [.ref (q0 0), .int x1] D cA (sW n q0 q cA σ0 σ) (some (.float z)) 0 0 := by
  refine ctR_of (by decide) (Nat.le_of_ble_eq_true rfl) ?_
  intro p l e s m below meth c ls C hr hnm h hl
  have C : Cx p s m _ meth c cX4_share 3 RX4 D cA := C
  obtain ⟨hx, hb, hml, hown, hts, hK, hlk⟩ := id C
  replace hl : lv_has ls 3 [(0, .ref (q0 0)), (1, .int x1)] := hl
  rw [f_X4_share] at hf
  refine lv_aload_n (pc := 0) hx hb dX4_share_0 rfl (lv_at hl 0 rfl) ?_
  refine lv_iload_n (pc := 1) hx hb dX4_share_1 rfl (lv_at hl 1 rfl) ?_
  obtain ⟨z1, hc1, hf⟩ := xbR hf
  refine call_VRR (pc := 2) (As := [.int x1]) (rest := []) C h (k_X4_envelopeAt hn (q0 := q0) (q := q) σ0 x1 hc1) cw_X4_43 0 (sW_c0 ..) rfl (List.range 13) (sW_f ..) (by decide) rfl rfl hl.1 (Nat.le_of_ble_eq_true rfl) dX4_share_2 ⟨Nat.le_of_ble_eq_true rfl, Nat.le_of_ble_eq_true rfl⟩ rfl rfl ⟨Nat.le_of_ble_eq_true rfl, Nat.le_of_ble_eq_true rfl⟩ (fun H locs h => ?_)
  refine W.eq (g2 := F0 m 5 ls [.ref (q z1 0)]) rfl ?_
  have hk1 : z1 < n := envAt_lt hn hc1
  have h := SR_perm (foc_perm hk1 q0 q cA σ0 σ) h
  refine lv_astore_n (pc := 5) (lv' := [(2, .ref (q z1 0)), (0, .ref (q0 0)), (1, .int x1)]) hx hb dX4_share_5 rfl hl (by decide) rfl (fun ls hl => ?_)
  refine lv_aload_n (pc := 6) hx hb dX4_share_6 rfl (lv_at hl 0 rfl) ?_
  refine g_get (pc := 7) (v := .int ((σ z1) 10 0)) C h.1 13 (fkW_c13 ..) fl_X4_63 rfl dX4_share_7 ?_
  refine lv_if_ne (pc := 10) (tgt := 15) hx hb dX4_share_10 (by decide) (fun c9 => ?_) (fun c9 => ?_)
  · have hf := ifF c9 hf
    refine lv_aload_n (pc := 15) hx hb dX4_share_15 rfl (lv_at hl 0 rfl) ?_
    refine g_get (pc := 16) (v := .int ((σ z1) 15 0)) C h.1 13 (fkW_c13 ..) fl_X4_179 rfl dX4_share_16 ?_
    refine call_SRR (pc := 19) (As := [.int ((σ z1) 15 0)]) (rest := []) C h (k_J6_bitCount_0f7a4 ((σ z1) 15 0) rfl) cw_X4_74 [] rfl (by decide) rfl rfl hl.1 (Nat.le_of_ble_eq_true rfl) dX4_share_19 ⟨Nat.le_of_ble_eq_true rfl, Nat.le_of_ble_eq_true rfl⟩ rfl rfl ⟨Nat.le_of_ble_eq_true rfl, Nat.le_of_ble_eq_true rfl⟩ (fun H locs h => ?_)
    refine W.eq (g2 := F0 m 22 ls [.int (f_J6_bitCount_0f7a4 ((σ z1) 15 0))]) rfl ?_
    refine lv_i2f (pc := 22) hx hb dX4_share_22 ?_
    refine lv_aload_n (pc := 23) hx hb dX4_share_23 rfl (lv_at hl 0 rfl) ?_
    refine g_get (pc := 24) (v := .int ((σ z1) 10 0)) C h.1 13 (fkW_c13 ..) fl_X4_63 rfl dX4_share_24 ?_
    refine lv_i2f (pc := 27) hx hb dX4_share_27 ?_
    obtain ⟨hne, hf⟩ := ifS hf
    refine lv_fdiv (pc := 28) hx hb dX4_share_28 hne ?_
    cases hf
    exact ret_fR (pc := 29) C hr h dX4_share_29
  · have hf := ifT c9 hf
    refine lv_fconst0 (pc := 13) hx hb dX4_share_13 ?_
    cases hf
    exact ret_fR (pc := 14) C hr h dX4_share_14
abbrev rmT_X4_share : Room := { frames := 7, cells := 1, slots := 6, locals := 104 }
set_option maxHeartbeats 400000 in
set_option maxRecDepth 100000 in
theorem kT_X4_share {n : Nat} (hn : n ≤ 6) {q0 : Nat → Nat} {q : Nat → Nat → Nat} {cA : Nat → ClassId} {D : va_G} (σ0 : (Nat → Nat → Int32)) (σ : (Nat → Nat → Nat → Int32)) (x1 : Int32) {E : String} (hf : f_X4_share n σ0 σ x1 = some (.inl E)) : CtT yX4_share cX4_share 3 (some .float) rmT_X4_share [.ref (q0 0), .int x1] D cA (sW n q0 q cA σ0 σ) E := by
  refine ctT_of (by decide) (Nat.le_of_ble_eq_true rfl) ?_
  intro p l e s m below meth c ls hl0 C hex hX h hl
  have C : Cx p s m _ meth c cX4_share 3 RX4 D cA := C
  obtain ⟨hx, hb, hml, hown, hts, hK, hlk⟩ := id C
  replace hl : lv_has ls 3 [(0, .ref (q0 0)), (1, .int x1)] := hl
  rw [f_X4_share] at hf
  refine lv_aload_n (pc := 0) hx hb dX4_share_0 rfl (lv_at hl 0 rfl) ?_
  refine lv_iload_n (pc := 1) hx hb dX4_share_1 rfl (lv_at hl 1 rfl) ?_
  rcases xbT hf with hc0 | ⟨z1, hc1, hf⟩
  · exact call_TV (pc := 2) (As := [.int x1]) (rest := []) (Qc := QF) C hl0 hex hX h (kT_X4_envelopeAt hn (q0 := q0) (q := q) σ0 x1 hc0) cw_X4_43 0 (sW_c0 ..) rfl (List.range 13) (sW_f ..) (by decide) rfl rfl hl.1 (Nat.le_of_ble_eq_true rfl) dX4_share_2 ⟨Nat.le_of_ble_eq_true rfl, Nat.le_of_ble_eq_true rfl⟩ rfl rfl ⟨Nat.le_of_ble_eq_true rfl, Nat.le_of_ble_eq_true rfl⟩
  · refine call_VRR (pc := 2) (As := [.int x1]) (rest := []) C h (k_X4_envelopeAt hn (q0 := q0) (q := q) σ0 x1 hc1) cw_X4_43 0 (sW_c0 ..) rfl (List.range 13) (sW_f ..) (by decide) rfl rfl hl.1 (Nat.le_of_ble_eq_true rfl) dX4_share_2 ⟨Nat.le_of_ble_eq_true rfl, Nat.le_of_ble_eq_true rfl⟩ rfl rfl ⟨Nat.le_of_ble_eq_true rfl, Nat.le_of_ble_eq_true rfl⟩ (fun H locs h => ?_)
    refine W.eq (g2 := F0 m 5 ls [.ref (q z1 0)]) rfl ?_
    have hk1 : z1 < n := envAt_lt hn hc1
    have h := SR_perm (foc_perm hk1 q0 q cA σ0 σ) h
    refine lv_astore_n (pc := 5) (lv' := [(2, .ref (q z1 0)), (0, .ref (q0 0)), (1, .int x1)]) hx hb dX4_share_5 rfl hl (by decide) rfl (fun ls hl => ?_)
    refine lv_aload_n (pc := 6) hx hb dX4_share_6 rfl (lv_at hl 0 rfl) ?_
    refine g_get (pc := 7) (v := .int ((σ z1) 10 0)) C h.1 13 (fkW_c13 ..) fl_X4_63 rfl dX4_share_7 ?_
    refine lv_if_ne (pc := 10) (tgt := 15) hx hb dX4_share_10 (by decide) (fun c9 => ?_) (fun c9 => ?_)
    · have hf := ifF c9 hf
      refine lv_aload_n (pc := 15) hx hb dX4_share_15 rfl (lv_at hl 0 rfl) ?_
      refine g_get (pc := 16) (v := .int ((σ z1) 15 0)) C h.1 13 (fkW_c13 ..) fl_X4_179 rfl dX4_share_16 ?_
      refine call_SRR (pc := 19) (As := [.int ((σ z1) 15 0)]) (rest := []) C h (k_J6_bitCount_0f7a4 ((σ z1) 15 0) rfl) cw_X4_74 [] rfl (by decide) rfl rfl hl.1 (Nat.le_of_ble_eq_true rfl) dX4_share_19 ⟨Nat.le_of_ble_eq_true rfl, Nat.le_of_ble_eq_true rfl⟩ rfl rfl ⟨Nat.le_of_ble_eq_true rfl, Nat.le_of_ble_eq_true rfl⟩ (fun H locs h => ?_)
      refine W.eq (g2 := F0 m 22 ls [.int (f_J6_bitCount_0f7a4 ((σ z1) 15 0))]) rfl ?_
      refine lv_i2f (pc := 22) hx hb dX4_share_22 ?_
      refine lv_aload_n (pc := 23) hx hb dX4_share_23 rfl (lv_at hl 0 rfl) ?_
      refine g_get (pc := 24) (v := .int ((σ z1) 10 0)) C h.1 13 (fkW_c13 ..) fl_X4_63 rfl dX4_share_24 ?_
      refine lv_i2f (pc := 27) hx hb dX4_share_27 ?_
      obtain ⟨hne, hf⟩ := ifS hf
      refine lv_fdiv (pc := 28) hx hb dX4_share_28 hne ?_
      cases hf
    · have hf := ifT c9 hf
      refine lv_fconst0 (pc := 13) hx hb dX4_share_13 ?_
      cases hf
end
