section
variable {p : Program} {l : Launch} {e : Env} {R : Room} {s : State} {m : MethodId} {args : Array Value} {below : List Frame} {meth : Method} {c : Code} {Q : State → Prop}
variable {D : va_G} {cA : Nat → ClassId} {A : Nat → Prop} {n : Nat} {q0 : Nat → Nat} {q : Nat → Nat → Nat}
abbrev rm_X4_ordersByAll : Room := { frames := 15, cells := 0, slots := 0, locals := 369 }
def f_X4_ordersByAll (n : Nat) (σ0 : (Nat → Nat → Int32)) (σ : (Nat → Nat → Nat → Int32)) (x1 : Int32) : Option (String ⊕ (Int32)) := (xb (f_X4_envelopeAt n x1) fun z1 => ((f_X4_countByTrying (σ z1) 12 (0 : Int32) (0 : Int32)).bind fun z2 => (some (.inr z2))))
set_option maxHeartbeats 400000 in
set_option maxRecDepth 100000 in
theorem k_X4_ordersByAll {n : Nat} (hn : n ≤ 6) {q0 : Nat → Nat} {q : Nat → Nat → Nat} {cA : Nat → ClassId} {D : va_G} (σ0 : (Nat → Nat → Int32)) (σ : (Nat → Nat → Nat → Int32)) (x1 : Int32) {z : Int32} (hf : f_X4_ordersByAll n σ0 σ x1 = some (.inr z)) : CtR yX4_ordersByAll cX4_ordersByAll 2 (some .int) rm_X4_ordersByAll [.ref (q0 0), .int x1] D cA (sW n q0 q cA σ0 σ) (some (.int z)) 0 0 := by
  refine ctR_of (by decide) (Nat.le_of_ble_eq_true rfl) ?_
  intro p l e s m below meth c ls C hr hnm h hl
  have C : Cx p s m _ meth c cX4_ordersByAll 2 RX4 D cA := C
  obtain ⟨hx, hb, hml, hown, hts, hK, hlk⟩ := id C
  replace hl : lv_has ls 2 [(0, .ref (q0 0)), (1, .int x1)] := hl
  rw [f_X4_ordersByAll] at hf
  refine lv_aload_n (pc := 0) hx hb dX4_ordersByAll_0 rfl (lv_at hl 0 rfl) ?_
  refine lv_iload_n (pc := 1) hx hb dX4_ordersByAll_1 rfl (lv_at hl 1 rfl) ?_
  obtain ⟨z1, hc1, hf⟩ := xbR hf
  refine call_VRR (pc := 2) (As := [.int x1]) (rest := []) C h (k_X4_envelopeAt hn (q0 := q0) (q := q) σ0 x1 hc1) cw_X4_43 0 (sW_c0 ..) rfl (List.range 13) (sW_f ..) (by decide) rfl rfl hl.1 (Nat.le_of_ble_eq_true rfl) dX4_ordersByAll_2 ⟨Nat.le_of_ble_eq_true rfl, Nat.le_of_ble_eq_true rfl⟩ rfl rfl ⟨Nat.le_of_ble_eq_true rfl, Nat.le_of_ble_eq_true rfl⟩ (fun H locs h => ?_)
  refine W.eq (g2 := F0 m 5 ls [.ref (q z1 0)]) rfl ?_
  have hk1 : z1 < n := envAt_lt hn hc1
  have h := SR_perm (foc_perm hk1 q0 q cA σ0 σ) h
  refine lv_iconst (pc := 5) (v := 0) hx hb dX4_ordersByAll_5 (by decide) ?_
  refine lv_iconst (pc := 6) (v := 0) hx hb dX4_ordersByAll_6 (by decide) ?_
  obtain ⟨z2, hc2, hf⟩ := bdS hf
  refine call_SRR (pc := 7) (As := [.ref (q z1 0), .int (0 : Int32), .int (0 : Int32)]) (rest := []) C h (k_X4_countByTrying (q := q z1) (σ z1) 12 (0 : Int32) (0 : Int32) _ hc2) cw_X4_192 [13, 14, 15, 16, 17, 18, 19, 20, 21, 22, 23, 24, 25, 26, 27, 28, 29, 30, 31, 32] (fkW_e ..) (by decide) rfl rfl hl.1 (Nat.le_of_ble_eq_true rfl) dX4_ordersByAll_7 ⟨Nat.le_of_ble_eq_true rfl, Nat.le_of_ble_eq_true rfl⟩ rfl rfl ⟨Nat.le_of_ble_eq_true rfl, Nat.le_of_ble_eq_true rfl⟩ (fun H locs h => ?_)
  refine W.eq (g2 := F0 m 10 ls [.int z2]) rfl ?_
  cases hf
  exact ret_iR (pc := 10) C hr h dX4_ordersByAll_10
abbrev rmT_X4_ordersByAll : Room := { frames := 15, cells := 1, slots := 6, locals := 369 }
set_option maxHeartbeats 400000 in
set_option maxRecDepth 100000 in
theorem kT_X4_ordersByAll {n : Nat} (hn : n ≤ 6) {q0 : Nat → Nat} {q : Nat → Nat → Nat} {cA : Nat → ClassId} {D : va_G} (σ0 : (Nat → Nat → Int32)) (σ : (Nat → Nat → Nat → Int32)) (x1 : Int32) {E : String} (hf : f_X4_ordersByAll n σ0 σ x1 = some (.inl E)) : CtT yX4_ordersByAll cX4_ordersByAll 2 (some .int) rmT_X4_ordersByAll [.ref (q0 0), .int x1] D cA (sW n q0 q cA σ0 σ) E := by
  refine ctT_of (by decide) (Nat.le_of_ble_eq_true rfl) ?_
  intro p l e s m below meth c ls hl0 C hex hX h hl
  have C : Cx p s m _ meth c cX4_ordersByAll 2 RX4 D cA := C
  obtain ⟨hx, hb, hml, hown, hts, hK, hlk⟩ := id C
  replace hl : lv_has ls 2 [(0, .ref (q0 0)), (1, .int x1)] := hl
  rw [f_X4_ordersByAll] at hf
  refine lv_aload_n (pc := 0) hx hb dX4_ordersByAll_0 rfl (lv_at hl 0 rfl) ?_
  refine lv_iload_n (pc := 1) hx hb dX4_ordersByAll_1 rfl (lv_at hl 1 rfl) ?_
  rcases xbT hf with hc0 | ⟨z1, hc1, hf⟩
  · exact call_TV (pc := 2) (As := [.int x1]) (rest := []) (Qc := QF) C hl0 hex hX h (kT_X4_envelopeAt hn (q0 := q0) (q := q) σ0 x1 hc0) cw_X4_43 0 (sW_c0 ..) rfl (List.range 13) (sW_f ..) (by decide) rfl rfl hl.1 (Nat.le_of_ble_eq_true rfl) dX4_ordersByAll_2 ⟨Nat.le_of_ble_eq_true rfl, Nat.le_of_ble_eq_true rfl⟩ rfl rfl ⟨Nat.le_of_ble_eq_true rfl, Nat.le_of_ble_eq_true rfl⟩
  · refine call_VRR (pc := 2) (As := [.int x1]) (rest := []) C h (k_X4_envelopeAt hn (q0 := q0) (q := q) σ0 x1 hc1) cw_X4_43 0 (sW_c0 ..) rfl (List.range 13) (sW_f ..) (by decide) rfl rfl hl.1 (Nat.le_of_ble_eq_true rfl) dX4_ordersByAll_2 ⟨Nat.le_of_ble_eq_true rfl, Nat.le_of_ble_eq_true rfl⟩ rfl rfl ⟨Nat.le_of_ble_eq_true rfl, Nat.le_of_ble_eq_true rfl⟩ (fun H locs h => ?_)
    refine W.eq (g2 := F0 m 5 ls [.ref (q z1 0)]) rfl ?_
    have hk1 : z1 < n := envAt_lt hn hc1
    have h := SR_perm (foc_perm hk1 q0 q cA σ0 σ) h
    refine lv_iconst (pc := 5) (v := 0) hx hb dX4_ordersByAll_5 (by decide) ?_
    refine lv_iconst (pc := 6) (v := 0) hx hb dX4_ordersByAll_6 (by decide) ?_
    obtain ⟨z2, hc2, hf⟩ := bdS hf
    refine call_SRR (pc := 7) (As := [.ref (q z1 0), .int (0 : Int32), .int (0 : Int32)]) (rest := []) C h (k_X4_countByTrying (q := q z1) (σ z1) 12 (0 : Int32) (0 : Int32) _ hc2) cw_X4_192 [13, 14, 15, 16, 17, 18, 19, 20, 21, 22, 23, 24, 25, 26, 27, 28, 29, 30, 31, 32] (fkW_e ..) (by decide) rfl rfl hl.1 (Nat.le_of_ble_eq_true rfl) dX4_ordersByAll_7 ⟨Nat.le_of_ble_eq_true rfl, Nat.le_of_ble_eq_true rfl⟩ rfl rfl ⟨Nat.le_of_ble_eq_true rfl, Nat.le_of_ble_eq_true rfl⟩ (fun H locs h => ?_)
    refine W.eq (g2 := F0 m 10 ls [.int z2]) rfl ?_
    cases hf
end
