theorem dL_people_0 : decode cL_people 0 = .ok (.iconst 0, 1) := by decide +kernel
theorem dL_people_1 : decode cL_people 1 = .ok (.istore_n 1, 1) := by decide +kernel
theorem dL_people_2 : decode cL_people 2 = .ok (.iload_n 1, 1) := by decide +kernel
theorem dL_people_3 : decode cL_people 3 = .ok (.bipush 8, 2) := by decide +kernel
theorem dL_people_5 : decode cL_people 5 = .ok (.if_icmp .ge 107, 3) := by decide +kernel
theorem dL_people_8 : decode cL_people 8 = .ok (.iconst 0, 1) := by decide +kernel
theorem dL_people_9 : decode cL_people 9 = .ok (.istore_n 2, 1) := by decide +kernel
theorem dL_people_10 : decode cL_people 10 = .ok (.iconst 0, 1) := by decide +kernel
theorem dL_people_11 : decode cL_people 11 = .ok (.istore_n 3, 1) := by decide +kernel
theorem dL_people_12 : decode cL_people 12 = .ok (.iload_n 3, 1) := by decide +kernel
theorem dL_people_13 : decode cL_people 13 = .ok (.aload_n 0, 1) := by decide +kernel
theorem dL_people_14 : decode cL_people 14 = .ok (.invokevirtual 133, 3) := by decide +kernel
theorem dL_people_17 : decode cL_people 17 = .ok (.if_icmp .ge 48, 3) := by decide +kernel
theorem dL_people_20 : decode cL_people 20 = .ok (.iconst 0, 1) := by decide +kernel
theorem dL_people_21 : decode cL_people 21 = .ok (.istore 4, 2) := by decide +kernel
theorem dL_people_23 : decode cL_people 23 = .ok (.iload 4, 2) := by decide +kernel
theorem dL_people_25 : decode cL_people 25 = .ok (.aload_n 0, 1) := by decide +kernel
theorem dL_people_26 : decode cL_people 26 = .ok (.iload_n 3, 1) := by decide +kernel
theorem dL_people_27 : decode cL_people 27 = .ok (.invokestatic 148, 3) := by decide +kernel
theorem dL_people_30 : decode cL_people 30 = .ok (.if_icmp .ge 29, 3) := by decide +kernel
theorem dL_people_33 : decode cL_people 33 = .ok (.iload_n 2, 1) := by decide +kernel
theorem dL_people_34 : decode cL_people 34 = .ok (.aload_n 0, 1) := by decide +kernel
theorem dL_people_35 : decode cL_people 35 = .ok (.iload_n 1, 1) := by decide +kernel
theorem dL_people_36 : decode cL_people 36 = .ok (.iload_n 3, 1) := by decide +kernel
theorem dL_people_37 : decode cL_people 37 = .ok (.iload 4, 2) := by decide +kernel
theorem dL_people_39 : decode cL_people 39 = .ok (.invokestatic 167, 3) := by decide +kernel
theorem dL_people_42 : decode cL_people 42 = .ok (.iconst 2, 1) := by decide +kernel
theorem dL_people_43 : decode cL_people 43 = .ok (.if_icmp .ge 7, 3) := by decide +kernel
theorem dL_people_46 : decode cL_people 46 = .ok (.iconst 1, 1) := by decide +kernel
theorem dL_people_47 : decode cL_people 47 = .ok (.goto 4, 3) := by decide +kernel
theorem dL_people_50 : decode cL_people 50 = .ok (.iconst 0, 1) := by decide +kernel
theorem dL_people_51 : decode cL_people 51 = .ok (.iadd, 1) := by decide +kernel
theorem dL_people_52 : decode cL_people 52 = .ok (.istore_n 2, 1) := by decide +kernel
theorem dL_people_53 : decode cL_people 53 = .ok (.iinc 4 1, 3) := by decide +kernel
theorem dL_people_56 : decode cL_people 56 = .ok (.goto (-33), 3) := by decide +kernel
theorem dL_people_59 : decode cL_people 59 = .ok (.iinc 3 1, 3) := by decide +kernel
theorem dL_people_62 : decode cL_people 62 = .ok (.goto (-50), 3) := by decide +kernel
theorem dL_people_65 : decode cL_people 65 = .ok (.aload_n 0, 1) := by decide +kernel
theorem dL_people_66 : decode cL_people 66 = .ok (.iload_n 1, 1) := by decide +kernel
theorem dL_people_67 : decode cL_people 67 = .ok (.invokestatic 154, 3) := by decide +kernel
theorem dL_people_70 : decode cL_people 70 = .ok (.istore_n 3, 1) := by decide +kernel
theorem dL_people_71 : decode cL_people 71 = .ok (.aload_n 0, 1) := by decide +kernel
theorem dL_people_72 : decode cL_people 72 = .ok (.iload_n 1, 1) := by decide +kernel
theorem dL_people_73 : decode cL_people 73 = .ok (.invokestatic 158, 3) := by decide +kernel
theorem dL_people_76 : decode cL_people 76 = .ok (.iload_n 2, 1) := by decide +kernel
theorem dL_people_77 : decode cL_people 77 = .ok (.if_icmp .ne 27, 3) := by decide +kernel
theorem dL_people_80 : decode cL_people 80 = .ok (.aload_n 0, 1) := by decide +kernel
theorem dL_people_81 : decode cL_people 81 = .ok (.iload_n 1, 1) := by decide +kernel
theorem dL_people_82 : decode cL_people 82 = .ok (.invokestatic 156, 3) := by decide +kernel
theorem dL_people_85 : decode cL_people 85 = .ok (.ifCond .lt 19, 3) := by decide +kernel
theorem dL_people_88 : decode cL_people 88 = .ok (.iload_n 3, 1) := by decide +kernel
theorem dL_people_89 : decode cL_people 89 = .ok (.iconst (-1), 1) := by decide +kernel
theorem dL_people_90 : decode cL_people 90 = .ok (.if_icmp .lt 14, 3) := by decide +kernel
theorem dL_people_93 : decode cL_people 93 = .ok (.iload_n 3, 1) := by decide +kernel
theorem dL_people_94 : decode cL_people 94 = .ok (.bipush 7, 2) := by decide +kernel
theorem dL_people_96 : decode cL_people 96 = .ok (.if_icmp .gt 8, 3) := by decide +kernel
theorem dL_people_99 : decode cL_people 99 = .ok (.iload_n 3, 1) := by decide +kernel
theorem dL_people_100 : decode cL_people 100 = .ok (.iload_n 1, 1) := by decide +kernel
theorem dL_people_101 : decode cL_people 101 = .ok (.if_icmp .ne 5, 3) := by decide +kernel
theorem dL_people_104 : decode cL_people 104 = .ok (.iconst 0, 1) := by decide +kernel
theorem dL_people_105 : decode cL_people 105 = .ok (.ireturn, 1) := by decide +kernel
theorem dL_people_106 : decode cL_people 106 = .ok (.iinc 1 1, 3) := by decide +kernel
theorem dL_people_109 : decode cL_people 109 = .ok (.goto (-107), 3) := by decide +kernel
theorem dL_people_112 : decode cL_people 112 = .ok (.aload_n 0, 1) := by decide +kernel
theorem dL_people_113 : decode cL_people 113 = .ok (.bipush 8, 2) := by decide +kernel
theorem dL_people_115 : decode cL_people 115 = .ok (.invokestatic 158, 3) := by decide +kernel
theorem dL_people_118 : decode cL_people 118 = .ok (.ldc 25, 2) := by decide +kernel
theorem dL_people_120 : decode cL_people 120 = .ok (.if_icmp .ne 28, 3) := by decide +kernel
theorem dL_people_123 : decode cL_people 123 = .ok (.aload_n 0, 1) := by decide +kernel
theorem dL_people_124 : decode cL_people 124 = .ok (.iconst (-1), 1) := by decide +kernel
theorem dL_people_125 : decode cL_people 125 = .ok (.invokestatic 154, 3) := by decide +kernel
theorem dL_people_128 : decode cL_people 128 = .ok (.ldc 25, 2) := by decide +kernel
theorem dL_people_130 : decode cL_people 130 = .ok (.if_icmp .ne 18, 3) := by decide +kernel
theorem dL_people_133 : decode cL_people 133 = .ok (.aload_n 0, 1) := by decide +kernel
theorem dL_people_134 : decode cL_people 134 = .ok (.bipush 8, 2) := by decide +kernel
theorem dL_people_136 : decode cL_people 136 = .ok (.invokestatic 156, 3) := by decide +kernel
theorem dL_people_139 : decode cL_people 139 = .ok (.ldc 25, 2) := by decide +kernel
theorem dL_people_141 : decode cL_people 141 = .ok (.if_icmp .ne 7, 3) := by decide +kernel
theorem dL_people_144 : decode cL_people 144 = .ok (.iconst 1, 1) := by decide +kernel
theorem dL_people_145 : decode cL_people 145 = .ok (.goto 4, 3) := by decide +kernel
theorem dL_people_148 : decode cL_people 148 = .ok (.iconst 0, 1) := by decide +kernel
theorem dL_people_149 : decode cL_people 149 = .ok (.ireturn, 1) := by decide +kernel
section
variable {p : Program} {l : Launch} {e : Env} {s : State} {m : MethodId} {args : Array Value} {below : List Frame} {meth : Method} {c : Code} {D : va_G} {cA : Nat → ClassId} {A : Nat → Prop} {q0 t0 : Nat → Nat} {q tq : Nat → Nat → Nat} {ab aw : Nat}
variable {Qf : Int32 → State → Prop}
abbrev rm_L_people : Room := { frames := 9, cells := 3, slots := 18, locals := 152 }
def f_L_people_112 (d : Dk)  : Option (Int32) := ((gm_toSign d (8 : Int32)).bind fun z1 => (if z1 = (-1000001 : Int32) then ((gm_delegateToday d (-1 : Int32)).bind fun z2 => (if z2 = (-1000001 : Int32) then ((gm_signedFor d (8 : Int32)).bind fun z3 => (if z3 = (-1000001 : Int32) then (some (1 : Int32)) else (some (0 : Int32)))) else (some (0 : Int32)))) else (some (0 : Int32))))
set_option maxHeartbeats 1000000 in
set_option maxRecDepth 100000 in
theorem jl_people_112  {d : Dk} (X : LCx p l s m args meth c cL_people 5 D cA A) (hE : ∀ (z : Int32) (pc : Nat) (H : Heap) (locs : List Loc) (ls : Array Slot) (cells slots : Nat), (z = 0 ∨ z = 1) → decode cL_people pc = .ok (.ireturn, 1) → cells ≤ 3 → slots ≤ 18 → St D A s.heap (kW q0 q cA d) H locs → W p l e rm_L_people s m args below meth c H locs cells slots (Qf z) (F0 m pc ls [.int z]))  (z : Int32) (hf : f_L_people_112 d  = some z) (H : Heap) (locs : List Loc) (ls : Array Slot) (h : St D A s.heap (kW q0 q cA d) H locs) (hl : lv_has ls 5 [(0, .ref (q0 0))]) : W p l e rm_L_people s m args below meth c H locs 0 0 (Qf z) (F0 m 112 ls []) := by
  obtain ⟨C, hl0, hXA, hN⟩ := id X
  obtain ⟨hx, hb, hml, hown, hts, hK, hlk⟩ := id C
  rw [f_L_people_112] at hf
  refine lv_aload_n (pc := 112) hx hb dL_people_112 rfl (lv_at hl 0 rfl) ?_
  refine lv_bipush (pc := 113) (v := 8) hx hb dL_people_113 (by decide) ?_
  obtain ⟨z1, hc1, hf⟩ := bdS hf
  refine call_H (pc := 115) (As := [.ref (q0 0), .int (8 : Int32)]) (rest := []) (ws' := (kW q0 q cA d)) X h (vm_toSign d (8 : Int32) hc1) cx_L_158 (kW_self q0 q cA d) (kW_self q0 q cA d).symm rfl rfl rfl hl.1 (Nat.le_of_ble_eq_true rfl) dL_people_115 ⟨(Nat.le_of_ble_eq_true rfl), (Nat.le_of_ble_eq_true rfl)⟩ rfl rfl ⟨(Nat.le_of_ble_eq_true rfl), (Nat.le_of_ble_eq_true rfl)⟩ (fun H locs h => ?_)
  refine W.eq (g2 := F0 m 118 ls [.int z1]) rfl ?_
  refine lv_ldc (pc := 118) (v := -1000001) hx hb hown (hts _ kc_L_25) dL_people_118 ?_
  refine lv_icmp_ne (pc := 120) (tgt := 148) hx hb dL_people_120 (by decide) (fun c9 => ?_) (fun c9 => ?_)
  · have hf := ifF c9 hf
    refine lv_iconst (pc := 148) (v := 0) hx hb dL_people_148 (by decide) ?_
    cases hf
    exact hE (0 : Int32) 149 _ _ _ _ _ (Or.inl rfl) dL_people_149 (Nat.le_of_ble_eq_true rfl) (Nat.le_of_ble_eq_true rfl) h
  · have hf := ifT c9 hf
    refine lv_aload_n (pc := 123) hx hb dL_people_123 rfl (lv_at hl 0 rfl) ?_
    refine lv_iconst (pc := 124) (v := -1) hx hb dL_people_124 (by decide) ?_
    obtain ⟨z2, hc2, hf⟩ := bdS hf
    refine call_H (pc := 125) (As := [.ref (q0 0), .int (-1 : Int32)]) (rest := []) (ws' := (kW q0 q cA d)) X h (vm_delegateToday d (-1 : Int32) hc2) cx_L_154 (kW_self q0 q cA d) (kW_self q0 q cA d).symm rfl rfl rfl hl.1 (Nat.le_of_ble_eq_true rfl) dL_people_125 ⟨(Nat.le_of_ble_eq_true rfl), (Nat.le_of_ble_eq_true rfl)⟩ rfl rfl ⟨(Nat.le_of_ble_eq_true rfl), (Nat.le_of_ble_eq_true rfl)⟩ (fun H locs h => ?_)
    refine W.eq (g2 := F0 m 128 ls [.int z2]) rfl ?_
    refine lv_ldc (pc := 128) (v := -1000001) hx hb hown (hts _ kc_L_25) dL_people_128 ?_
    refine lv_icmp_ne (pc := 130) (tgt := 148) hx hb dL_people_130 (by decide) (fun c9 => ?_) (fun c9 => ?_)
    · have hf := ifF c9 hf
      refine lv_iconst (pc := 148) (v := 0) hx hb dL_people_148 (by decide) ?_
      cases hf
      exact hE (0 : Int32) 149 _ _ _ _ _ (Or.inl rfl) dL_people_149 (Nat.le_of_ble_eq_true rfl) (Nat.le_of_ble_eq_true rfl) h
    · have hf := ifT c9 hf
      refine lv_aload_n (pc := 133) hx hb dL_people_133 rfl (lv_at hl 0 rfl) ?_
      refine lv_bipush (pc := 134) (v := 8) hx hb dL_people_134 (by decide) ?_
      obtain ⟨z3, hc3, hf⟩ := bdS hf
      refine call_H (pc := 136) (As := [.ref (q0 0), .int (8 : Int32)]) (rest := []) (ws' := (kW q0 q cA d)) X h (vm_signedFor d (8 : Int32) hc3) cx_L_156 (kW_self q0 q cA d) (kW_self q0 q cA d).symm rfl rfl rfl hl.1 (Nat.le_of_ble_eq_true rfl) dL_people_136 ⟨(Nat.le_of_ble_eq_true rfl), (Nat.le_of_ble_eq_true rfl)⟩ rfl rfl ⟨(Nat.le_of_ble_eq_true rfl), (Nat.le_of_ble_eq_true rfl)⟩ (fun H locs h => ?_)
      refine W.eq (g2 := F0 m 139 ls [.int z3]) rfl ?_
      refine lv_ldc (pc := 139) (v := -1000001) hx hb hown (hts _ kc_L_25) dL_people_139 ?_
      refine lv_icmp_ne (pc := 141) (tgt := 148) hx hb dL_people_141 (by decide) (fun c9 => ?_) (fun c9 => ?_)
      · have hf := ifF c9 hf
        refine lv_iconst (pc := 148) (v := 0) hx hb dL_people_148 (by decide) ?_
        cases hf
        exact hE (0 : Int32) 149 _ _ _ _ _ (Or.inl rfl) dL_people_149 (Nat.le_of_ble_eq_true rfl) (Nat.le_of_ble_eq_true rfl) h
      · have hf := ifT c9 hf
        refine lv_iconst (pc := 144) (v := 1) hx hb dL_people_144 (by decide) ?_
        refine lv_goto (pc := 145) (tgt := 149) hx hb dL_people_145 (by decide) ?_
        cases hf
        exact hE (1 : Int32) 149 _ _ _ _ _ (Or.inr rfl) dL_people_149 (Nat.le_of_ble_eq_true rfl) (Nat.le_of_ble_eq_true rfl) h
def f_L_people_65 (d : Dk) (r2 : Int32 → Option (Int32)) (x1 : Int32) (x2 : Int32) : Option (Int32) := ((gn_delegateToday d x1).bind fun z1 => ((gn_toSign d x1).bind fun z2 => (if z2 = x2 then ((gn_signedFor d x1).bind fun z3 => (if z3 < 0 then (some (0 : Int32)) else (if z1 < (-1 : Int32) then (some (0 : Int32)) else (if (7 : Int32) < z1 then (some (0 : Int32)) else (if z1 = x1 then (some (0 : Int32)) else (r2 (x1 + (1 : Int32)))))))) else (some (0 : Int32)))))
set_option maxHeartbeats 1000000 in
set_option maxRecDepth 100000 in
theorem jl_people_65  {d : Dk} (X : LCx p l s m args meth c cL_people 5 D cA A) (hE : ∀ (z : Int32) (pc : Nat) (H : Heap) (locs : List Loc) (ls : Array Slot) (cells slots : Nat), (z = 0 ∨ z = 1) → decode cL_people pc = .ok (.ireturn, 1) → cells ≤ 3 → slots ≤ 18 → St D A s.heap (kW q0 q cA d) H locs → W p l e rm_L_people s m args below meth c H locs cells slots (Qf z) (F0 m pc ls [.int z])) (r2 : Int32 → Option (Int32)) (hr2 : ∀ (x1 : Int32) (z : Int32), r2 x1 = some z → ∀ (H : Heap) (locs : List Loc) (ls : Array Slot), St D A s.heap (kW q0 q cA d) H locs → lv_has ls 5 [(0, .ref (q0 0)), (1, .int x1)] → W p l e rm_L_people s m args below meth c H locs 0 0 (Qf z) (F0 m 2 ls [])) (x1 : Int32) (x2 : Int32) (z : Int32) (hf : f_L_people_65 d r2 x1 x2 = some z) (H : Heap) (locs : List Loc) (ls : Array Slot) (h : St D A s.heap (kW q0 q cA d) H locs) (hl : lv_has ls 5 [(0, .ref (q0 0)), (1, .int x1), (2, .int x2)]) : W p l e rm_L_people s m args below meth c H locs 0 0 (Qf z) (F0 m 65 ls []) := by
  obtain ⟨C, hl0, hXA, hN⟩ := id X
  obtain ⟨hx, hb, hml, hown, hts, hK, hlk⟩ := id C
  rw [f_L_people_65] at hf
  refine lv_aload_n (pc := 65) hx hb dL_people_65 rfl (lv_at hl 0 rfl) ?_
  refine lv_iload_n (pc := 66) hx hb dL_people_66 rfl (lv_at hl 1 rfl) ?_
  obtain ⟨z1, hc1, hf⟩ := bdS hf
  refine call_H (pc := 67) (As := [.ref (q0 0), .int x1]) (rest := []) (ws' := (kW q0 q cA d)) X h (vn_delegateToday d x1 hc1) cx_L_154 (kW_self q0 q cA d) (kW_self q0 q cA d).symm rfl rfl rfl hl.1 (Nat.le_of_ble_eq_true rfl) dL_people_67 ⟨(Nat.le_of_ble_eq_true rfl), (Nat.le_of_ble_eq_true rfl)⟩ rfl rfl ⟨(Nat.le_of_ble_eq_true rfl), (Nat.le_of_ble_eq_true rfl)⟩ (fun H locs h => ?_)
  refine W.eq (g2 := F0 m 70 ls [.int z1]) rfl ?_
  refine lv_istore_n (pc := 70) (lv' := [(3, .int z1), (0, .ref (q0 0)), (1, .int x1), (2, .int x2)]) hx hb dL_people_70 rfl hl (by decide) rfl (fun ls hl => ?_)
  refine lv_aload_n (pc := 71) hx hb dL_people_71 rfl (lv_at hl 1 rfl) ?_
  refine lv_iload_n (pc := 72) hx hb dL_people_72 rfl (lv_at hl 2 rfl) ?_
  obtain ⟨z2, hc2, hf⟩ := bdS hf
  refine call_H (pc := 73) (As := [.ref (q0 0), .int x1]) (rest := []) (ws' := (kW q0 q cA d)) X h (vn_toSign d x1 hc2) cx_L_158 (kW_self q0 q cA d) (kW_self q0 q cA d).symm rfl rfl rfl hl.1 (Nat.le_of_ble_eq_true rfl) dL_people_73 ⟨(Nat.le_of_ble_eq_true rfl), (Nat.le_of_ble_eq_true rfl)⟩ rfl rfl ⟨(Nat.le_of_ble_eq_true rfl), (Nat.le_of_ble_eq_true rfl)⟩ (fun H locs h => ?_)
  refine W.eq (g2 := F0 m 76 ls [.int z2]) rfl ?_
  refine lv_iload_n (pc := 76) hx hb dL_people_76 rfl (lv_at hl 3 rfl) ?_
  refine lv_icmp_ne (pc := 77) (tgt := 104) hx hb dL_people_77 (by decide) (fun c9 => ?_) (fun c9 => ?_)
  · have hf := ifF c9 hf
    refine lv_iconst (pc := 104) (v := 0) hx hb dL_people_104 (by decide) ?_
    cases hf
    exact hE (0 : Int32) 105 _ _ _ _ _ (Or.inl rfl) dL_people_105 (Nat.le_of_ble_eq_true rfl) (Nat.le_of_ble_eq_true rfl) h
  · have hf := ifT c9 hf
    refine lv_aload_n (pc := 80) hx hb dL_people_80 rfl (lv_at hl 1 rfl) ?_
    refine lv_iload_n (pc := 81) hx hb dL_people_81 rfl (lv_at hl 2 rfl) ?_
    obtain ⟨z3, hc3, hf⟩ := bdS hf
    refine call_H (pc := 82) (As := [.ref (q0 0), .int x1]) (rest := []) (ws' := (kW q0 q cA d)) X h (vn_signedFor d x1 hc3) cx_L_156 (kW_self q0 q cA d) (kW_self q0 q cA d).symm rfl rfl rfl hl.1 (Nat.le_of_ble_eq_true rfl) dL_people_82 ⟨(Nat.le_of_ble_eq_true rfl), (Nat.le_of_ble_eq_true rfl)⟩ rfl rfl ⟨(Nat.le_of_ble_eq_true rfl), (Nat.le_of_ble_eq_true rfl)⟩ (fun H locs h => ?_)
    refine W.eq (g2 := F0 m 85 ls [.int z3]) rfl ?_
    refine lv_if_lt (pc := 85) (tgt := 104) hx hb dL_people_85 (by decide) (fun c9 => ?_) (fun c9 => ?_)
    · have hf := ifT c9 hf
      refine lv_iconst (pc := 104) (v := 0) hx hb dL_people_104 (by decide) ?_
      cases hf
      exact hE (0 : Int32) 105 _ _ _ _ _ (Or.inl rfl) dL_people_105 (Nat.le_of_ble_eq_true rfl) (Nat.le_of_ble_eq_true rfl) h
    · have hf := ifF c9 hf
      refine lv_iload_n (pc := 88) hx hb dL_people_88 rfl (lv_at hl 0 rfl) ?_
      refine lv_iconst (pc := 89) (v := -1) hx hb dL_people_89 (by decide) ?_
      refine lv_icmp_lt (pc := 90) (tgt := 104) hx hb dL_people_90 (by decide) (fun c9 => ?_) (fun c9 => ?_)
      · have hf := ifT c9 hf
        refine lv_iconst (pc := 104) (v := 0) hx hb dL_people_104 (by decide) ?_
        cases hf
        exact hE (0 : Int32) 105 _ _ _ _ _ (Or.inl rfl) dL_people_105 (Nat.le_of_ble_eq_true rfl) (Nat.le_of_ble_eq_true rfl) h
      · have hf := ifF c9 hf
        refine lv_iload_n (pc := 93) hx hb dL_people_93 rfl (lv_at hl 0 rfl) ?_
        refine lv_bipush (pc := 94) (v := 7) hx hb dL_people_94 (by decide) ?_
        refine lv_icmp_gt (pc := 96) (tgt := 104) hx hb dL_people_96 (by decide) (fun c9 => ?_) (fun c9 => ?_)
        · have hf := ifT c9 hf
          refine lv_iconst (pc := 104) (v := 0) hx hb dL_people_104 (by decide) ?_
          cases hf
          exact hE (0 : Int32) 105 _ _ _ _ _ (Or.inl rfl) dL_people_105 (Nat.le_of_ble_eq_true rfl) (Nat.le_of_ble_eq_true rfl) h
        · have hf := ifF c9 hf
          refine lv_iload_n (pc := 99) hx hb dL_people_99 rfl (lv_at hl 0 rfl) ?_
          refine lv_iload_n (pc := 100) hx hb dL_people_100 rfl (lv_at hl 2 rfl) ?_
          refine lv_icmp_ne (pc := 101) (tgt := 106) hx hb dL_people_101 (by decide) (fun c9 => ?_) (fun c9 => ?_)
          · have hf := ifF c9 hf
            refine lv_iinc (pc := 106) (v := (x1 + (1 : Int32))) (lv' := [(1, .int (x1 + (1 : Int32))), (3, .int z1), (0, .ref (q0 0)), (2, .int x2)]) hx hb dL_people_106 hl (k := 2) rfl rfl (by decide) rfl (fun ls hl => ?_)
            refine lv_goto (pc := 109) (tgt := 2) hx hb dL_people_109 (by decide) ?_
            exact hr2 _ _ hf _ _ _ h (lv_sub hl [2, 0] rfl)
          · have hf := ifT c9 hf
            refine lv_iconst (pc := 104) (v := 0) hx hb dL_people_104 (by decide) ?_
            cases hf
            exact hE (0 : Int32) 105 _ _ _ _ _ (Or.inl rfl) dL_people_105 (Nat.le_of_ble_eq_true rfl) (Nat.le_of_ble_eq_true rfl) h
def f_L_people_23 (d : Dk) (r2 : Int32 → Option (Int32)) (r12 : Int32 → Int32 → Int32 → Option (Int32)) : Nat → Int32 → Int32 → Int32 → Int32 → Option (Int32)
  | 0, _, _, _, _ => none
  | n + 1, x1, x2, x3, x4 => ((gn_slots d x3).bind fun z1 => (if z1 ≤ x4 then (r12 x1 x2 (x3 + (1 : Int32))) else ((gn_whyNot d x1 x3 x4).bind fun z2 => (if (2 : Int32) ≤ z2 then ((f_L_people_23 d r2 r12 n) x1 (x2 + (0 : Int32)) x3 (x4 + (1 : Int32))) else ((f_L_people_23 d r2 r12 n) x1 (x2 + (1 : Int32)) x3 (x4 + (1 : Int32)))))))
set_option maxHeartbeats 1000000 in
set_option maxRecDepth 100000 in
theorem jl_people_23  {d : Dk} (X : LCx p l s m args meth c cL_people 5 D cA A) (hE : ∀ (z : Int32) (pc : Nat) (H : Heap) (locs : List Loc) (ls : Array Slot) (cells slots : Nat), (z = 0 ∨ z = 1) → decode cL_people pc = .ok (.ireturn, 1) → cells ≤ 3 → slots ≤ 18 → St D A s.heap (kW q0 q cA d) H locs → W p l e rm_L_people s m args below meth c H locs cells slots (Qf z) (F0 m pc ls [.int z])) (r2 : Int32 → Option (Int32)) (r12 : Int32 → Int32 → Int32 → Option (Int32)) (hr2 : ∀ (x1 : Int32) (z : Int32), r2 x1 = some z → ∀ (H : Heap) (locs : List Loc) (ls : Array Slot), St D A s.heap (kW q0 q cA d) H locs → lv_has ls 5 [(0, .ref (q0 0)), (1, .int x1)] → W p l e rm_L_people s m args below meth c H locs 0 0 (Qf z) (F0 m 2 ls [])) (hr12 : ∀ (x1 : Int32) (x2 : Int32) (x3 : Int32) (z : Int32), r12 x1 x2 x3 = some z → ∀ (H : Heap) (locs : List Loc) (ls : Array Slot), St D A s.heap (kW q0 q cA d) H locs → lv_has ls 5 [(0, .ref (q0 0)), (1, .int x1), (2, .int x2), (3, .int x3)] → W p l e rm_L_people s m args below meth c H locs 0 0 (Qf z) (F0 m 12 ls [])) : ∀ (n : Nat) (x1 : Int32) (x2 : Int32) (x3 : Int32) (x4 : Int32) (z : Int32), f_L_people_23 d r2 r12 n x1 x2 x3 x4 = some z → ∀ (H : Heap) (locs : List Loc) (ls : Array Slot), St D A s.heap (kW q0 q cA d) H locs → lv_has ls 5 [(0, .ref (q0 0)), (1, .int x1), (2, .int x2), (3, .int x3), (4, .int x4)] → W p l e rm_L_people s m args below meth c H locs 0 0 (Qf z) (F0 m 23 ls []) := by
  obtain ⟨C, hl0, hXA, hN⟩ := id X
  obtain ⟨hx, hb, hml, hown, hts, hK, hlk⟩ := id C
  intro n
  induction n with
  | zero => intro x1 x2 x3 x4 z hf; rw [f_L_people_23] at hf; cases hf
  | succ n ih =>
    intro x1 x2 x3 x4 z hf H locs ls h hl
    rw [f_L_people_23] at hf
    refine lv_iload (pc := 23) hx hb dL_people_23 (lv_at hl 4 rfl) ?_
    refine lv_aload_n (pc := 25) hx hb dL_people_25 rfl (lv_at hl 0 rfl) ?_
    refine lv_iload_n (pc := 26) hx hb dL_people_26 rfl (lv_at hl 3 rfl) ?_
    obtain ⟨z1, hc1, hf⟩ := bdS hf
    refine call_H (pc := 27) (As := [.ref (q0 0), .int x3]) (rest := [.int x4]) (ws' := (kW q0 q cA d)) X h (vn_slots d x3 hc1) cx_L_148 (kW_self q0 q cA d) (kW_self q0 q cA d).symm rfl rfl rfl hl.1 (Nat.le_of_ble_eq_true rfl) dL_people_27 ⟨(Nat.le_of_ble_eq_true rfl), (Nat.le_of_ble_eq_true rfl)⟩ rfl rfl ⟨(Nat.le_of_ble_eq_true rfl), (Nat.le_of_ble_eq_true rfl)⟩ (fun H locs h => ?_)
    refine W.eq (g2 := F0 m 30 ls [.int z1, .int x4]) rfl ?_
    refine lv_icmp_ge (pc := 30) (tgt := 59) hx hb dL_people_30 (by decide) (fun c9 => ?_) (fun c9 => ?_)
    · have hf := ifT c9 hf
      refine lv_iinc (pc := 59) (v := (x3 + (1 : Int32))) (lv' := [(3, .int (x3 + (1 : Int32))), (0, .ref (q0 0)), (1, .int x1), (2, .int x2), (4, .int x4)]) hx hb dL_people_59 hl (k := 3) rfl rfl (by decide) rfl (fun ls hl => ?_)
      refine lv_goto (pc := 62) (tgt := 12) hx hb dL_people_62 (by decide) ?_
      exact hr12 _ _ _ _ hf _ _ _ h (lv_sub hl [1, 2, 3, 0] rfl)
    · have hf := ifF c9 hf
      refine lv_iload_n (pc := 33) hx hb dL_people_33 rfl (lv_at hl 2 rfl) ?_
      refine lv_aload_n (pc := 34) hx hb dL_people_34 rfl (lv_at hl 0 rfl) ?_
      refine lv_iload_n (pc := 35) hx hb dL_people_35 rfl (lv_at hl 1 rfl) ?_
      refine lv_iload_n (pc := 36) hx hb dL_people_36 rfl (lv_at hl 3 rfl) ?_
      refine lv_iload (pc := 37) hx hb dL_people_37 (lv_at hl 4 rfl) ?_
      obtain ⟨z2, hc2, hf⟩ := bdS hf
      refine call_H (pc := 39) (As := [.ref (q0 0), .int x1, .int x3, .int x4]) (rest := [.int x2]) (ws' := (kW q0 q cA d)) X h (vn_whyNot d x1 x3 x4 hc2) cx_L_167 (kW_self q0 q cA d) (kW_self q0 q cA d).symm rfl rfl rfl hl.1 (Nat.le_of_ble_eq_true rfl) dL_people_39 ⟨(Nat.le_of_ble_eq_true rfl), (Nat.le_of_ble_eq_true rfl)⟩ rfl rfl ⟨(Nat.le_of_ble_eq_true rfl), (Nat.le_of_ble_eq_true rfl)⟩ (fun H locs h => ?_)
      refine W.eq (g2 := F0 m 42 ls [.int z2, .int x2]) rfl ?_
      refine lv_iconst (pc := 42) (v := 2) hx hb dL_people_42 (by decide) ?_
      refine lv_icmp_ge (pc := 43) (tgt := 50) hx hb dL_people_43 (by decide) (fun c9 => ?_) (fun c9 => ?_)
      · have hf := ifT c9 hf
        refine lv_iconst (pc := 50) (v := 0) hx hb dL_people_50 (by decide) ?_
        refine lv_iadd (pc := 51) hx hb dL_people_51 ?_
        refine lv_istore_n (pc := 52) (lv' := [(2, .int (x2 + (0 : Int32))), (0, .ref (q0 0)), (1, .int x1), (3, .int x3), (4, .int x4)]) hx hb dL_people_52 rfl hl (by decide) rfl (fun ls hl => ?_)
        refine lv_iinc (pc := 53) (v := (x4 + (1 : Int32))) (lv' := [(4, .int (x4 + (1 : Int32))), (2, .int (x2 + (0 : Int32))), (0, .ref (q0 0)), (1, .int x1), (3, .int x3)]) hx hb dL_people_53 hl (k := 4) rfl rfl (by decide) rfl (fun ls hl => ?_)
        refine lv_goto (pc := 56) (tgt := 23) hx hb dL_people_56 (by decide) ?_
        exact ih _ _ _ _ _ hf _ _ _ h (lv_sub hl [2, 3, 1, 4, 0] rfl)
      · have hf := ifF c9 hf
        refine lv_iconst (pc := 46) (v := 1) hx hb dL_people_46 (by decide) ?_
        refine lv_goto (pc := 47) (tgt := 51) hx hb dL_people_47 (by decide) ?_
        refine lv_iadd (pc := 51) hx hb dL_people_51 ?_
        refine lv_istore_n (pc := 52) (lv' := [(2, .int (x2 + (1 : Int32))), (0, .ref (q0 0)), (1, .int x1), (3, .int x3), (4, .int x4)]) hx hb dL_people_52 rfl hl (by decide) rfl (fun ls hl => ?_)
        refine lv_iinc (pc := 53) (v := (x4 + (1 : Int32))) (lv' := [(4, .int (x4 + (1 : Int32))), (2, .int (x2 + (1 : Int32))), (0, .ref (q0 0)), (1, .int x1), (3, .int x3)]) hx hb dL_people_53 hl (k := 4) rfl rfl (by decide) rfl (fun ls hl => ?_)
        refine lv_goto (pc := 56) (tgt := 23) hx hb dL_people_56 (by decide) ?_
        exact ih _ _ _ _ _ hf _ _ _ h (lv_sub hl [2, 3, 1, 4, 0] rfl)
def f_L_people_12 (d : Dk) (r2 : Int32 → Option (Int32)) : Nat → Int32 → Int32 → Int32 → Option (Int32)
  | 0, _, _, _ => none
  | n + 1, x1, x2, x3 => ((gn_envelopes d).bind fun z1 => (if z1 ≤ x3 then (f_L_people_65 d r2 x1 x2) else (f_L_people_23 d r2 (f_L_people_12 d r2 n) FU x1 x2 x3 (0 : Int32))))
set_option maxHeartbeats 1000000 in
set_option maxRecDepth 100000 in
theorem jl_people_12  {d : Dk} (X : LCx p l s m args meth c cL_people 5 D cA A) (hE : ∀ (z : Int32) (pc : Nat) (H : Heap) (locs : List Loc) (ls : Array Slot) (cells slots : Nat), (z = 0 ∨ z = 1) → decode cL_people pc = .ok (.ireturn, 1) → cells ≤ 3 → slots ≤ 18 → St D A s.heap (kW q0 q cA d) H locs → W p l e rm_L_people s m args below meth c H locs cells slots (Qf z) (F0 m pc ls [.int z])) (r2 : Int32 → Option (Int32)) (hr2 : ∀ (x1 : Int32) (z : Int32), r2 x1 = some z → ∀ (H : Heap) (locs : List Loc) (ls : Array Slot), St D A s.heap (kW q0 q cA d) H locs → lv_has ls 5 [(0, .ref (q0 0)), (1, .int x1)] → W p l e rm_L_people s m args below meth c H locs 0 0 (Qf z) (F0 m 2 ls [])) : ∀ (n : Nat) (x1 : Int32) (x2 : Int32) (x3 : Int32) (z : Int32), f_L_people_12 d r2 n x1 x2 x3 = some z → ∀ (H : Heap) (locs : List Loc) (ls : Array Slot), St D A s.heap (kW q0 q cA d) H locs → lv_has ls 5 [(0, .ref (q0 0)), (1, .int x1), (2, .int x2), (3, .int x3)] → W p l e rm_L_people s m args below meth c H locs 0 0 (Qf z) (F0 m 12 ls []) := by
  obtain ⟨C, hl0, hXA, hN⟩ := id X
  obtain ⟨hx, hb, hml, hown, hts, hK, hlk⟩ := id C
  intro n
  induction n with
  | zero => intro x1 x2 x3 z hf; rw [f_L_people_12] at hf; cases hf
  | succ n ih =>
    intro x1 x2 x3 z hf H locs ls h hl
    rw [f_L_people_12] at hf
    refine lv_iload_n (pc := 12) hx hb dL_people_12 rfl (lv_at hl 3 rfl) ?_
    refine lv_aload_n (pc := 13) hx hb dL_people_13 rfl (lv_at hl 0 rfl) ?_
    obtain ⟨z1, hc1, hf⟩ := bdS hf
    obtain ⟨hn1, hv1⟩ := gn_envelopes_s hc1
    refine call_VRp (pc := 14) (rest := [.int x3]) (As := []) C h (k_X4_envelopes hn1 (q0 := q0) (q := q) d.2.1 d.2.2 hv1) cw_L_133 (kW_c0 q0 q cA d) rfl (kW_self ..) rfl rfl hl.1 (Nat.le_of_ble_eq_true rfl) dL_people_14 ⟨(Nat.le_of_ble_eq_true rfl), (Nat.le_of_ble_eq_true rfl)⟩ rfl rfl ⟨(Nat.le_of_ble_eq_true rfl), (Nat.le_of_ble_eq_true rfl)⟩ (fun H locs h => ?_)
    refine W.eq (g2 := F0 m 17 ls [.int z1, .int x3]) rfl ?_
    refine lv_icmp_ge (pc := 17) (tgt := 65) hx hb dL_people_17 (by decide) (fun c9 => ?_) (fun c9 => ?_)
    · have hf := ifT c9 hf
      exact jl_people_65 X hE _ (hr2) _ _ _ hf _ _ _ h (lv_sub hl [0, 1, 2] rfl)
    · have hf := ifF c9 hf
      refine lv_iconst (pc := 20) (v := 0) hx hb dL_people_20 (by decide) ?_
      refine lv_istore (pc := 21) (lv' := [(4, .int (0 : Int32)), (0, .ref (q0 0)), (1, .int x1), (2, .int x2), (3, .int x3)]) hx hb dL_people_21 hl (by decide) rfl (fun ls hl => ?_)
      exact jl_people_23 X hE _ _ (hr2) (ih) FU _ _ _ _ _ hf _ _ _ h (lv_sub hl [1, 2, 3, 4, 0] rfl)
def f_L_people_2 (d : Dk) : Nat → Int32 → Option (Int32)
  | 0, _ => none
  | n + 1, x1 => (if (8 : Int32) ≤ x1 then (f_L_people_112 d) else (f_L_people_12 d (f_L_people_2 d n) FU x1 (0 : Int32) (0 : Int32)))
set_option maxHeartbeats 1000000 in
set_option maxRecDepth 100000 in
theorem jl_people_2  {d : Dk} (X : LCx p l s m args meth c cL_people 5 D cA A) (hE : ∀ (z : Int32) (pc : Nat) (H : Heap) (locs : List Loc) (ls : Array Slot) (cells slots : Nat), (z = 0 ∨ z = 1) → decode cL_people pc = .ok (.ireturn, 1) → cells ≤ 3 → slots ≤ 18 → St D A s.heap (kW q0 q cA d) H locs → W p l e rm_L_people s m args below meth c H locs cells slots (Qf z) (F0 m pc ls [.int z])) : ∀ (n : Nat) (x1 : Int32) (z : Int32), f_L_people_2 d n x1 = some z → ∀ (H : Heap) (locs : List Loc) (ls : Array Slot), St D A s.heap (kW q0 q cA d) H locs → lv_has ls 5 [(0, .ref (q0 0)), (1, .int x1)] → W p l e rm_L_people s m args below meth c H locs 0 0 (Qf z) (F0 m 2 ls []) := by
  obtain ⟨C, hl0, hXA, hN⟩ := id X
  obtain ⟨hx, hb, hml, hown, hts, hK, hlk⟩ := id C
  intro n
  induction n with
  | zero => intro x1 z hf; rw [f_L_people_2] at hf; cases hf
  | succ n ih =>
    intro x1 z hf H locs ls h hl
    rw [f_L_people_2] at hf
    refine lv_iload_n (pc := 2) hx hb dL_people_2 rfl (lv_at hl 1 rfl) ?_
    refine lv_bipush (pc := 3) (v := 8) hx hb dL_people_3 (by decide) ?_
    refine lv_icmp_ge (pc := 5) (tgt := 112) hx hb dL_people_5 (by decide) (fun c9 => ?_) (fun c9 => ?_)
    · have hf := ifT c9 hf
      exact jl_people_112 X hE    _ hf _ _ _ h (lv_sub hl [0] rfl)
    · have hf := ifF c9 hf
      refine lv_iconst (pc := 8) (v := 0) hx hb dL_people_8 (by decide) ?_
      refine lv_istore_n (pc := 9) (lv' := [(2, .int (0 : Int32)), (0, .ref (q0 0)), (1, .int x1)]) hx hb dL_people_9 rfl hl (by decide) rfl (fun ls hl => ?_)
      refine lv_iconst (pc := 10) (v := 0) hx hb dL_people_10 (by decide) ?_
      refine lv_istore_n (pc := 11) (lv' := [(3, .int (0 : Int32)), (2, .int (0 : Int32)), (0, .ref (q0 0)), (1, .int x1)]) hx hb dL_people_11 rfl hl (by decide) rfl (fun ls hl => ?_)
      exact jl_people_12 X hE _ (ih) FU _ _ _ _ hf _ _ _ h (lv_sub hl [2, 3, 1, 0] rfl)
def f_L_people (d : Dk)  : Option (Int32) := (f_L_people_2 d FU (0 : Int32))
set_option maxHeartbeats 1000000 in
set_option maxRecDepth 100000 in
theorem jl_people_0  {d : Dk} (X : LCx p l s m args meth c cL_people 5 D cA A) (hE : ∀ (z : Int32) (pc : Nat) (H : Heap) (locs : List Loc) (ls : Array Slot) (cells slots : Nat), (z = 0 ∨ z = 1) → decode cL_people pc = .ok (.ireturn, 1) → cells ≤ 3 → slots ≤ 18 → St D A s.heap (kW q0 q cA d) H locs → W p l e rm_L_people s m args below meth c H locs cells slots (Qf z) (F0 m pc ls [.int z]))  (z : Int32) (hf : f_L_people d  = some z) (H : Heap) (locs : List Loc) (ls : Array Slot) (h : St D A s.heap (kW q0 q cA d) H locs) (hl : lv_has ls 5 [(0, .ref (q0 0))]) : W p l e rm_L_people s m args below meth c H locs 0 0 (Qf z) (F0 m 0 ls []) := by
  obtain ⟨C, hl0, hXA, hN⟩ := id X
  obtain ⟨hx, hb, hml, hown, hts, hK, hlk⟩ := id C
  rw [f_L_people] at hf
  refine lv_iconst (pc := 0) (v := 0) hx hb dL_people_0 (by decide) ?_
  refine lv_istore_n (pc := 1) (lv' := [(1, .int (0 : Int32)), (0, .ref (q0 0))]) hx hb dL_people_1 rfl hl (by decide) rfl (fun ls hl => ?_)
  exact jl_people_2 X hE   FU _ _ hf _ _ _ h (lv_sub hl [1, 0] rfl)
set_option maxRecDepth 100000 in
theorem k_L_people {q0 : Nat → Nat} {q : Nat → Nat → Nat} {cA : Nat → ClassId} {D : va_G} (d : Dk) {z : Int32} (hf : f_L_people d = some z) : CtV yL_people (.code yL_people cL_people 5 (some .boolean)) rm_L_people [.ref (q0 0)] D cA (kW q0 q cA d) (kW q0 q cA d) (.int z) 3 18 := by
  refine vxL_of (Qc := fun sz => PostU D (kW q0 q cA d) (kW q0 q cA d) sz (some (.int z))) (by decide) (Nat.le_of_ble_eq_true rfl) rfl ?_
  intro p l e s m below meth c ls C hr h hl
  exact jl_people_0 (Qf := fun z => vx_MQ below (PostU D (kW q0 q cA d) (kW q0 q cA d) s.heap.size (some (.int z))) XN _ s 3 18 (va_A (kW q0 q cA d) s.heap.size)) C (fun z pc H locs ls cells slots hbo hd hc hs h => end_z C.1 hr hbo hc hs h hd)  _ hf _ _ _ h (lv_sub hl [0] rfl)
end
