theorem dL_print_0 : decode cL_print 0 = .ok (.ldc2_w 128, 3) := by decide +kernel
theorem dL_print_3 : decode cL_print 3 = .ok (.aload_n 0, 1) := by decide +kernel
theorem dL_print_4 : decode cL_print 4 = .ok (.invokevirtual 130, 3) := by decide +kernel
theorem dL_print_7 : decode cL_print 7 = .ok (.i2l, 1) := by decide +kernel
theorem dL_print_8 : decode cL_print 8 = .ok (.lmul, 1) := by decide +kernel
theorem dL_print_9 : decode cL_print 9 = .ok (.aload_n 0, 1) := by decide +kernel
theorem dL_print_10 : decode cL_print 10 = .ok (.invokevirtual 133, 3) := by decide +kernel
theorem dL_print_13 : decode cL_print 13 = .ok (.i2l, 1) := by decide +kernel
theorem dL_print_14 : decode cL_print 14 = .ok (.ladd, 1) := by decide +kernel
theorem dL_print_15 : decode cL_print 15 = .ok (.lstore_n 1, 1) := by decide +kernel
theorem dL_print_16 : decode cL_print 16 = .ok (.iconst 0, 1) := by decide +kernel
theorem dL_print_17 : decode cL_print 17 = .ok (.istore_n 3, 1) := by decide +kernel
theorem dL_print_18 : decode cL_print 18 = .ok (.iload_n 3, 1) := by decide +kernel
theorem dL_print_19 : decode cL_print 19 = .ok (.aload_n 0, 1) := by decide +kernel
theorem dL_print_20 : decode cL_print 20 = .ok (.invokevirtual 133, 3) := by decide +kernel
theorem dL_print_23 : decode cL_print 23 = .ok (.if_icmp .ge 96, 3) := by decide +kernel
theorem dL_print_26 : decode cL_print 26 = .ok (.ldc2_w 128, 3) := by decide +kernel
theorem dL_print_29 : decode cL_print 29 = .ok (.ldc2_w 128, 3) := by decide +kernel
theorem dL_print_32 : decode cL_print 32 = .ok (.ldc2_w 128, 3) := by decide +kernel
theorem dL_print_35 : decode cL_print 35 = .ok (.lload_n 1, 1) := by decide +kernel
theorem dL_print_36 : decode cL_print 36 = .ok (.lmul, 1) := by decide +kernel
theorem dL_print_37 : decode cL_print 37 = .ok (.aload_n 0, 1) := by decide +kernel
theorem dL_print_38 : decode cL_print 38 = .ok (.iload_n 3, 1) := by decide +kernel
theorem dL_print_39 : decode cL_print 39 = .ok (.invokestatic 136, 3) := by decide +kernel
theorem dL_print_42 : decode cL_print 42 = .ok (.i2l, 1) := by decide +kernel
theorem dL_print_43 : decode cL_print 43 = .ok (.ladd, 1) := by decide +kernel
theorem dL_print_44 : decode cL_print 44 = .ok (.lmul, 1) := by decide +kernel
theorem dL_print_45 : decode cL_print 45 = .ok (.aload_n 0, 1) := by decide +kernel
theorem dL_print_46 : decode cL_print 46 = .ok (.iload_n 3, 1) := by decide +kernel
theorem dL_print_47 : decode cL_print 47 = .ok (.aload_n 0, 1) := by decide +kernel
theorem dL_print_48 : decode cL_print 48 = .ok (.iload_n 3, 1) := by decide +kernel
theorem dL_print_49 : decode cL_print 49 = .ok (.invokestatic 141, 3) := by decide +kernel
theorem dL_print_52 : decode cL_print 52 = .ok (.invokestatic 143, 3) := by decide +kernel
theorem dL_print_55 : decode cL_print 55 = .ok (.i2l, 1) := by decide +kernel
theorem dL_print_56 : decode cL_print 56 = .ok (.ladd, 1) := by decide +kernel
theorem dL_print_57 : decode cL_print 57 = .ok (.lmul, 1) := by decide +kernel
theorem dL_print_58 : decode cL_print 58 = .ok (.aload_n 0, 1) := by decide +kernel
theorem dL_print_59 : decode cL_print 59 = .ok (.iload_n 3, 1) := by decide +kernel
theorem dL_print_60 : decode cL_print 60 = .ok (.invokestatic 146, 3) := by decide +kernel
theorem dL_print_63 : decode cL_print 63 = .ok (.i2l, 1) := by decide +kernel
theorem dL_print_64 : decode cL_print 64 = .ok (.ladd, 1) := by decide +kernel
theorem dL_print_65 : decode cL_print 65 = .ok (.lstore_n 1, 1) := by decide +kernel
theorem dL_print_66 : decode cL_print 66 = .ok (.iconst 0, 1) := by decide +kernel
theorem dL_print_67 : decode cL_print 67 = .ok (.istore 4, 2) := by decide +kernel
theorem dL_print_69 : decode cL_print 69 = .ok (.iload 4, 2) := by decide +kernel
theorem dL_print_71 : decode cL_print 71 = .ok (.aload_n 0, 1) := by decide +kernel
theorem dL_print_72 : decode cL_print 72 = .ok (.iload_n 3, 1) := by decide +kernel
theorem dL_print_73 : decode cL_print 73 = .ok (.invokestatic 148, 3) := by decide +kernel
theorem dL_print_76 : decode cL_print 76 = .ok (.if_icmp .ge 37, 3) := by decide +kernel
theorem dL_print_79 : decode cL_print 79 = .ok (.ldc2_w 128, 3) := by decide +kernel
theorem dL_print_82 : decode cL_print 82 = .ok (.ldc2_w 128, 3) := by decide +kernel
theorem dL_print_85 : decode cL_print 85 = .ok (.lload_n 1, 1) := by decide +kernel
theorem dL_print_86 : decode cL_print 86 = .ok (.lmul, 1) := by decide +kernel
theorem dL_print_87 : decode cL_print 87 = .ok (.aload_n 0, 1) := by decide +kernel
theorem dL_print_88 : decode cL_print 88 = .ok (.iload_n 3, 1) := by decide +kernel
theorem dL_print_89 : decode cL_print 89 = .ok (.iload 4, 2) := by decide +kernel
theorem dL_print_91 : decode cL_print 91 = .ok (.invokestatic 150, 3) := by decide +kernel
theorem dL_print_94 : decode cL_print 94 = .ok (.i2l, 1) := by decide +kernel
theorem dL_print_95 : decode cL_print 95 = .ok (.ladd, 1) := by decide +kernel
theorem dL_print_96 : decode cL_print 96 = .ok (.lmul, 1) := by decide +kernel
theorem dL_print_97 : decode cL_print 97 = .ok (.aload_n 0, 1) := by decide +kernel
theorem dL_print_98 : decode cL_print 98 = .ok (.iload_n 3, 1) := by decide +kernel
theorem dL_print_99 : decode cL_print 99 = .ok (.iload 4, 2) := by decide +kernel
theorem dL_print_101 : decode cL_print 101 = .ok (.invokestatic 152, 3) := by decide +kernel
theorem dL_print_104 : decode cL_print 104 = .ok (.i2l, 1) := by decide +kernel
theorem dL_print_105 : decode cL_print 105 = .ok (.ladd, 1) := by decide +kernel
theorem dL_print_106 : decode cL_print 106 = .ok (.lstore_n 1, 1) := by decide +kernel
theorem dL_print_107 : decode cL_print 107 = .ok (.iinc 4 1, 3) := by decide +kernel
theorem dL_print_110 : decode cL_print 110 = .ok (.goto (-41), 3) := by decide +kernel
theorem dL_print_113 : decode cL_print 113 = .ok (.iinc 3 1, 3) := by decide +kernel
theorem dL_print_116 : decode cL_print 116 = .ok (.goto (-98), 3) := by decide +kernel
theorem dL_print_119 : decode cL_print 119 = .ok (.iconst 0, 1) := by decide +kernel
theorem dL_print_120 : decode cL_print 120 = .ok (.istore_n 3, 1) := by decide +kernel
theorem dL_print_121 : decode cL_print 121 = .ok (.iload_n 3, 1) := by decide +kernel
theorem dL_print_122 : decode cL_print 122 = .ok (.bipush 8, 2) := by decide +kernel
theorem dL_print_124 : decode cL_print 124 = .ok (.if_icmp .ge 44, 3) := by decide +kernel
theorem dL_print_127 : decode cL_print 127 = .ok (.ldc2_w 128, 3) := by decide +kernel
theorem dL_print_130 : decode cL_print 130 = .ok (.ldc2_w 128, 3) := by decide +kernel
theorem dL_print_133 : decode cL_print 133 = .ok (.ldc2_w 128, 3) := by decide +kernel
theorem dL_print_136 : decode cL_print 136 = .ok (.lload_n 1, 1) := by decide +kernel
theorem dL_print_137 : decode cL_print 137 = .ok (.lmul, 1) := by decide +kernel
theorem dL_print_138 : decode cL_print 138 = .ok (.aload_n 0, 1) := by decide +kernel
theorem dL_print_139 : decode cL_print 139 = .ok (.iload_n 3, 1) := by decide +kernel
theorem dL_print_140 : decode cL_print 140 = .ok (.invokestatic 154, 3) := by decide +kernel
theorem dL_print_143 : decode cL_print 143 = .ok (.i2l, 1) := by decide +kernel
theorem dL_print_144 : decode cL_print 144 = .ok (.ladd, 1) := by decide +kernel
theorem dL_print_145 : decode cL_print 145 = .ok (.lmul, 1) := by decide +kernel
theorem dL_print_146 : decode cL_print 146 = .ok (.aload_n 0, 1) := by decide +kernel
theorem dL_print_147 : decode cL_print 147 = .ok (.iload_n 3, 1) := by decide +kernel
theorem dL_print_148 : decode cL_print 148 = .ok (.invokestatic 156, 3) := by decide +kernel
theorem dL_print_151 : decode cL_print 151 = .ok (.i2l, 1) := by decide +kernel
theorem dL_print_152 : decode cL_print 152 = .ok (.ladd, 1) := by decide +kernel
theorem dL_print_153 : decode cL_print 153 = .ok (.lmul, 1) := by decide +kernel
theorem dL_print_154 : decode cL_print 154 = .ok (.aload_n 0, 1) := by decide +kernel
theorem dL_print_155 : decode cL_print 155 = .ok (.iload_n 3, 1) := by decide +kernel
theorem dL_print_156 : decode cL_print 156 = .ok (.invokestatic 158, 3) := by decide +kernel
theorem dL_print_159 : decode cL_print 159 = .ok (.i2l, 1) := by decide +kernel
theorem dL_print_160 : decode cL_print 160 = .ok (.ladd, 1) := by decide +kernel
theorem dL_print_161 : decode cL_print 161 = .ok (.lstore_n 1, 1) := by decide +kernel
theorem dL_print_162 : decode cL_print 162 = .ok (.iinc 3 1, 3) := by decide +kernel
theorem dL_print_165 : decode cL_print 165 = .ok (.goto (-44), 3) := by decide +kernel
theorem dL_print_168 : decode cL_print 168 = .ok (.lload_n 1, 1) := by decide +kernel
theorem dL_print_169 : decode cL_print 169 = .ok (.lreturn, 1) := by decide +kernel
section
variable {p : Program} {l : Launch} {e : Env} {s : State} {m : MethodId} {args : Array Value} {below : List Frame} {meth : Method} {c : Code} {D : va_G} {cA : Nat → ClassId} {A : Nat → Prop} {q0 t0 : Nat → Nat} {q tq : Nat → Nat → Nat} {ab aw : Nat}
variable {Qf : Int64 → State → Prop}
abbrev rm_L_print : Room := { frames := 9, cells := 0, slots := 0, locals := 152 }
def f_L_print_121 (d : Dk) : Nat → Int64 → Int32 → Option (Int64)
  | 0, _, _ => none
  | n + 1, x1, x3 => (if (8 : Int32) ≤ x3 then (some x1) else ((gn_delegateToday d x3).bind fun z1 => ((gn_signedFor d x3).bind fun z2 => ((gn_toSign d x3).bind fun z3 => ((f_L_print_121 d n) (((41 : Int64) * (((41 : Int64) * (((41 : Int64) * x1) + z1.toInt64)) + z2.toInt64)) + z3.toInt64) (x3 + (1 : Int32)))))))
set_option maxHeartbeats 1000000 in
set_option maxRecDepth 100000 in
theorem jl_print_121  {d : Dk} (X : LCx p l s m args meth c cL_print 5 D cA A) (hE : ∀ (z : Int64) (pc : Nat) (H : Heap) (locs : List Loc) (ls : Array Slot) (cells slots : Nat), decode cL_print pc = .ok (.lreturn, 1) → cells ≤ 0 → slots ≤ 0 → St D A s.heap (kW q0 q cA d) H locs → W p l e rm_L_print s m args below meth c H locs cells slots (Qf z) (F0 m pc ls [.long z])) : ∀ (n : Nat) (x1 : Int64) (x3 : Int32) (z : Int64), f_L_print_121 d n x1 x3 = some z → ∀ (H : Heap) (locs : List Loc) (ls : Array Slot), St D A s.heap (kW q0 q cA d) H locs → lv_has ls 5 [(0, .ref (q0 0)), (1, .long x1), (3, .int x3)] → W p l e rm_L_print s m args below meth c H locs 0 0 (Qf z) (F0 m 121 ls []) := by
  obtain ⟨C, hl0, hXA, hN⟩ := id X
  obtain ⟨hx, hb, hml, hown, hts, hK, hlk⟩ := id C
  intro n
  induction n with
  | zero => intro x1 x3 z hf; rw [f_L_print_121] at hf; cases hf
  | succ n ih =>
    intro x1 x3 z hf H locs ls h hl
    rw [f_L_print_121] at hf
    refine lv_iload_n (pc := 121) hx hb dL_print_121 rfl (lv_at hl 2 rfl) ?_
    refine lv_bipush (pc := 122) (v := 8) hx hb dL_print_122 (by decide) ?_
    refine lv_icmp_ge (pc := 124) (tgt := 168) hx hb dL_print_124 (by decide) (fun c9 => ?_) (fun c9 => ?_)
    · have hf := ifT c9 hf
      refine lv_lload_n (pc := 168) hx hb dL_print_168 rfl (lv_at hl 1 rfl) ?_
      cases hf
      exact hE x1 169 _ _ _ _ _ dL_print_169 (Nat.le_of_ble_eq_true rfl) (Nat.le_of_ble_eq_true rfl) h
    · have hf := ifF c9 hf
      refine lv_ldc2 (pc := 127) (v := 41) hx hb hown (hts _ kl_L_128) dL_print_127 ?_
      refine lv_ldc2 (pc := 130) (v := 41) hx hb hown (hts _ kl_L_128) dL_print_130 ?_
      refine lv_ldc2 (pc := 133) (v := 41) hx hb hown (hts _ kl_L_128) dL_print_133 ?_
      refine lv_lload_n (pc := 136) hx hb dL_print_136 rfl (lv_at hl 1 rfl) ?_
      refine lv_lmul (pc := 137) hx hb dL_print_137 ?_
      refine lv_aload_n (pc := 138) hx hb dL_print_138 rfl (lv_at hl 0 rfl) ?_
      refine lv_iload_n (pc := 139) hx hb dL_print_139 rfl (lv_at hl 2 rfl) ?_
      obtain ⟨z1, hc1, hf⟩ := bdS hf
      refine call_H (pc := 140) (As := [.ref (q0 0), .int x3]) (rest := [.long ((41 : Int64) * x1), .long (41 : Int64), .long (41 : Int64)]) (ws' := (kW q0 q cA d)) X h (vn_delegateToday d x3 hc1) cx_L_154 (kW_self q0 q cA d) (kW_self q0 q cA d).symm rfl rfl rfl hl.1 (Nat.le_of_ble_eq_true rfl) dL_print_140 ⟨(Nat.le_of_ble_eq_true rfl), (Nat.le_of_ble_eq_true rfl)⟩ rfl rfl ⟨(Nat.le_of_ble_eq_true rfl), (Nat.le_of_ble_eq_true rfl)⟩ (fun H locs h => ?_)
      refine W.eq (g2 := F0 m 143 ls [.int z1, .long ((41 : Int64) * x1), .long (41 : Int64), .long (41 : Int64)]) rfl ?_
      refine lv_i2l (pc := 143) (v := z1.toInt64) hx hb dL_print_143 rfl ?_
      refine lv_ladd (pc := 144) hx hb dL_print_144 ?_
      refine lv_lmul (pc := 145) hx hb dL_print_145 ?_
      refine lv_aload_n (pc := 146) hx hb dL_print_146 rfl (lv_at hl 0 rfl) ?_
      refine lv_iload_n (pc := 147) hx hb dL_print_147 rfl (lv_at hl 2 rfl) ?_
      obtain ⟨z2, hc2, hf⟩ := bdS hf
      refine call_H (pc := 148) (As := [.ref (q0 0), .int x3]) (rest := [.long ((41 : Int64) * (((41 : Int64) * x1) + z1.toInt64)), .long (41 : Int64)]) (ws' := (kW q0 q cA d)) X h (vn_signedFor d x3 hc2) cx_L_156 (kW_self q0 q cA d) (kW_self q0 q cA d).symm rfl rfl rfl hl.1 (Nat.le_of_ble_eq_true rfl) dL_print_148 ⟨(Nat.le_of_ble_eq_true rfl), (Nat.le_of_ble_eq_true rfl)⟩ rfl rfl ⟨(Nat.le_of_ble_eq_true rfl), (Nat.le_of_ble_eq_true rfl)⟩ (fun H locs h => ?_)
      refine W.eq (g2 := F0 m 151 ls [.int z2, .long ((41 : Int64) * (((41 : Int64) * x1) + z1.toInt64)), .long (41 : Int64)]) rfl ?_
      refine lv_i2l (pc := 151) (v := z2.toInt64) hx hb dL_print_151 rfl ?_
      refine lv_ladd (pc := 152) hx hb dL_print_152 ?_
      refine lv_lmul (pc := 153) hx hb dL_print_153 ?_
      refine lv_aload_n (pc := 154) hx hb dL_print_154 rfl (lv_at hl 0 rfl) ?_
      refine lv_iload_n (pc := 155) hx hb dL_print_155 rfl (lv_at hl 2 rfl) ?_
      obtain ⟨z3, hc3, hf⟩ := bdS hf
      refine call_H (pc := 156) (As := [.ref (q0 0), .int x3]) (rest := [.long ((41 : Int64) * (((41 : Int64) * (((41 : Int64) * x1) + z1.toInt64)) + z2.toInt64))]) (ws' := (kW q0 q cA d)) X h (vn_toSign d x3 hc3) cx_L_158 (kW_self q0 q cA d) (kW_self q0 q cA d).symm rfl rfl rfl hl.1 (Nat.le_of_ble_eq_true rfl) dL_print_156 ⟨(Nat.le_of_ble_eq_true rfl), (Nat.le_of_ble_eq_true rfl)⟩ rfl rfl ⟨(Nat.le_of_ble_eq_true rfl), (Nat.le_of_ble_eq_true rfl)⟩ (fun H locs h => ?_)
      refine W.eq (g2 := F0 m 159 ls [.int z3, .long ((41 : Int64) * (((41 : Int64) * (((41 : Int64) * x1) + z1.toInt64)) + z2.toInt64))]) rfl ?_
      refine lv_i2l (pc := 159) (v := z3.toInt64) hx hb dL_print_159 rfl ?_
      refine lv_ladd (pc := 160) hx hb dL_print_160 ?_
      refine lv_lstore_n (pc := 161) (lv' := [(1, .long (((41 : Int64) * (((41 : Int64) * (((41 : Int64) * x1) + z1.toInt64)) + z2.toInt64)) + z3.toInt64)), (0, .ref (q0 0)), (3, .int x3)]) hx hb dL_print_161 rfl hl (by decide) rfl (fun ls hl => ?_)
      refine lv_iinc (pc := 162) (v := (x3 + (1 : Int32))) (lv' := [(3, .int (x3 + (1 : Int32))), (1, .long (((41 : Int64) * (((41 : Int64) * (((41 : Int64) * x1) + z1.toInt64)) + z2.toInt64)) + z3.toInt64)), (0, .ref (q0 0))]) hx hb dL_print_162 hl (k := 2) rfl rfl (by decide) rfl (fun ls hl => ?_)
      refine lv_goto (pc := 165) (tgt := 121) hx hb dL_print_165 (by decide) ?_
      exact ih _ _ _ hf _ _ _ h (lv_sub hl [2, 1, 0] rfl)
def f_L_print_119 (d : Dk) (x1 : Int64) : Option (Int64) := (f_L_print_121 d FU x1 (0 : Int32))
set_option maxHeartbeats 1000000 in
set_option maxRecDepth 100000 in
theorem jl_print_119  {d : Dk} (X : LCx p l s m args meth c cL_print 5 D cA A) (hE : ∀ (z : Int64) (pc : Nat) (H : Heap) (locs : List Loc) (ls : Array Slot) (cells slots : Nat), decode cL_print pc = .ok (.lreturn, 1) → cells ≤ 0 → slots ≤ 0 → St D A s.heap (kW q0 q cA d) H locs → W p l e rm_L_print s m args below meth c H locs cells slots (Qf z) (F0 m pc ls [.long z])) (x1 : Int64) (z : Int64) (hf : f_L_print_119 d x1 = some z) (H : Heap) (locs : List Loc) (ls : Array Slot) (h : St D A s.heap (kW q0 q cA d) H locs) (hl : lv_has ls 5 [(0, .ref (q0 0)), (1, .long x1)]) : W p l e rm_L_print s m args below meth c H locs 0 0 (Qf z) (F0 m 119 ls []) := by
  obtain ⟨C, hl0, hXA, hN⟩ := id X
  obtain ⟨hx, hb, hml, hown, hts, hK, hlk⟩ := id C
  rw [f_L_print_119] at hf
  refine lv_iconst (pc := 119) (v := 0) hx hb dL_print_119 (by decide) ?_
  refine lv_istore_n (pc := 120) (lv' := [(3, .int (0 : Int32)), (0, .ref (q0 0)), (1, .long x1)]) hx hb dL_print_120 rfl hl (by decide) rfl (fun ls hl => ?_)
  exact jl_print_121 X hE   FU _ _ _ hf _ _ _ h (lv_sub hl [1, 2, 0] rfl)
def f_L_print_69 (d : Dk) (r18 : Int64 → Int32 → Option (Int64)) : Nat → Int64 → Int32 → Int32 → Option (Int64)
  | 0, _, _, _ => none
  | n + 1, x1, x3, x4 => ((gn_slots d x3).bind fun z1 => (if z1 ≤ x4 then (r18 x1 (x3 + (1 : Int32))) else ((gn_slotState d x3 x4).bind fun z2 => ((gn_missing d x3 x4).bind fun z3 => ((f_L_print_69 d r18 n) (((41 : Int64) * (((41 : Int64) * x1) + z2.toInt64)) + z3.toInt64) x3 (x4 + (1 : Int32)))))))
set_option maxHeartbeats 1000000 in
set_option maxRecDepth 100000 in
theorem jl_print_69  {d : Dk} (X : LCx p l s m args meth c cL_print 5 D cA A) (hE : ∀ (z : Int64) (pc : Nat) (H : Heap) (locs : List Loc) (ls : Array Slot) (cells slots : Nat), decode cL_print pc = .ok (.lreturn, 1) → cells ≤ 0 → slots ≤ 0 → St D A s.heap (kW q0 q cA d) H locs → W p l e rm_L_print s m args below meth c H locs cells slots (Qf z) (F0 m pc ls [.long z])) (r18 : Int64 → Int32 → Option (Int64)) (hr18 : ∀ (x1 : Int64) (x3 : Int32) (z : Int64), r18 x1 x3 = some z → ∀ (H : Heap) (locs : List Loc) (ls : Array Slot), St D A s.heap (kW q0 q cA d) H locs → lv_has ls 5 [(0, .ref (q0 0)), (1, .long x1), (3, .int x3)] → W p l e rm_L_print s m args below meth c H locs 0 0 (Qf z) (F0 m 18 ls [])) : ∀ (n : Nat) (x1 : Int64) (x3 : Int32) (x4 : Int32) (z : Int64), f_L_print_69 d r18 n x1 x3 x4 = some z → ∀ (H : Heap) (locs : List Loc) (ls : Array Slot), St D A s.heap (kW q0 q cA d) H locs → lv_has ls 5 [(0, .ref (q0 0)), (1, .long x1), (3, .int x3), (4, .int x4)] → W p l e rm_L_print s m args below meth c H locs 0 0 (Qf z) (F0 m 69 ls []) := by
  obtain ⟨C, hl0, hXA, hN⟩ := id X
  obtain ⟨hx, hb, hml, hown, hts, hK, hlk⟩ := id C
  intro n
  induction n with
  | zero => intro x1 x3 x4 z hf; rw [f_L_print_69] at hf; cases hf
  | succ n ih =>
    intro x1 x3 x4 z hf H locs ls h hl
    rw [f_L_print_69] at hf
    refine lv_iload (pc := 69) hx hb dL_print_69 (lv_at hl 3 rfl) ?_
    refine lv_aload_n (pc := 71) hx hb dL_print_71 rfl (lv_at hl 0 rfl) ?_
    refine lv_iload_n (pc := 72) hx hb dL_print_72 rfl (lv_at hl 2 rfl) ?_
    obtain ⟨z1, hc1, hf⟩ := bdS hf
    refine call_H (pc := 73) (As := [.ref (q0 0), .int x3]) (rest := [.int x4]) (ws' := (kW q0 q cA d)) X h (vn_slots d x3 hc1) cx_L_148 (kW_self q0 q cA d) (kW_self q0 q cA d).symm rfl rfl rfl hl.1 (Nat.le_of_ble_eq_true rfl) dL_print_73 ⟨(Nat.le_of_ble_eq_true rfl), (Nat.le_of_ble_eq_true rfl)⟩ rfl rfl ⟨(Nat.le_of_ble_eq_true rfl), (Nat.le_of_ble_eq_true rfl)⟩ (fun H locs h => ?_)
    refine W.eq (g2 := F0 m 76 ls [.int z1, .int x4]) rfl ?_
    refine lv_icmp_ge (pc := 76) (tgt := 113) hx hb dL_print_76 (by decide) (fun c9 => ?_) (fun c9 => ?_)
    · have hf := ifT c9 hf
      refine lv_iinc (pc := 113) (v := (x3 + (1 : Int32))) (lv' := [(3, .int (x3 + (1 : Int32))), (0, .ref (q0 0)), (1, .long x1), (4, .int x4)]) hx hb dL_print_113 hl (k := 2) rfl rfl (by decide) rfl (fun ls hl => ?_)
      refine lv_goto (pc := 116) (tgt := 18) hx hb dL_print_116 (by decide) ?_
      exact hr18 _ _ _ hf _ _ _ h (lv_sub hl [1, 2, 0] rfl)
    · have hf := ifF c9 hf
      refine lv_ldc2 (pc := 79) (v := 41) hx hb hown (hts _ kl_L_128) dL_print_79 ?_
      refine lv_ldc2 (pc := 82) (v := 41) hx hb hown (hts _ kl_L_128) dL_print_82 ?_
      refine lv_lload_n (pc := 85) hx hb dL_print_85 rfl (lv_at hl 1 rfl) ?_
      refine lv_lmul (pc := 86) hx hb dL_print_86 ?_
      refine lv_aload_n (pc := 87) hx hb dL_print_87 rfl (lv_at hl 0 rfl) ?_
      refine lv_iload_n (pc := 88) hx hb dL_print_88 rfl (lv_at hl 2 rfl) ?_
      refine lv_iload (pc := 89) hx hb dL_print_89 (lv_at hl 3 rfl) ?_
      obtain ⟨z2, hc2, hf⟩ := bdS hf
      refine call_H (pc := 91) (As := [.ref (q0 0), .int x3, .int x4]) (rest := [.long ((41 : Int64) * x1), .long (41 : Int64)]) (ws' := (kW q0 q cA d)) X h (vn_slotState d x3 x4 hc2) cx_L_150 (kW_self q0 q cA d) (kW_self q0 q cA d).symm rfl rfl rfl hl.1 (Nat.le_of_ble_eq_true rfl) dL_print_91 ⟨(Nat.le_of_ble_eq_true rfl), (Nat.le_of_ble_eq_true rfl)⟩ rfl rfl ⟨(Nat.le_of_ble_eq_true rfl), (Nat.le_of_ble_eq_true rfl)⟩ (fun H locs h => ?_)
      refine W.eq (g2 := F0 m 94 ls [.int z2, .long ((41 : Int64) * x1), .long (41 : Int64)]) rfl ?_
      refine lv_i2l (pc := 94) (v := z2.toInt64) hx hb dL_print_94 rfl ?_
      refine lv_ladd (pc := 95) hx hb dL_print_95 ?_
      refine lv_lmul (pc := 96) hx hb dL_print_96 ?_
      refine lv_aload_n (pc := 97) hx hb dL_print_97 rfl (lv_at hl 0 rfl) ?_
      refine lv_iload_n (pc := 98) hx hb dL_print_98 rfl (lv_at hl 2 rfl) ?_
      refine lv_iload (pc := 99) hx hb dL_print_99 (lv_at hl 3 rfl) ?_
      obtain ⟨z3, hc3, hf⟩ := bdS hf
      refine call_H (pc := 101) (As := [.ref (q0 0), .int x3, .int x4]) (rest := [.long ((41 : Int64) * (((41 : Int64) * x1) + z2.toInt64))]) (ws' := (kW q0 q cA d)) X h (vn_missing d x3 x4 hc3) cx_L_152 (kW_self q0 q cA d) (kW_self q0 q cA d).symm rfl rfl rfl hl.1 (Nat.le_of_ble_eq_true rfl) dL_print_101 ⟨(Nat.le_of_ble_eq_true rfl), (Nat.le_of_ble_eq_true rfl)⟩ rfl rfl ⟨(Nat.le_of_ble_eq_true rfl), (Nat.le_of_ble_eq_true rfl)⟩ (fun H locs h => ?_)
      refine W.eq (g2 := F0 m 104 ls [.int z3, .long ((41 : Int64) * (((41 : Int64) * x1) + z2.toInt64))]) rfl ?_
      refine lv_i2l (pc := 104) (v := z3.toInt64) hx hb dL_print_104 rfl ?_
      refine lv_ladd (pc := 105) hx hb dL_print_105 ?_
      refine lv_lstore_n (pc := 106) (lv' := [(1, .long (((41 : Int64) * (((41 : Int64) * x1) + z2.toInt64)) + z3.toInt64)), (0, .ref (q0 0)), (3, .int x3), (4, .int x4)]) hx hb dL_print_106 rfl hl (by decide) rfl (fun ls hl => ?_)
      refine lv_iinc (pc := 107) (v := (x4 + (1 : Int32))) (lv' := [(4, .int (x4 + (1 : Int32))), (1, .long (((41 : Int64) * (((41 : Int64) * x1) + z2.toInt64)) + z3.toInt64)), (0, .ref (q0 0)), (3, .int x3)]) hx hb dL_print_107 hl (k := 3) rfl rfl (by decide) rfl (fun ls hl => ?_)
      refine lv_goto (pc := 110) (tgt := 69) hx hb dL_print_110 (by decide) ?_
      exact ih _ _ _ _ hf _ _ _ h (lv_sub hl [2, 1, 3, 0] rfl)
def f_L_print_18 (d : Dk) : Nat → Int64 → Int32 → Option (Int64)
  | 0, _, _ => none
  | n + 1, x1, x3 => ((gn_envelopes d).bind fun z1 => (if z1 ≤ x3 then (f_L_print_119 d x1) else ((gn_state d x3).bind fun z2 => ((gn_events d x3).bind fun z3 => ((gn_seal d x3 z3).bind fun z4 => ((gn_nextReminder d x3).bind fun z5 => (f_L_print_69 d (f_L_print_18 d n) FU (((41 : Int64) * (((41 : Int64) * (((41 : Int64) * x1) + z2.toInt64)) + z4.toInt64)) + z5.toInt64) x3 (0 : Int32))))))))
set_option maxHeartbeats 1000000 in
set_option maxRecDepth 100000 in
theorem jl_print_18  {d : Dk} (X : LCx p l s m args meth c cL_print 5 D cA A) (hE : ∀ (z : Int64) (pc : Nat) (H : Heap) (locs : List Loc) (ls : Array Slot) (cells slots : Nat), decode cL_print pc = .ok (.lreturn, 1) → cells ≤ 0 → slots ≤ 0 → St D A s.heap (kW q0 q cA d) H locs → W p l e rm_L_print s m args below meth c H locs cells slots (Qf z) (F0 m pc ls [.long z])) : ∀ (n : Nat) (x1 : Int64) (x3 : Int32) (z : Int64), f_L_print_18 d n x1 x3 = some z → ∀ (H : Heap) (locs : List Loc) (ls : Array Slot), St D A s.heap (kW q0 q cA d) H locs → lv_has ls 5 [(0, .ref (q0 0)), (1, .long x1), (3, .int x3)] → W p l e rm_L_print s m args below meth c H locs 0 0 (Qf z) (F0 m 18 ls []) := by
  obtain ⟨C, hl0, hXA, hN⟩ := id X
  obtain ⟨hx, hb, hml, hown, hts, hK, hlk⟩ := id C
  intro n
  induction n with
  | zero => intro x1 x3 z hf; rw [f_L_print_18] at hf; cases hf
  | succ n ih =>
    intro x1 x3 z hf H locs ls h hl
    rw [f_L_print_18] at hf
    refine lv_iload_n (pc := 18) hx hb dL_print_18 rfl (lv_at hl 2 rfl) ?_
    refine lv_aload_n (pc := 19) hx hb dL_print_19 rfl (lv_at hl 0 rfl) ?_
    obtain ⟨z1, hc1, hf⟩ := bdS hf
    obtain ⟨hn1, hv1⟩ := gn_envelopes_s hc1
    refine call_VRp (pc := 20) (rest := [.int x3]) (As := []) C h (k_X4_envelopes hn1 (q0 := q0) (q := q) d.2.1 d.2.2 hv1) cw_L_133 (kW_c0 q0 q cA d) rfl (kW_self ..) rfl rfl hl.1 (Nat.le_of_ble_eq_true rfl) dL_print_20 ⟨(Nat.le_of_ble_eq_true rfl), (Nat.le_of_ble_eq_true rfl)⟩ rfl rfl ⟨(Nat.le_of_ble_eq_true rfl), (Nat.le_of_ble_eq_true rfl)⟩ (fun H locs h => ?_)
    refine W.eq (g2 := F0 m 23 ls [.int z1, .int x3]) rfl ?_
    refine lv_icmp_ge (pc := 23) (tgt := 119) hx hb dL_print_23 (by decide) (fun c9 => ?_) (fun c9 => ?_)
    · have hf := ifT c9 hf
      exact jl_print_119 X hE   _ _ hf _ _ _ h (lv_sub hl [0, 1] rfl)
    · have hf := ifF c9 hf
      refine lv_ldc2 (pc := 26) (v := 41) hx hb hown (hts _ kl_L_128) dL_print_26 ?_
      refine lv_ldc2 (pc := 29) (v := 41) hx hb hown (hts _ kl_L_128) dL_print_29 ?_
      refine lv_ldc2 (pc := 32) (v := 41) hx hb hown (hts _ kl_L_128) dL_print_32 ?_
      refine lv_lload_n (pc := 35) hx hb dL_print_35 rfl (lv_at hl 1 rfl) ?_
      refine lv_lmul (pc := 36) hx hb dL_print_36 ?_
      refine lv_aload_n (pc := 37) hx hb dL_print_37 rfl (lv_at hl 0 rfl) ?_
      refine lv_iload_n (pc := 38) hx hb dL_print_38 rfl (lv_at hl 2 rfl) ?_
      obtain ⟨z2, hc2, hf⟩ := bdS hf
      refine call_H (pc := 39) (As := [.ref (q0 0), .int x3]) (rest := [.long ((41 : Int64) * x1), .long (41 : Int64), .long (41 : Int64)]) (ws' := (kW q0 q cA d)) X h (vn_state d x3 hc2) cx_L_136 (kW_self q0 q cA d) (kW_self q0 q cA d).symm rfl rfl rfl hl.1 (Nat.le_of_ble_eq_true rfl) dL_print_39 ⟨(Nat.le_of_ble_eq_true rfl), (Nat.le_of_ble_eq_true rfl)⟩ rfl rfl ⟨(Nat.le_of_ble_eq_true rfl), (Nat.le_of_ble_eq_true rfl)⟩ (fun H locs h => ?_)
      refine W.eq (g2 := F0 m 42 ls [.int z2, .long ((41 : Int64) * x1), .long (41 : Int64), .long (41 : Int64)]) rfl ?_
      refine lv_i2l (pc := 42) (v := z2.toInt64) hx hb dL_print_42 rfl ?_
      refine lv_ladd (pc := 43) hx hb dL_print_43 ?_
      refine lv_lmul (pc := 44) hx hb dL_print_44 ?_
      refine lv_aload_n (pc := 45) hx hb dL_print_45 rfl (lv_at hl 0 rfl) ?_
      refine lv_iload_n (pc := 46) hx hb dL_print_46 rfl (lv_at hl 2 rfl) ?_
      refine lv_aload_n (pc := 47) hx hb dL_print_47 rfl (lv_at hl 0 rfl) ?_
      refine lv_iload_n (pc := 48) hx hb dL_print_48 rfl (lv_at hl 2 rfl) ?_
      obtain ⟨z3, hc3, hf⟩ := bdS hf
      refine call_H (pc := 49) (As := [.ref (q0 0), .int x3]) (rest := [.int x3, .ref (q0 0), .long ((41 : Int64) * (((41 : Int64) * x1) + z2.toInt64)), .long (41 : Int64)]) (ws' := (kW q0 q cA d)) X h (vn_events d x3 hc3) cx_L_141 (kW_self q0 q cA d) (kW_self q0 q cA d).symm rfl rfl rfl hl.1 (Nat.le_of_ble_eq_true rfl) dL_print_49 ⟨(Nat.le_of_ble_eq_true rfl), (Nat.le_of_ble_eq_true rfl)⟩ rfl rfl ⟨(Nat.le_of_ble_eq_true rfl), (Nat.le_of_ble_eq_true rfl)⟩ (fun H locs h => ?_)
      refine W.eq (g2 := F0 m 52 ls [.int z3, .int x3, .ref (q0 0), .long ((41 : Int64) * (((41 : Int64) * x1) + z2.toInt64)), .long (41 : Int64)]) rfl ?_
      obtain ⟨z4, hc4, hf⟩ := bdS hf
      refine call_H (pc := 52) (As := [.ref (q0 0), .int x3, .int z3]) (rest := [.long ((41 : Int64) * (((41 : Int64) * x1) + z2.toInt64)), .long (41 : Int64)]) (ws' := (kW q0 q cA d)) X h (vn_seal d x3 z3 hc4) cx_L_143 (kW_self q0 q cA d) (kW_self q0 q cA d).symm rfl rfl rfl hl.1 (Nat.le_of_ble_eq_true rfl) dL_print_52 ⟨(Nat.le_of_ble_eq_true rfl), (Nat.le_of_ble_eq_true rfl)⟩ rfl rfl ⟨(Nat.le_of_ble_eq_true rfl), (Nat.le_of_ble_eq_true rfl)⟩ (fun H locs h => ?_)
      refine W.eq (g2 := F0 m 55 ls [.int z4, .long ((41 : Int64) * (((41 : Int64) * x1) + z2.toInt64)), .long (41 : Int64)]) rfl ?_
      refine lv_i2l (pc := 55) (v := z4.toInt64) hx hb dL_print_55 rfl ?_
      refine lv_ladd (pc := 56) hx hb dL_print_56 ?_
      refine lv_lmul (pc := 57) hx hb dL_print_57 ?_
      refine lv_aload_n (pc := 58) hx hb dL_print_58 rfl (lv_at hl 0 rfl) ?_
      refine lv_iload_n (pc := 59) hx hb dL_print_59 rfl (lv_at hl 2 rfl) ?_
      obtain ⟨z5, hc5, hf⟩ := bdS hf
      refine call_H (pc := 60) (As := [.ref (q0 0), .int x3]) (rest := [.long ((41 : Int64) * (((41 : Int64) * (((41 : Int64) * x1) + z2.toInt64)) + z4.toInt64))]) (ws' := (kW q0 q cA d)) X h (vn_nextReminder d x3 hc5) cx_L_146 (kW_self q0 q cA d) (kW_self q0 q cA d).symm rfl rfl rfl hl.1 (Nat.le_of_ble_eq_true rfl) dL_print_60 ⟨(Nat.le_of_ble_eq_true rfl), (Nat.le_of_ble_eq_true rfl)⟩ rfl rfl ⟨(Nat.le_of_ble_eq_true rfl), (Nat.le_of_ble_eq_true rfl)⟩ (fun H locs h => ?_)
      refine W.eq (g2 := F0 m 63 ls [.int z5, .long ((41 : Int64) * (((41 : Int64) * (((41 : Int64) * x1) + z2.toInt64)) + z4.toInt64))]) rfl ?_
      refine lv_i2l (pc := 63) (v := z5.toInt64) hx hb dL_print_63 rfl ?_
      refine lv_ladd (pc := 64) hx hb dL_print_64 ?_
      refine lv_lstore_n (pc := 65) (lv' := [(1, .long (((41 : Int64) * (((41 : Int64) * (((41 : Int64) * x1) + z2.toInt64)) + z4.toInt64)) + z5.toInt64)), (0, .ref (q0 0)), (3, .int x3)]) hx hb dL_print_65 rfl hl (by decide) rfl (fun ls hl => ?_)
      refine lv_iconst (pc := 66) (v := 0) hx hb dL_print_66 (by decide) ?_
      refine lv_istore (pc := 67) (lv' := [(4, .int (0 : Int32)), (1, .long (((41 : Int64) * (((41 : Int64) * (((41 : Int64) * x1) + z2.toInt64)) + z4.toInt64)) + z5.toInt64)), (0, .ref (q0 0)), (3, .int x3)]) hx hb dL_print_67 hl (by decide) rfl (fun ls hl => ?_)
      exact jl_print_69 X hE _ (ih) FU _ _ _ _ hf _ _ _ h (lv_sub hl [2, 1, 3, 0] rfl)
def f_L_print (d : Dk)  : Option (Int64) := ((gn_today d).bind fun z1 => ((gn_envelopes d).bind fun z2 => (f_L_print_18 d FU (((41 : Int64) * z1.toInt64) + z2.toInt64) (0 : Int32))))
set_option maxHeartbeats 1000000 in
set_option maxRecDepth 100000 in
theorem jl_print_0  {d : Dk} (X : LCx p l s m args meth c cL_print 5 D cA A) (hE : ∀ (z : Int64) (pc : Nat) (H : Heap) (locs : List Loc) (ls : Array Slot) (cells slots : Nat), decode cL_print pc = .ok (.lreturn, 1) → cells ≤ 0 → slots ≤ 0 → St D A s.heap (kW q0 q cA d) H locs → W p l e rm_L_print s m args below meth c H locs cells slots (Qf z) (F0 m pc ls [.long z]))  (z : Int64) (hf : f_L_print d  = some z) (H : Heap) (locs : List Loc) (ls : Array Slot) (h : St D A s.heap (kW q0 q cA d) H locs) (hl : lv_has ls 5 [(0, .ref (q0 0))]) : W p l e rm_L_print s m args below meth c H locs 0 0 (Qf z) (F0 m 0 ls []) := by
  obtain ⟨C, hl0, hXA, hN⟩ := id X
  obtain ⟨hx, hb, hml, hown, hts, hK, hlk⟩ := id C
  rw [f_L_print] at hf
  refine lv_ldc2 (pc := 0) (v := 41) hx hb hown (hts _ kl_L_128) dL_print_0 ?_
  refine lv_aload_n (pc := 3) hx hb dL_print_3 rfl (lv_at hl 0 rfl) ?_
  obtain ⟨z1, hc1, hf⟩ := bdS hf
  obtain ⟨hn1, hv1⟩ := gn_today_s hc1
  refine call_VRp (pc := 4) (rest := [.long (41 : Int64)]) (As := []) C h (k_X4_today hn1 (q0 := q0) (q := q) d.2.1 d.2.2 hv1) cw_L_130 (kW_c0 q0 q cA d) rfl (kW_self ..) rfl rfl hl.1 (Nat.le_of_ble_eq_true rfl) dL_print_4 ⟨(Nat.le_of_ble_eq_true rfl), (Nat.le_of_ble_eq_true rfl)⟩ rfl rfl ⟨(Nat.le_of_ble_eq_true rfl), (Nat.le_of_ble_eq_true rfl)⟩ (fun H locs h => ?_)
  refine W.eq (g2 := F0 m 7 ls [.int z1, .long (41 : Int64)]) rfl ?_
  refine lv_i2l (pc := 7) (v := z1.toInt64) hx hb dL_print_7 rfl ?_
  refine lv_lmul (pc := 8) hx hb dL_print_8 ?_
  refine lv_aload_n (pc := 9) hx hb dL_print_9 rfl (lv_at hl 0 rfl) ?_
  obtain ⟨z2, hc2, hf⟩ := bdS hf
  obtain ⟨hn2, hv2⟩ := gn_envelopes_s hc2
  refine call_VRp (pc := 10) (rest := [.long ((41 : Int64) * z1.toInt64)]) (As := []) C h (k_X4_envelopes hn2 (q0 := q0) (q := q) d.2.1 d.2.2 hv2) cw_L_133 (kW_c0 q0 q cA d) rfl (kW_self ..) rfl rfl hl.1 (Nat.le_of_ble_eq_true rfl) dL_print_10 ⟨(Nat.le_of_ble_eq_true rfl), (Nat.le_of_ble_eq_true rfl)⟩ rfl rfl ⟨(Nat.le_of_ble_eq_true rfl), (Nat.le_of_ble_eq_true rfl)⟩ (fun H locs h => ?_)
  refine W.eq (g2 := F0 m 13 ls [.int z2, .long ((41 : Int64) * z1.toInt64)]) rfl ?_
  refine lv_i2l (pc := 13) (v := z2.toInt64) hx hb dL_print_13 rfl ?_
  refine lv_ladd (pc := 14) hx hb dL_print_14 ?_
  refine lv_lstore_n (pc := 15) (lv' := [(1, .long (((41 : Int64) * z1.toInt64) + z2.toInt64)), (0, .ref (q0 0))]) hx hb dL_print_15 rfl hl (by decide) rfl (fun ls hl => ?_)
  refine lv_iconst (pc := 16) (v := 0) hx hb dL_print_16 (by decide) ?_
  refine lv_istore_n (pc := 17) (lv' := [(3, .int (0 : Int32)), (1, .long (((41 : Int64) * z1.toInt64) + z2.toInt64)), (0, .ref (q0 0))]) hx hb dL_print_17 rfl hl (by decide) rfl (fun ls hl => ?_)
  exact jl_print_18 X hE   FU _ _ _ hf _ _ _ h (lv_sub hl [2, 1, 0] rfl)
set_option maxRecDepth 100000 in
theorem k_L_print {q0 : Nat → Nat} {q : Nat → Nat → Nat} {cA : Nat → ClassId} {D : va_G} (d : Dk) {z : Int64} (hf : f_L_print d = some z) : CtV yL_print (.code yL_print cL_print 5 (some .long)) rm_L_print [.ref (q0 0)] D cA (kW q0 q cA d) (kW q0 q cA d) (.long z) 0 0 := by
  refine vxL_of (Qc := fun sz => PostU D (kW q0 q cA d) (kW q0 q cA d) sz (some (.long z))) (by decide) (Nat.le_of_ble_eq_true rfl) rfl ?_
  intro p l e s m below meth c ls C hr h hl
  exact jl_print_0 (Qf := fun z => vx_MQ below (PostU D (kW q0 q cA d) (kW q0 q cA d) s.heap.size (some (.long z))) XN _ s 0 0 (va_A (kW q0 q cA d) s.heap.size)) C (fun z pc H locs ls cells slots hd hc hs h => end_l C.1 hr hc hs h hd)  _ hf _ _ _ h (lv_sub hl [0] rfl)
end
