theorem dL_counts_0 : decode cL_counts 0 = .ok (.aload_n 0, 1) := by decide +kernel
theorem dL_counts_1 : decode cL_counts 1 = .ok (.iload_n 2, 1) := by decide +kernel
theorem dL_counts_2 : decode cL_counts 2 = .ok (.invokestatic 148, 3) := by decide +kernel
theorem dL_counts_5 : decode cL_counts 5 = .ok (.istore_n 3, 1) := by decide +kernel
theorem dL_counts_6 : decode cL_counts 6 = .ok (.aload_n 0, 1) := by decide +kernel
theorem dL_counts_7 : decode cL_counts 7 = .ok (.iload_n 2, 1) := by decide +kernel
theorem dL_counts_8 : decode cL_counts 8 = .ok (.invokestatic 184, 3) := by decide +kernel
theorem dL_counts_11 : decode cL_counts 11 = .ok (.istore 4, 2) := by decide +kernel
theorem dL_counts_13 : decode cL_counts 13 = .ok (.aload_n 0, 1) := by decide +kernel
theorem dL_counts_14 : decode cL_counts 14 = .ok (.iload_n 2, 1) := by decide +kernel
theorem dL_counts_15 : decode cL_counts 15 = .ok (.invokestatic 186, 3) := by decide +kernel
theorem dL_counts_18 : decode cL_counts 18 = .ok (.istore 5, 2) := by decide +kernel
theorem dL_counts_20 : decode cL_counts 20 = .ok (.iconst 1, 1) := by decide +kernel
theorem dL_counts_21 : decode cL_counts 21 = .ok (.istore 6, 2) := by decide +kernel
theorem dL_counts_23 : decode cL_counts 23 = .ok (.iconst 0, 1) := by decide +kernel
theorem dL_counts_24 : decode cL_counts 24 = .ok (.istore 7, 2) := by decide +kernel
theorem dL_counts_26 : decode cL_counts 26 = .ok (.iconst 0, 1) := by decide +kernel
theorem dL_counts_27 : decode cL_counts 27 = .ok (.istore 8, 2) := by decide +kernel
theorem dL_counts_29 : decode cL_counts 29 = .ok (.iload 8, 2) := by decide +kernel
theorem dL_counts_31 : decode cL_counts 31 = .ok (.iload_n 3, 1) := by decide +kernel
theorem dL_counts_32 : decode cL_counts 32 = .ok (.if_icmp .ge 40, 3) := by decide +kernel
theorem dL_counts_35 : decode cL_counts 35 = .ok (.iload 6, 2) := by decide +kernel
theorem dL_counts_37 : decode cL_counts 37 = .ok (.iload 8, 2) := by decide +kernel
theorem dL_counts_39 : decode cL_counts 39 = .ok (.iconst 1, 1) := by decide +kernel
theorem dL_counts_40 : decode cL_counts 40 = .ok (.iadd, 1) := by decide +kernel
theorem dL_counts_41 : decode cL_counts 41 = .ok (.imul, 1) := by decide +kernel
theorem dL_counts_42 : decode cL_counts 42 = .ok (.istore 6, 2) := by decide +kernel
theorem dL_counts_44 : decode cL_counts 44 = .ok (.iload 7, 2) := by decide +kernel
theorem dL_counts_46 : decode cL_counts 46 = .ok (.aload_n 1, 1) := by decide +kernel
theorem dL_counts_47 : decode cL_counts 47 = .ok (.bipush 8, 2) := by decide +kernel
theorem dL_counts_49 : decode cL_counts 49 = .ok (.iload_n 2, 1) := by decide +kernel
theorem dL_counts_50 : decode cL_counts 50 = .ok (.imul, 1) := by decide +kernel
theorem dL_counts_51 : decode cL_counts 51 = .ok (.iload 8, 2) := by decide +kernel
theorem dL_counts_53 : decode cL_counts 53 = .ok (.iadd, 1) := by decide +kernel
theorem dL_counts_54 : decode cL_counts 54 = .ok (.iaload, 1) := by decide +kernel
theorem dL_counts_55 : decode cL_counts 55 = .ok (.ifCond .ne 7, 3) := by decide +kernel
theorem dL_counts_58 : decode cL_counts 58 = .ok (.iconst 1, 1) := by decide +kernel
theorem dL_counts_59 : decode cL_counts 59 = .ok (.goto 4, 3) := by decide +kernel
theorem dL_counts_62 : decode cL_counts 62 = .ok (.iconst 0, 1) := by decide +kernel
theorem dL_counts_63 : decode cL_counts 63 = .ok (.iadd, 1) := by decide +kernel
theorem dL_counts_64 : decode cL_counts 64 = .ok (.istore 7, 2) := by decide +kernel
theorem dL_counts_66 : decode cL_counts 66 = .ok (.iinc 8 1, 3) := by decide +kernel
theorem dL_counts_69 : decode cL_counts 69 = .ok (.goto (-40), 3) := by decide +kernel
theorem dL_counts_72 : decode cL_counts 72 = .ok (.iload 4, 2) := by decide +kernel
theorem dL_counts_74 : decode cL_counts 74 = .ok (.aload_n 0, 1) := by decide +kernel
theorem dL_counts_75 : decode cL_counts 75 = .ok (.iload_n 2, 1) := by decide +kernel
theorem dL_counts_76 : decode cL_counts 76 = .ok (.invokestatic 188, 3) := by decide +kernel
theorem dL_counts_79 : decode cL_counts 79 = .ok (.if_icmp .ne 104, 3) := by decide +kernel
theorem dL_counts_82 : decode cL_counts 82 = .ok (.iload 4, 2) := by decide +kernel
theorem dL_counts_84 : decode cL_counts 84 = .ok (.iconst 1, 1) := by decide +kernel
theorem dL_counts_85 : decode cL_counts 85 = .ok (.if_icmp .lt 98, 3) := by decide +kernel
theorem dL_counts_88 : decode cL_counts 88 = .ok (.iload 4, 2) := by decide +kernel
theorem dL_counts_90 : decode cL_counts 90 = .ok (.iload 6, 2) := by decide +kernel
theorem dL_counts_92 : decode cL_counts 92 = .ok (.if_icmp .gt 91, 3) := by decide +kernel
theorem dL_counts_95 : decode cL_counts 95 = .ok (.iload 5, 2) := by decide +kernel
theorem dL_counts_97 : decode cL_counts 97 = .ok (.iconst 1, 1) := by decide +kernel
theorem dL_counts_98 : decode cL_counts 98 = .ok (.if_icmp .lt 85, 3) := by decide +kernel
theorem dL_counts_101 : decode cL_counts 101 = .ok (.iload 5, 2) := by decide +kernel
theorem dL_counts_103 : decode cL_counts 103 = .ok (.iload 4, 2) := by decide +kernel
theorem dL_counts_105 : decode cL_counts 105 = .ok (.if_icmp .gt 78, 3) := by decide +kernel
theorem dL_counts_108 : decode cL_counts 108 = .ok (.aload_n 0, 1) := by decide +kernel
theorem dL_counts_109 : decode cL_counts 109 = .ok (.iload_n 2, 1) := by decide +kernel
theorem dL_counts_110 : decode cL_counts 110 = .ok (.invokestatic 136, 3) := by decide +kernel
theorem dL_counts_113 : decode cL_counts 113 = .ok (.iconst 2, 1) := by decide +kernel
theorem dL_counts_114 : decode cL_counts 114 = .ok (.if_icmp .ne 7, 3) := by decide +kernel
theorem dL_counts_117 : decode cL_counts 117 = .ok (.iconst 1, 1) := by decide +kernel
theorem dL_counts_118 : decode cL_counts 118 = .ok (.goto 4, 3) := by decide +kernel
theorem dL_counts_121 : decode cL_counts 121 = .ok (.iconst 0, 1) := by decide +kernel
theorem dL_counts_122 : decode cL_counts 122 = .ok (.iload 5, 2) := by decide +kernel
theorem dL_counts_124 : decode cL_counts 124 = .ok (.iconst 1, 1) := by decide +kernel
theorem dL_counts_125 : decode cL_counts 125 = .ok (.if_icmp .ne 21, 3) := by decide +kernel
theorem dL_counts_128 : decode cL_counts 128 = .ok (.iload_n 3, 1) := by decide +kernel
theorem dL_counts_129 : decode cL_counts 129 = .ok (.ifCond .le 17, 3) := by decide +kernel
theorem dL_counts_132 : decode cL_counts 132 = .ok (.aload_n 0, 1) := by decide +kernel
theorem dL_counts_133 : decode cL_counts 133 = .ok (.iload_n 2, 1) := by decide +kernel
theorem dL_counts_134 : decode cL_counts 134 = .ok (.invokestatic 174, 3) := by decide +kernel
theorem dL_counts_137 : decode cL_counts 137 = .ok (.fconst 1, 1) := by decide +kernel
theorem dL_counts_138 : decode cL_counts 138 = .ok (.fcmp .l, 1) := by decide +kernel
theorem dL_counts_139 : decode cL_counts 139 = .ok (.ifCond .ne 7, 3) := by decide +kernel
theorem dL_counts_142 : decode cL_counts 142 = .ok (.iconst 1, 1) := by decide +kernel
theorem dL_counts_143 : decode cL_counts 143 = .ok (.goto 4, 3) := by decide +kernel
theorem dL_counts_146 : decode cL_counts 146 = .ok (.iconst 0, 1) := by decide +kernel
theorem dL_counts_147 : decode cL_counts 147 = .ok (.if_icmp .ne 36, 3) := by decide +kernel
theorem dL_counts_150 : decode cL_counts 150 = .ok (.iload 7, 2) := by decide +kernel
theorem dL_counts_152 : decode cL_counts 152 = .ok (.iload_n 3, 1) := by decide +kernel
theorem dL_counts_153 : decode cL_counts 153 = .ok (.if_icmp .lt 10, 3) := by decide +kernel
theorem dL_counts_156 : decode cL_counts 156 = .ok (.iload 4, 2) := by decide +kernel
theorem dL_counts_158 : decode cL_counts 158 = .ok (.iload 6, 2) := by decide +kernel
theorem dL_counts_160 : decode cL_counts 160 = .ok (.if_icmp .ne 23, 3) := by decide +kernel
theorem dL_counts_163 : decode cL_counts 163 = .ok (.aload_n 0, 1) := by decide +kernel
theorem dL_counts_164 : decode cL_counts 164 = .ok (.iload_n 2, 1) := by decide +kernel
theorem dL_counts_165 : decode cL_counts 165 = .ok (.invokestatic 141, 3) := by decide +kernel
theorem dL_counts_168 : decode cL_counts 168 = .ok (.iconst 1, 1) := by decide +kernel
theorem dL_counts_169 : decode cL_counts 169 = .ok (.if_icmp .gt 10, 3) := by decide +kernel
theorem dL_counts_172 : decode cL_counts 172 = .ok (.iload 5, 2) := by decide +kernel
theorem dL_counts_174 : decode cL_counts 174 = .ok (.iload 4, 2) := by decide +kernel
theorem dL_counts_176 : decode cL_counts 176 = .ok (.if_icmp .ne 7, 3) := by decide +kernel
theorem dL_counts_179 : decode cL_counts 179 = .ok (.iconst 1, 1) := by decide +kernel
theorem dL_counts_180 : decode cL_counts 180 = .ok (.goto 4, 3) := by decide +kernel
theorem dL_counts_183 : decode cL_counts 183 = .ok (.iconst 0, 1) := by decide +kernel
theorem dL_counts_184 : decode cL_counts 184 = .ok (.ireturn, 1) := by decide +kernel
section
variable {p : Program} {l : Launch} {e : Env} {s : State} {m : MethodId} {args : Array Value} {below : List Frame} {meth : Method} {c : Code} {D : va_G} {cA : Nat → ClassId} {A : Nat → Prop} {q0 t0 : Nat → Nat} {q tq : Nat → Nat → Nat} {ab aw : Nat}
variable {Qf : Int32 × Dk → State → Prop}
abbrev rm_L_counts : Room := { frames := 17, cells := 0, slots := 0, locals := 412 }
noncomputable def f_L_counts_163 (b : (Nat → Int32)) (w : (Nat → Int32)) (d : Dk) (x2 : Int32) (x4 : Int32) (x5 : Int32) : Option (Int32 × Dk) := ((gn_events d x2).bind fun z1 => (if (1 : Int32) < z1 then (some ((1 : Int32), d)) else (if x5 = x4 then (some ((1 : Int32), d)) else (some ((0 : Int32), d)))))
set_option maxHeartbeats 1000000 in
set_option maxRecDepth 100000 in
theorem jl_counts_163  {b : (Nat → Int32)} {w : (Nat → Int32)} (X : LCx p l s m args meth c cL_counts 9 D cA A) (hE : ∀ (z : Int32 × Dk) (pc : Nat) (H : Heap) (locs : List Loc) (ls : Array Slot) (cells slots : Nat), (z.1 = 0 ∨ z.1 = 1) → decode cL_counts pc = .ok (.ireturn, 1) → cells ≤ 0 → slots ≤ 0 → St D A s.heap (kbW q0 q cA z.2 ab aw b w) H locs → W p l e rm_L_counts s m args below meth c H locs cells slots (Qf z) (F0 m pc ls [.int z.1])) (d : Dk) (x2 : Int32) (x4 : Int32) (x5 : Int32) (z : Int32 × Dk) (hf : f_L_counts_163 b w d x2 x4 x5 = some z) (H : Heap) (locs : List Loc) (ls : Array Slot) (h : St D A s.heap (kbW q0 q cA d ab aw b w) H locs) (hl : lv_has ls 9 [(0, .ref (q0 0)), (2, .int x2), (4, .int x4), (5, .int x5)]) : W p l e rm_L_counts s m args below meth c H locs 0 0 (Qf z) (F0 m 163 ls []) := by
  obtain ⟨C, hl0, hXA, hN⟩ := id X
  obtain ⟨hx, hb, hml, hown, hts, hK, hlk⟩ := id C
  rw [f_L_counts_163] at hf
  refine lv_aload_n (pc := 163) hx hb dL_counts_163 rfl (lv_at hl 0 rfl) ?_
  refine lv_iload_n (pc := 164) hx hb dL_counts_164 rfl (lv_at hl 1 rfl) ?_
  obtain ⟨z1, hc1, hf⟩ := bdS hf
  refine call_H (pc := 165) (As := [.ref (q0 0), .int x2]) (rest := []) (ws' := (kbW q0 q cA d ab aw b w)) X h (vn_events d x2 hc1) cx_L_141 (kbW_o q0 q cA d ab aw b w) (kbW_o q0 q cA d ab aw b w).symm rfl rfl rfl hl.1 (Nat.le_of_ble_eq_true rfl) dL_counts_165 ⟨(Nat.le_of_ble_eq_true rfl), (Nat.le_of_ble_eq_true rfl)⟩ rfl rfl ⟨(Nat.le_of_ble_eq_true rfl), (Nat.le_of_ble_eq_true rfl)⟩ (fun H locs h => ?_)
  refine W.eq (g2 := F0 m 168 ls [.int z1]) rfl ?_
  refine lv_iconst (pc := 168) (v := 1) hx hb dL_counts_168 (by decide) ?_
  refine lv_icmp_gt (pc := 169) (tgt := 179) hx hb dL_counts_169 (by decide) (fun c9 => ?_) (fun c9 => ?_)
  · have hf := ifT c9 hf
    refine lv_iconst (pc := 179) (v := 1) hx hb dL_counts_179 (by decide) ?_
    refine lv_goto (pc := 180) (tgt := 184) hx hb dL_counts_180 (by decide) ?_
    cases hf
    exact hE ((1 : Int32), d) 184 _ _ _ _ _ (Or.inr rfl) dL_counts_184 (Nat.le_of_ble_eq_true rfl) (Nat.le_of_ble_eq_true rfl) h
  · have hf := ifF c9 hf
    refine lv_iload (pc := 172) hx hb dL_counts_172 (lv_at hl 3 rfl) ?_
    refine lv_iload (pc := 174) hx hb dL_counts_174 (lv_at hl 2 rfl) ?_
    refine lv_icmp_ne (pc := 176) (tgt := 183) hx hb dL_counts_176 (by decide) (fun c9 => ?_) (fun c9 => ?_)
    · have hf := ifF c9 hf
      refine lv_iconst (pc := 183) (v := 0) hx hb dL_counts_183 (by decide) ?_
      cases hf
      exact hE ((0 : Int32), d) 184 _ _ _ _ _ (Or.inl rfl) dL_counts_184 (Nat.le_of_ble_eq_true rfl) (Nat.le_of_ble_eq_true rfl) h
    · have hf := ifT c9 hf
      refine lv_iconst (pc := 179) (v := 1) hx hb dL_counts_179 (by decide) ?_
      refine lv_goto (pc := 180) (tgt := 184) hx hb dL_counts_180 (by decide) ?_
      cases hf
      exact hE ((1 : Int32), d) 184 _ _ _ _ _ (Or.inr rfl) dL_counts_184 (Nat.le_of_ble_eq_true rfl) (Nat.le_of_ble_eq_true rfl) h
noncomputable def f_L_counts_147 (b : (Nat → Int32)) (w : (Nat → Int32)) (d : Dk) (x2 : Int32) (x3 : Int32) (x4 : Int32) (x5 : Int32) (x6 : Int32) (x7 : Int32) (s0 : Int32) (s1 : Int32) : Option (Int32 × Dk) := (if s1 = s0 then (if x7 < x3 then (f_L_counts_163 b w d x2 x4 x5) else (if x4 = x6 then (f_L_counts_163 b w d x2 x4 x5) else (some ((0 : Int32), d)))) else (some ((0 : Int32), d)))
set_option maxHeartbeats 1000000 in
set_option maxRecDepth 100000 in
theorem jl_counts_147  {b : (Nat → Int32)} {w : (Nat → Int32)} (X : LCx p l s m args meth c cL_counts 9 D cA A) (hE : ∀ (z : Int32 × Dk) (pc : Nat) (H : Heap) (locs : List Loc) (ls : Array Slot) (cells slots : Nat), (z.1 = 0 ∨ z.1 = 1) → decode cL_counts pc = .ok (.ireturn, 1) → cells ≤ 0 → slots ≤ 0 → St D A s.heap (kbW q0 q cA z.2 ab aw b w) H locs → W p l e rm_L_counts s m args below meth c H locs cells slots (Qf z) (F0 m pc ls [.int z.1])) (d : Dk) (x2 : Int32) (x3 : Int32) (x4 : Int32) (x5 : Int32) (x6 : Int32) (x7 : Int32) (s0 : Int32) (s1 : Int32) (z : Int32 × Dk) (hf : f_L_counts_147 b w d x2 x3 x4 x5 x6 x7 s0 s1 = some z) (H : Heap) (locs : List Loc) (ls : Array Slot) (h : St D A s.heap (kbW q0 q cA d ab aw b w) H locs) (hl : lv_has ls 9 [(0, .ref (q0 0)), (2, .int x2), (3, .int x3), (4, .int x4), (5, .int x5), (6, .int x6), (7, .int x7)]) : W p l e rm_L_counts s m args below meth c H locs 0 0 (Qf z) (F0 m 147 ls [.int s0, .int s1]) := by
  obtain ⟨C, hl0, hXA, hN⟩ := id X
  obtain ⟨hx, hb, hml, hown, hts, hK, hlk⟩ := id C
  rw [f_L_counts_147] at hf
  refine lv_icmp_ne (pc := 147) (tgt := 183) hx hb dL_counts_147 (by decide) (fun c9 => ?_) (fun c9 => ?_)
  · have hf := ifF c9 hf
    refine lv_iconst (pc := 183) (v := 0) hx hb dL_counts_183 (by decide) ?_
    cases hf
    exact hE ((0 : Int32), d) 184 _ _ _ _ _ (Or.inl rfl) dL_counts_184 (Nat.le_of_ble_eq_true rfl) (Nat.le_of_ble_eq_true rfl) h
  · have hf := ifT c9 hf
    refine lv_iload (pc := 150) hx hb dL_counts_150 (lv_at hl 6 rfl) ?_
    refine lv_iload_n (pc := 152) hx hb dL_counts_152 rfl (lv_at hl 2 rfl) ?_
    refine lv_icmp_lt (pc := 153) (tgt := 163) hx hb dL_counts_153 (by decide) (fun c9 => ?_) (fun c9 => ?_)
    · have hf := ifT c9 hf
      exact jl_counts_163 X hE   _ _ _ _ _ hf _ _ _ h (lv_sub hl [0, 1, 3, 4] rfl)
    · have hf := ifF c9 hf
      refine lv_iload (pc := 156) hx hb dL_counts_156 (lv_at hl 3 rfl) ?_
      refine lv_iload (pc := 158) hx hb dL_counts_158 (lv_at hl 5 rfl) ?_
      refine lv_icmp_ne (pc := 160) (tgt := 183) hx hb dL_counts_160 (by decide) (fun c9 => ?_) (fun c9 => ?_)
      · have hf := ifF c9 hf
        refine lv_iconst (pc := 183) (v := 0) hx hb dL_counts_183 (by decide) ?_
        cases hf
        exact hE ((0 : Int32), d) 184 _ _ _ _ _ (Or.inl rfl) dL_counts_184 (Nat.le_of_ble_eq_true rfl) (Nat.le_of_ble_eq_true rfl) h
      · have hf := ifT c9 hf
        exact jl_counts_163 X hE   _ _ _ _ _ hf _ _ _ h (lv_sub hl [0, 1, 3, 4] rfl)
noncomputable def f_L_counts_146 (b : (Nat → Int32)) (w : (Nat → Int32)) (d : Dk) (x2 : Int32) (x3 : Int32) (x4 : Int32) (x5 : Int32) (x6 : Int32) (x7 : Int32) (s0 : Int32) : Option (Int32 × Dk) := (f_L_counts_147 b w d x2 x3 x4 x5 x6 x7 (0 : Int32) s0)
set_option maxHeartbeats 1000000 in
set_option maxRecDepth 100000 in
theorem jl_counts_146  {b : (Nat → Int32)} {w : (Nat → Int32)} (X : LCx p l s m args meth c cL_counts 9 D cA A) (hE : ∀ (z : Int32 × Dk) (pc : Nat) (H : Heap) (locs : List Loc) (ls : Array Slot) (cells slots : Nat), (z.1 = 0 ∨ z.1 = 1) → decode cL_counts pc = .ok (.ireturn, 1) → cells ≤ 0 → slots ≤ 0 → St D A s.heap (kbW q0 q cA z.2 ab aw b w) H locs → W p l e rm_L_counts s m args below meth c H locs cells slots (Qf z) (F0 m pc ls [.int z.1])) (d : Dk) (x2 : Int32) (x3 : Int32) (x4 : Int32) (x5 : Int32) (x6 : Int32) (x7 : Int32) (s0 : Int32) (z : Int32 × Dk) (hf : f_L_counts_146 b w d x2 x3 x4 x5 x6 x7 s0 = some z) (H : Heap) (locs : List Loc) (ls : Array Slot) (h : St D A s.heap (kbW q0 q cA d ab aw b w) H locs) (hl : lv_has ls 9 [(0, .ref (q0 0)), (2, .int x2), (3, .int x3), (4, .int x4), (5, .int x5), (6, .int x6), (7, .int x7)]) : W p l e rm_L_counts s m args below meth c H locs 0 0 (Qf z) (F0 m 146 ls [.int s0]) := by
  obtain ⟨C, hl0, hXA, hN⟩ := id X
  obtain ⟨hx, hb, hml, hown, hts, hK, hlk⟩ := id C
  rw [f_L_counts_146] at hf
  refine lv_iconst (pc := 146) (v := 0) hx hb dL_counts_146 (by decide) ?_
  exact jl_counts_147 X hE   _ _ _ _ _ _ _ _ _ _ hf _ _ _ h (lv_sub hl [0, 1, 2, 3, 4, 5, 6] rfl)
noncomputable def f_L_counts_122 (b : (Nat → Int32)) (w : (Nat → Int32)) (d : Dk) (x2 : Int32) (x3 : Int32) (x4 : Int32) (x5 : Int32) (x6 : Int32) (x7 : Int32) (s0 : Int32) : Option (Int32 × Dk) := (if x5 = (1 : Int32) then (if x3 ≤ 0 then (f_L_counts_146 b w d x2 x3 x4 x5 x6 x7 s0) else ((gn_share d x2).bind fun z1 => (if (Op.cmpValue (FP.fcmp z1 FP.fconst1) .l) = 0 then (f_L_counts_147 b w d x2 x3 x4 x5 x6 x7 (1 : Int32) s0) else (f_L_counts_146 b w d x2 x3 x4 x5 x6 x7 s0)))) else (f_L_counts_146 b w d x2 x3 x4 x5 x6 x7 s0))
set_option maxHeartbeats 1000000 in
set_option maxRecDepth 100000 in
theorem jl_counts_122  {b : (Nat → Int32)} {w : (Nat → Int32)} (X : LCx p l s m args meth c cL_counts 9 D cA A) (hE : ∀ (z : Int32 × Dk) (pc : Nat) (H : Heap) (locs : List Loc) (ls : Array Slot) (cells slots : Nat), (z.1 = 0 ∨ z.1 = 1) → decode cL_counts pc = .ok (.ireturn, 1) → cells ≤ 0 → slots ≤ 0 → St D A s.heap (kbW q0 q cA z.2 ab aw b w) H locs → W p l e rm_L_counts s m args below meth c H locs cells slots (Qf z) (F0 m pc ls [.int z.1])) (d : Dk) (x2 : Int32) (x3 : Int32) (x4 : Int32) (x5 : Int32) (x6 : Int32) (x7 : Int32) (s0 : Int32) (z : Int32 × Dk) (hf : f_L_counts_122 b w d x2 x3 x4 x5 x6 x7 s0 = some z) (H : Heap) (locs : List Loc) (ls : Array Slot) (h : St D A s.heap (kbW q0 q cA d ab aw b w) H locs) (hl : lv_has ls 9 [(0, .ref (q0 0)), (2, .int x2), (3, .int x3), (4, .int x4), (5, .int x5), (6, .int x6), (7, .int x7)]) : W p l e rm_L_counts s m args below meth c H locs 0 0 (Qf z) (F0 m 122 ls [.int s0]) := by
  obtain ⟨C, hl0, hXA, hN⟩ := id X
  obtain ⟨hx, hb, hml, hown, hts, hK, hlk⟩ := id C
  rw [f_L_counts_122] at hf
  refine lv_iload (pc := 122) hx hb dL_counts_122 (lv_at hl 4 rfl) ?_
  refine lv_iconst (pc := 124) (v := 1) hx hb dL_counts_124 (by decide) ?_
  refine lv_icmp_ne (pc := 125) (tgt := 146) hx hb dL_counts_125 (by decide) (fun c9 => ?_) (fun c9 => ?_)
  · have hf := ifF c9 hf
    exact jl_counts_146 X hE   _ _ _ _ _ _ _ _ _ hf _ _ _ h (lv_sub hl [0, 1, 2, 3, 4, 5, 6] rfl)
  · have hf := ifT c9 hf
    refine lv_iload_n (pc := 128) hx hb dL_counts_128 rfl (lv_at hl 2 rfl) ?_
    refine lv_if_le (pc := 129) (tgt := 146) hx hb dL_counts_129 (by decide) (fun c9 => ?_) (fun c9 => ?_)
    · have hf := ifT c9 hf
      exact jl_counts_146 X hE   _ _ _ _ _ _ _ _ _ hf _ _ _ h (lv_sub hl [0, 1, 2, 3, 4, 5, 6] rfl)
    · have hf := ifF c9 hf
      refine lv_aload_n (pc := 132) hx hb dL_counts_132 rfl (lv_at hl 0 rfl) ?_
      refine lv_iload_n (pc := 133) hx hb dL_counts_133 rfl (lv_at hl 1 rfl) ?_
      obtain ⟨z1, hc1, hf⟩ := bdS hf
      refine call_H (pc := 134) (As := [.ref (q0 0), .int x2]) (rest := [.int s0]) (ws' := (kbW q0 q cA d ab aw b w)) X h (vn_share d x2 hc1) cx_L_174 (kbW_o q0 q cA d ab aw b w) (kbW_o q0 q cA d ab aw b w).symm rfl rfl rfl hl.1 (Nat.le_of_ble_eq_true rfl) dL_counts_134 ⟨(Nat.le_of_ble_eq_true rfl), (Nat.le_of_ble_eq_true rfl)⟩ rfl rfl ⟨(Nat.le_of_ble_eq_true rfl), (Nat.le_of_ble_eq_true rfl)⟩ (fun H locs h => ?_)
      refine W.eq (g2 := F0 m 137 ls [.float z1, .int s0]) rfl ?_
      refine lv_fconst1 (pc := 137) hx hb dL_counts_137 ?_
      refine lv_fcmp (pc := 138) hx hb dL_counts_138 ?_
      refine lv_if_ne (pc := 139) (tgt := 146) hx hb dL_counts_139 (by decide) (fun c9 => ?_) (fun c9 => ?_)
      · have hf := ifF c9 hf
        exact jl_counts_146 X hE   _ _ _ _ _ _ _ _ _ hf _ _ _ h (lv_sub hl [0, 1, 2, 3, 4, 5, 6] rfl)
      · have hf := ifT c9 hf
        refine lv_iconst (pc := 142) (v := 1) hx hb dL_counts_142 (by decide) ?_
        refine lv_goto (pc := 143) (tgt := 147) hx hb dL_counts_143 (by decide) ?_
        exact jl_counts_147 X hE   _ _ _ _ _ _ _ _ _ _ hf _ _ _ h (lv_sub hl [0, 1, 2, 3, 4, 5, 6] rfl)
noncomputable def f_L_counts_72 (b : (Nat → Int32)) (w : (Nat → Int32)) (d : Dk) (x2 : Int32) (x3 : Int32) (x4 : Int32) (x5 : Int32) (x6 : Int32) (x7 : Int32) : Option (Int32 × Dk) := ((gn_ordersByAll d x2).bind fun z1 => (if x4 = z1 then (if x4 < (1 : Int32) then (some ((0 : Int32), d)) else (if x6 < x4 then (some ((0 : Int32), d)) else (if x5 < (1 : Int32) then (some ((0 : Int32), d)) else (if x4 < x5 then (some ((0 : Int32), d)) else ((gn_state d x2).bind fun z2 => (if z2 = (2 : Int32) then (f_L_counts_122 b w d x2 x3 x4 x5 x6 x7 (1 : Int32)) else (f_L_counts_122 b w d x2 x3 x4 x5 x6 x7 (0 : Int32)))))))) else (some ((0 : Int32), d))))
set_option maxHeartbeats 1000000 in
set_option maxRecDepth 100000 in
theorem jl_counts_72  {b : (Nat → Int32)} {w : (Nat → Int32)} (X : LCx p l s m args meth c cL_counts 9 D cA A) (hE : ∀ (z : Int32 × Dk) (pc : Nat) (H : Heap) (locs : List Loc) (ls : Array Slot) (cells slots : Nat), (z.1 = 0 ∨ z.1 = 1) → decode cL_counts pc = .ok (.ireturn, 1) → cells ≤ 0 → slots ≤ 0 → St D A s.heap (kbW q0 q cA z.2 ab aw b w) H locs → W p l e rm_L_counts s m args below meth c H locs cells slots (Qf z) (F0 m pc ls [.int z.1])) (d : Dk) (x2 : Int32) (x3 : Int32) (x4 : Int32) (x5 : Int32) (x6 : Int32) (x7 : Int32) (z : Int32 × Dk) (hf : f_L_counts_72 b w d x2 x3 x4 x5 x6 x7 = some z) (H : Heap) (locs : List Loc) (ls : Array Slot) (h : St D A s.heap (kbW q0 q cA d ab aw b w) H locs) (hl : lv_has ls 9 [(0, .ref (q0 0)), (2, .int x2), (3, .int x3), (4, .int x4), (5, .int x5), (6, .int x6), (7, .int x7)]) : W p l e rm_L_counts s m args below meth c H locs 0 0 (Qf z) (F0 m 72 ls []) := by
  obtain ⟨C, hl0, hXA, hN⟩ := id X
  obtain ⟨hx, hb, hml, hown, hts, hK, hlk⟩ := id C
  rw [f_L_counts_72] at hf
  refine lv_iload (pc := 72) hx hb dL_counts_72 (lv_at hl 3 rfl) ?_
  refine lv_aload_n (pc := 74) hx hb dL_counts_74 rfl (lv_at hl 0 rfl) ?_
  refine lv_iload_n (pc := 75) hx hb dL_counts_75 rfl (lv_at hl 1 rfl) ?_
  obtain ⟨z1, hc1, hf⟩ := bdS hf
  refine call_H (pc := 76) (As := [.ref (q0 0), .int x2]) (rest := [.int x4]) (ws' := (kbW q0 q cA d ab aw b w)) X h (vn_ordersByAll d x2 hc1) cx_L_188 (kbW_o q0 q cA d ab aw b w) (kbW_o q0 q cA d ab aw b w).symm rfl rfl rfl hl.1 (Nat.le_of_ble_eq_true rfl) dL_counts_76 ⟨(Nat.le_of_ble_eq_true rfl), (Nat.le_of_ble_eq_true rfl)⟩ rfl rfl ⟨(Nat.le_of_ble_eq_true rfl), (Nat.le_of_ble_eq_true rfl)⟩ (fun H locs h => ?_)
  refine W.eq (g2 := F0 m 79 ls [.int z1, .int x4]) rfl ?_
  refine lv_icmp_ne (pc := 79) (tgt := 183) hx hb dL_counts_79 (by decide) (fun c9 => ?_) (fun c9 => ?_)
  · have hf := ifF c9 hf
    refine lv_iconst (pc := 183) (v := 0) hx hb dL_counts_183 (by decide) ?_
    cases hf
    exact hE ((0 : Int32), d) 184 _ _ _ _ _ (Or.inl rfl) dL_counts_184 (Nat.le_of_ble_eq_true rfl) (Nat.le_of_ble_eq_true rfl) h
  · have hf := ifT c9 hf
    refine lv_iload (pc := 82) hx hb dL_counts_82 (lv_at hl 3 rfl) ?_
    refine lv_iconst (pc := 84) (v := 1) hx hb dL_counts_84 (by decide) ?_
    refine lv_icmp_lt (pc := 85) (tgt := 183) hx hb dL_counts_85 (by decide) (fun c9 => ?_) (fun c9 => ?_)
    · have hf := ifT c9 hf
      refine lv_iconst (pc := 183) (v := 0) hx hb dL_counts_183 (by decide) ?_
      cases hf
      exact hE ((0 : Int32), d) 184 _ _ _ _ _ (Or.inl rfl) dL_counts_184 (Nat.le_of_ble_eq_true rfl) (Nat.le_of_ble_eq_true rfl) h
    · have hf := ifF c9 hf
      refine lv_iload (pc := 88) hx hb dL_counts_88 (lv_at hl 3 rfl) ?_
      refine lv_iload (pc := 90) hx hb dL_counts_90 (lv_at hl 5 rfl) ?_
      refine lv_icmp_gt (pc := 92) (tgt := 183) hx hb dL_counts_92 (by decide) (fun c9 => ?_) (fun c9 => ?_)
      · have hf := ifT c9 hf
        refine lv_iconst (pc := 183) (v := 0) hx hb dL_counts_183 (by decide) ?_
        cases hf
        exact hE ((0 : Int32), d) 184 _ _ _ _ _ (Or.inl rfl) dL_counts_184 (Nat.le_of_ble_eq_true rfl) (Nat.le_of_ble_eq_true rfl) h
      · have hf := ifF c9 hf
        refine lv_iload (pc := 95) hx hb dL_counts_95 (lv_at hl 4 rfl) ?_
        refine lv_iconst (pc := 97) (v := 1) hx hb dL_counts_97 (by decide) ?_
        refine lv_icmp_lt (pc := 98) (tgt := 183) hx hb dL_counts_98 (by decide) (fun c9 => ?_) (fun c9 => ?_)
        · have hf := ifT c9 hf
          refine lv_iconst (pc := 183) (v := 0) hx hb dL_counts_183 (by decide) ?_
          cases hf
          exact hE ((0 : Int32), d) 184 _ _ _ _ _ (Or.inl rfl) dL_counts_184 (Nat.le_of_ble_eq_true rfl) (Nat.le_of_ble_eq_true rfl) h
        · have hf := ifF c9 hf
          refine lv_iload (pc := 101) hx hb dL_counts_101 (lv_at hl 4 rfl) ?_
          refine lv_iload (pc := 103) hx hb dL_counts_103 (lv_at hl 3 rfl) ?_
          refine lv_icmp_gt (pc := 105) (tgt := 183) hx hb dL_counts_105 (by decide) (fun c9 => ?_) (fun c9 => ?_)
          · have hf := ifT c9 hf
            refine lv_iconst (pc := 183) (v := 0) hx hb dL_counts_183 (by decide) ?_
            cases hf
            exact hE ((0 : Int32), d) 184 _ _ _ _ _ (Or.inl rfl) dL_counts_184 (Nat.le_of_ble_eq_true rfl) (Nat.le_of_ble_eq_true rfl) h
          · have hf := ifF c9 hf
            refine lv_aload_n (pc := 108) hx hb dL_counts_108 rfl (lv_at hl 0 rfl) ?_
            refine lv_iload_n (pc := 109) hx hb dL_counts_109 rfl (lv_at hl 1 rfl) ?_
            obtain ⟨z2, hc2, hf⟩ := bdS hf
            refine call_H (pc := 110) (As := [.ref (q0 0), .int x2]) (rest := []) (ws' := (kbW q0 q cA d ab aw b w)) X h (vn_state d x2 hc2) cx_L_136 (kbW_o q0 q cA d ab aw b w) (kbW_o q0 q cA d ab aw b w).symm rfl rfl rfl hl.1 (Nat.le_of_ble_eq_true rfl) dL_counts_110 ⟨(Nat.le_of_ble_eq_true rfl), (Nat.le_of_ble_eq_true rfl)⟩ rfl rfl ⟨(Nat.le_of_ble_eq_true rfl), (Nat.le_of_ble_eq_true rfl)⟩ (fun H locs h => ?_)
            refine W.eq (g2 := F0 m 113 ls [.int z2]) rfl ?_
            refine lv_iconst (pc := 113) (v := 2) hx hb dL_counts_113 (by decide) ?_
            refine lv_icmp_ne (pc := 114) (tgt := 121) hx hb dL_counts_114 (by decide) (fun c9 => ?_) (fun c9 => ?_)
            · have hf := ifF c9 hf
              refine lv_iconst (pc := 121) (v := 0) hx hb dL_counts_121 (by decide) ?_
              exact jl_counts_122 X hE   _ _ _ _ _ _ _ _ _ hf _ _ _ h (lv_sub hl [0, 1, 2, 3, 4, 5, 6] rfl)
            · have hf := ifT c9 hf
              refine lv_iconst (pc := 117) (v := 1) hx hb dL_counts_117 (by decide) ?_
              refine lv_goto (pc := 118) (tgt := 122) hx hb dL_counts_118 (by decide) ?_
              exact jl_counts_122 X hE   _ _ _ _ _ _ _ _ _ hf _ _ _ h (lv_sub hl [0, 1, 2, 3, 4, 5, 6] rfl)
noncomputable def f_L_counts_29 (b : (Nat → Int32)) (w : (Nat → Int32)) : Nat → Dk → Int32 → Int32 → Int32 → Int32 → Int32 → Int32 → Int32 → Option (Int32 × Dk)
  | 0, _, _, _, _, _, _, _, _ => none
  | n + 1, d, x2, x3, x4, x5, x6, x7, x8 => (if x3 ≤ x8 then (f_L_counts_72 b w d x2 x3 x4 x5 x6 x7) else (if inb (((8 : Int32) * x2) + x8) 48 then (if (b (((8 : Int32) * x2) + x8).toNatClampNeg) = 0 then ((f_L_counts_29 b w n) d x2 x3 x4 x5 (x6 * (x8 + (1 : Int32))) (x7 + (1 : Int32)) (x8 + (1 : Int32))) else ((f_L_counts_29 b w n) d x2 x3 x4 x5 (x6 * (x8 + (1 : Int32))) (x7 + (0 : Int32)) (x8 + (1 : Int32)))) else none))
set_option maxHeartbeats 1000000 in
set_option maxRecDepth 100000 in
theorem jl_counts_29  {b : (Nat → Int32)} {w : (Nat → Int32)} (X : LCx p l s m args meth c cL_counts 9 D cA A) (hE : ∀ (z : Int32 × Dk) (pc : Nat) (H : Heap) (locs : List Loc) (ls : Array Slot) (cells slots : Nat), (z.1 = 0 ∨ z.1 = 1) → decode cL_counts pc = .ok (.ireturn, 1) → cells ≤ 0 → slots ≤ 0 → St D A s.heap (kbW q0 q cA z.2 ab aw b w) H locs → W p l e rm_L_counts s m args below meth c H locs cells slots (Qf z) (F0 m pc ls [.int z.1])) : ∀ (n : Nat) (d : Dk) (x2 : Int32) (x3 : Int32) (x4 : Int32) (x5 : Int32) (x6 : Int32) (x7 : Int32) (x8 : Int32) (z : Int32 × Dk), f_L_counts_29 b w n d x2 x3 x4 x5 x6 x7 x8 = some z → ∀ (H : Heap) (locs : List Loc) (ls : Array Slot), St D A s.heap (kbW q0 q cA d ab aw b w) H locs → lv_has ls 9 [(0, .ref (q0 0)), (1, .ref (ab)), (2, .int x2), (3, .int x3), (4, .int x4), (5, .int x5), (6, .int x6), (7, .int x7), (8, .int x8)] → W p l e rm_L_counts s m args below meth c H locs 0 0 (Qf z) (F0 m 29 ls []) := by
  obtain ⟨C, hl0, hXA, hN⟩ := id X
  obtain ⟨hx, hb, hml, hown, hts, hK, hlk⟩ := id C
  intro n
  induction n with
  | zero => intro d x2 x3 x4 x5 x6 x7 x8 z hf; rw [f_L_counts_29] at hf; cases hf
  | succ n ih =>
    intro d x2 x3 x4 x5 x6 x7 x8 z hf H locs ls h hl
    rw [f_L_counts_29] at hf
    refine lv_iload (pc := 29) hx hb dL_counts_29 (lv_at hl 8 rfl) ?_
    refine lv_iload_n (pc := 31) hx hb dL_counts_31 rfl (lv_at hl 3 rfl) ?_
    refine lv_icmp_ge (pc := 32) (tgt := 72) hx hb dL_counts_32 (by decide) (fun c9 => ?_) (fun c9 => ?_)
    · have hf := ifT c9 hf
      exact jl_counts_72 X hE   _ _ _ _ _ _ _ _ hf _ _ _ h (lv_sub hl [0, 2, 3, 4, 5, 6, 7] rfl)
    · have hf := ifF c9 hf
      refine lv_iload (pc := 35) hx hb dL_counts_35 (lv_at hl 6 rfl) ?_
      refine lv_iload (pc := 37) hx hb dL_counts_37 (lv_at hl 8 rfl) ?_
      refine lv_iconst (pc := 39) (v := 1) hx hb dL_counts_39 (by decide) ?_
      refine lv_iadd (pc := 40) hx hb dL_counts_40 ?_
      refine lv_imul (pc := 41) hx hb dL_counts_41 ?_
      refine lv_istore (pc := 42) (lv' := [(6, .int (x6 * (x8 + (1 : Int32)))), (0, .ref (q0 0)), (1, .ref (ab)), (2, .int x2), (3, .int x3), (4, .int x4), (5, .int x5), (7, .int x7), (8, .int x8)]) hx hb dL_counts_42 hl (by decide) rfl (fun ls hl => ?_)
      refine lv_iload (pc := 44) hx hb dL_counts_44 (lv_at hl 7 rfl) ?_
      refine lv_aload_n (pc := 46) hx hb dL_counts_46 rfl (lv_at hl 2 rfl) ?_
      refine lv_bipush (pc := 47) (v := 8) hx hb dL_counts_47 (by decide) ?_
      refine lv_iload_n (pc := 49) hx hb dL_counts_49 rfl (lv_at hl 3 rfl) ?_
      refine lv_imul (pc := 50) hx hb dL_counts_50 ?_
      refine lv_iload (pc := 51) hx hb dL_counts_51 (lv_at hl 8 rfl) ?_
      refine lv_iadd (pc := 53) hx hb dL_counts_53 ?_
      obtain ⟨hin, hf⟩ := ifS hf
      refine g_ild (pc := 54) (n := 48) (f := b) C h.1 0 (kbW_0 ..) hin dL_counts_54 ?_
      refine lv_if_ne (pc := 55) (tgt := 62) hx hb dL_counts_55 (by decide) (fun c9 => ?_) (fun c9 => ?_)
      · have hf := ifF c9 hf
        refine lv_iconst (pc := 62) (v := 0) hx hb dL_counts_62 (by decide) ?_
        refine lv_iadd (pc := 63) hx hb dL_counts_63 ?_
        refine lv_istore (pc := 64) (lv' := [(7, .int (x7 + (0 : Int32))), (6, .int (x6 * (x8 + (1 : Int32)))), (0, .ref (q0 0)), (1, .ref (ab)), (2, .int x2), (3, .int x3), (4, .int x4), (5, .int x5), (8, .int x8)]) hx hb dL_counts_64 hl (by decide) rfl (fun ls hl => ?_)
        refine lv_iinc (pc := 66) (v := (x8 + (1 : Int32))) (lv' := [(8, .int (x8 + (1 : Int32))), (7, .int (x7 + (0 : Int32))), (6, .int (x6 * (x8 + (1 : Int32)))), (0, .ref (q0 0)), (1, .ref (ab)), (2, .int x2), (3, .int x3), (4, .int x4), (5, .int x5)]) hx hb dL_counts_66 hl (k := 8) rfl rfl (by decide) rfl (fun ls hl => ?_)
        refine lv_goto (pc := 69) (tgt := 29) hx hb dL_counts_69 (by decide) ?_
        exact ih _ _ _ _ _ _ _ _ _ hf _ _ _ h (lv_sub hl [3, 4, 5, 6, 7, 8, 2, 1, 0] rfl)
      · have hf := ifT c9 hf
        refine lv_iconst (pc := 58) (v := 1) hx hb dL_counts_58 (by decide) ?_
        refine lv_goto (pc := 59) (tgt := 63) hx hb dL_counts_59 (by decide) ?_
        refine lv_iadd (pc := 63) hx hb dL_counts_63 ?_
        refine lv_istore (pc := 64) (lv' := [(7, .int (x7 + (1 : Int32))), (6, .int (x6 * (x8 + (1 : Int32)))), (0, .ref (q0 0)), (1, .ref (ab)), (2, .int x2), (3, .int x3), (4, .int x4), (5, .int x5), (8, .int x8)]) hx hb dL_counts_64 hl (by decide) rfl (fun ls hl => ?_)
        refine lv_iinc (pc := 66) (v := (x8 + (1 : Int32))) (lv' := [(8, .int (x8 + (1 : Int32))), (7, .int (x7 + (1 : Int32))), (6, .int (x6 * (x8 + (1 : Int32)))), (0, .ref (q0 0)), (1, .ref (ab)), (2, .int x2), (3, .int x3), (4, .int x4), (5, .int x5)]) hx hb dL_counts_66 hl (k := 8) rfl rfl (by decide) rfl (fun ls hl => ?_)
        refine lv_goto (pc := 69) (tgt := 29) hx hb dL_counts_69 (by decide) ?_
        exact ih _ _ _ _ _ _ _ _ _ hf _ _ _ h (lv_sub hl [3, 4, 5, 6, 7, 8, 2, 1, 0] rfl)
noncomputable def f_L_counts (b : (Nat → Int32)) (w : (Nat → Int32)) (d : Dk) (x2 : Int32) : Option (Int32 × Dk) := ((gn_slots d x2).bind fun z1 => ((gn_orders d x2).bind fun z2 => ((gn_ordersLeft z2.2 x2).bind fun z3 => (f_L_counts_29 b w FU z3.2 x2 z1 z2.1 z3.1 (1 : Int32) (0 : Int32) (0 : Int32)))))
set_option maxHeartbeats 1000000 in
set_option maxRecDepth 100000 in
theorem jl_counts_0  {b : (Nat → Int32)} {w : (Nat → Int32)} (X : LCx p l s m args meth c cL_counts 9 D cA A) (hE : ∀ (z : Int32 × Dk) (pc : Nat) (H : Heap) (locs : List Loc) (ls : Array Slot) (cells slots : Nat), (z.1 = 0 ∨ z.1 = 1) → decode cL_counts pc = .ok (.ireturn, 1) → cells ≤ 0 → slots ≤ 0 → St D A s.heap (kbW q0 q cA z.2 ab aw b w) H locs → W p l e rm_L_counts s m args below meth c H locs cells slots (Qf z) (F0 m pc ls [.int z.1])) (d : Dk) (x2 : Int32) (z : Int32 × Dk) (hf : f_L_counts b w d x2 = some z) (H : Heap) (locs : List Loc) (ls : Array Slot) (h : St D A s.heap (kbW q0 q cA d ab aw b w) H locs) (hl : lv_has ls 9 [(0, .ref (q0 0)), (1, .ref (ab)), (2, .int x2)]) : W p l e rm_L_counts s m args below meth c H locs 0 0 (Qf z) (F0 m 0 ls []) := by
  obtain ⟨C, hl0, hXA, hN⟩ := id X
  obtain ⟨hx, hb, hml, hown, hts, hK, hlk⟩ := id C
  rw [f_L_counts] at hf
  refine lv_aload_n (pc := 0) hx hb dL_counts_0 rfl (lv_at hl 0 rfl) ?_
  refine lv_iload_n (pc := 1) hx hb dL_counts_1 rfl (lv_at hl 2 rfl) ?_
  obtain ⟨z1, hc1, hf⟩ := bdS hf
  refine call_H (pc := 2) (As := [.ref (q0 0), .int x2]) (rest := []) (ws' := (kbW q0 q cA d ab aw b w)) X h (vn_slots d x2 hc1) cx_L_148 (kbW_o q0 q cA d ab aw b w) (kbW_o q0 q cA d ab aw b w).symm rfl rfl rfl hl.1 (Nat.le_of_ble_eq_true rfl) dL_counts_2 ⟨(Nat.le_of_ble_eq_true rfl), (Nat.le_of_ble_eq_true rfl)⟩ rfl rfl ⟨(Nat.le_of_ble_eq_true rfl), (Nat.le_of_ble_eq_true rfl)⟩ (fun H locs h => ?_)
  refine W.eq (g2 := F0 m 5 ls [.int z1]) rfl ?_
  refine lv_istore_n (pc := 5) (lv' := [(3, .int z1), (0, .ref (q0 0)), (1, .ref (ab)), (2, .int x2)]) hx hb dL_counts_5 rfl hl (by decide) rfl (fun ls hl => ?_)
  refine lv_aload_n (pc := 6) hx hb dL_counts_6 rfl (lv_at hl 1 rfl) ?_
  refine lv_iload_n (pc := 7) hx hb dL_counts_7 rfl (lv_at hl 3 rfl) ?_
  obtain ⟨z2, hc2, hf⟩ := bdS hf
  refine call_H (pc := 8) (As := [.ref (q0 0), .int x2]) (rest := []) (ws' := (kbW q0 q cA z2.2 ab aw b w)) X h (vn_orders d x2 hc2) cx_L_184 (kbW_o q0 q cA d ab aw b w) (kbW_o q0 q cA z2.2 ab aw b w).symm (kW_fst _ _ _ _ _ (nn_orders hc2)) rfl rfl hl.1 (Nat.le_of_ble_eq_true rfl) dL_counts_8 ⟨(Nat.le_of_ble_eq_true rfl), (Nat.le_of_ble_eq_true rfl)⟩ rfl rfl ⟨(Nat.le_of_ble_eq_true rfl), (Nat.le_of_ble_eq_true rfl)⟩ (fun H locs h => ?_)
  refine W.eq (g2 := F0 m 11 ls [.int z2.1]) rfl ?_
  refine lv_istore (pc := 11) (lv' := [(4, .int z2.1), (3, .int z1), (0, .ref (q0 0)), (1, .ref (ab)), (2, .int x2)]) hx hb dL_counts_11 hl (by decide) rfl (fun ls hl => ?_)
  refine lv_aload_n (pc := 13) hx hb dL_counts_13 rfl (lv_at hl 2 rfl) ?_
  refine lv_iload_n (pc := 14) hx hb dL_counts_14 rfl (lv_at hl 4 rfl) ?_
  obtain ⟨z3, hc3, hf⟩ := bdS hf
  refine call_H (pc := 15) (As := [.ref (q0 0), .int x2]) (rest := []) (ws' := (kbW q0 q cA z3.2 ab aw b w)) X h (vn_ordersLeft z2.2 x2 hc3) cx_L_186 (kbW_o q0 q cA z2.2 ab aw b w) (kbW_o q0 q cA z3.2 ab aw b w).symm (kW_fst _ _ _ _ _ (nn_ordersLeft hc3)) rfl rfl hl.1 (Nat.le_of_ble_eq_true rfl) dL_counts_15 ⟨(Nat.le_of_ble_eq_true rfl), (Nat.le_of_ble_eq_true rfl)⟩ rfl rfl ⟨(Nat.le_of_ble_eq_true rfl), (Nat.le_of_ble_eq_true rfl)⟩ (fun H locs h => ?_)
  refine W.eq (g2 := F0 m 18 ls [.int z3.1]) rfl ?_
  refine lv_istore (pc := 18) (lv' := [(5, .int z3.1), (4, .int z2.1), (3, .int z1), (0, .ref (q0 0)), (1, .ref (ab)), (2, .int x2)]) hx hb dL_counts_18 hl (by decide) rfl (fun ls hl => ?_)
  refine lv_iconst (pc := 20) (v := 1) hx hb dL_counts_20 (by decide) ?_
  refine lv_istore (pc := 21) (lv' := [(6, .int (1 : Int32)), (5, .int z3.1), (4, .int z2.1), (3, .int z1), (0, .ref (q0 0)), (1, .ref (ab)), (2, .int x2)]) hx hb dL_counts_21 hl (by decide) rfl (fun ls hl => ?_)
  refine lv_iconst (pc := 23) (v := 0) hx hb dL_counts_23 (by decide) ?_
  refine lv_istore (pc := 24) (lv' := [(7, .int (0 : Int32)), (6, .int (1 : Int32)), (5, .int z3.1), (4, .int z2.1), (3, .int z1), (0, .ref (q0 0)), (1, .ref (ab)), (2, .int x2)]) hx hb dL_counts_24 hl (by decide) rfl (fun ls hl => ?_)
  refine lv_iconst (pc := 26) (v := 0) hx hb dL_counts_26 (by decide) ?_
  refine lv_istore (pc := 27) (lv' := [(8, .int (0 : Int32)), (7, .int (0 : Int32)), (6, .int (1 : Int32)), (5, .int z3.1), (4, .int z2.1), (3, .int z1), (0, .ref (q0 0)), (1, .ref (ab)), (2, .int x2)]) hx hb dL_counts_27 hl (by decide) rfl (fun ls hl => ?_)
  exact jl_counts_29 X hE   FU _ _ _ _ _ _ _ _ _ hf _ _ _ h (lv_sub hl [6, 7, 8, 5, 4, 3, 2, 1, 0] rfl)
set_option maxRecDepth 100000 in
theorem k_L_counts {q0 : Nat → Nat} {q : Nat → Nat → Nat} {ab aw : Nat} {cA : Nat → ClassId} {D : va_G} (d : Dk) (b : (Nat → Int32)) (w : (Nat → Int32)) (x2 : Int32) {z : Int32 × Dk} (hf : f_L_counts b w d x2 = some z) : CtV yL_counts (.code yL_counts cL_counts 9 (some .boolean)) rm_L_counts [.ref (q0 0), .ref (ab), .int x2] D cA (kbW q0 q cA d ab aw b w) (kbW q0 q cA z.2 ab aw b w) (.int z.1) 0 0 := by
  refine vxL_of (Qc := fun sz => PostU D (kbW q0 q cA d ab aw b w) (kbW q0 q cA z.2 ab aw b w) sz (some (.int z.1))) (by decide) (Nat.le_of_ble_eq_true rfl) rfl ?_
  intro p l e s m below meth c ls C hr h hl
  exact jl_counts_0 (Qf := fun z => vx_MQ below (PostU D (kbW q0 q cA d ab aw b w) (kbW q0 q cA z.2 ab aw b w) s.heap.size (some (.int z.1))) XN _ s 0 0 (va_A (kbW q0 q cA d ab aw b w) s.heap.size)) C (fun z pc H locs ls cells slots hbo hd hc hs h => end_z C.1 hr hbo hc hs h hd) _ _ _ hf _ _ _ h (lv_sub hl [0, 1, 2] rfl)
end
