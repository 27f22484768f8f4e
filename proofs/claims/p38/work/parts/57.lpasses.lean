theorem dL_passes_0 : decode cL_passes 0 = .ok (.iload_n 3, 1) := by decide +kernel
theorem dL_passes_1 : decode cL_passes 1 = .ok (.aload_n 0, 1) := by decide +kernel
theorem dL_passes_2 : decode cL_passes 2 = .ok (.invokevirtual 133, 3) := by decide +kernel
theorem dL_passes_5 : decode cL_passes 5 = .ok (.if_icmp .ge 11, 3) := by decide +kernel
theorem dL_passes_8 : decode cL_passes 8 = .ok (.aload_n 0, 1) := by decide +kernel
theorem dL_passes_9 : decode cL_passes 9 = .ok (.iload_n 3, 1) := by decide +kernel
theorem dL_passes_10 : decode cL_passes 10 = .ok (.invokestatic 146, 3) := by decide +kernel
theorem dL_passes_13 : decode cL_passes 13 = .ok (.goto 5, 3) := by decide +kernel
theorem dL_passes_16 : decode cL_passes 16 = .ok (.ldc 25, 2) := by decide +kernel
theorem dL_passes_18 : decode cL_passes 18 = .ok (.istore 4, 2) := by decide +kernel
theorem dL_passes_20 : decode cL_passes 20 = .ok (.iload_n 3, 1) := by decide +kernel
theorem dL_passes_21 : decode cL_passes 21 = .ok (.aload_n 0, 1) := by decide +kernel
theorem dL_passes_22 : decode cL_passes 22 = .ok (.invokevirtual 133, 3) := by decide +kernel
theorem dL_passes_25 : decode cL_passes 25 = .ok (.if_icmp .ge 11, 3) := by decide +kernel
theorem dL_passes_28 : decode cL_passes 28 = .ok (.aload_n 0, 1) := by decide +kernel
theorem dL_passes_29 : decode cL_passes 29 = .ok (.iload_n 3, 1) := by decide +kernel
theorem dL_passes_30 : decode cL_passes 30 = .ok (.invokestatic 141, 3) := by decide +kernel
theorem dL_passes_33 : decode cL_passes 33 = .ok (.goto 4, 3) := by decide +kernel
theorem dL_passes_36 : decode cL_passes 36 = .ok (.iconst 0, 1) := by decide +kernel
theorem dL_passes_37 : decode cL_passes 37 = .ok (.istore 5, 2) := by decide +kernel
theorem dL_passes_39 : decode cL_passes 39 = .ok (.iconst 0, 1) := by decide +kernel
theorem dL_passes_40 : decode cL_passes 40 = .ok (.istore 6, 2) := by decide +kernel
theorem dL_passes_42 : decode cL_passes 42 = .ok (.aload_n 0, 1) := by decide +kernel
theorem dL_passes_43 : decode cL_passes 43 = .ok (.iload_n 3, 1) := by decide +kernel
theorem dL_passes_44 : decode cL_passes 44 = .ok (.invokestatic 146, 3) := by decide +kernel
theorem dL_passes_47 : decode cL_passes 47 = .ok (.iload 4, 2) := by decide +kernel
theorem dL_passes_49 : decode cL_passes 49 = .ok (.if_icmp .ne 31, 3) := by decide +kernel
theorem dL_passes_52 : decode cL_passes 52 = .ok (.aload_n 1, 1) := by decide +kernel
theorem dL_passes_53 : decode cL_passes 53 = .ok (.iload_n 3, 1) := by decide +kernel
theorem dL_passes_54 : decode cL_passes 54 = .ok (.invokestatic 146, 3) := by decide +kernel
theorem dL_passes_57 : decode cL_passes 57 = .ok (.iload 4, 2) := by decide +kernel
theorem dL_passes_59 : decode cL_passes 59 = .ok (.if_icmp .ne 21, 3) := by decide +kernel
theorem dL_passes_62 : decode cL_passes 62 = .ok (.iload 4, 2) := by decide +kernel
theorem dL_passes_64 : decode cL_passes 64 = .ok (.ifCond .lt 12, 3) := by decide +kernel
theorem dL_passes_67 : decode cL_passes 67 = .ok (.iload 4, 2) := by decide +kernel
theorem dL_passes_69 : decode cL_passes 69 = .ok (.aload_n 0, 1) := by decide +kernel
theorem dL_passes_70 : decode cL_passes 70 = .ok (.invokevirtual 130, 3) := by decide +kernel
theorem dL_passes_73 : decode cL_passes 73 = .ok (.if_icmp .le 7, 3) := by decide +kernel
theorem dL_passes_76 : decode cL_passes 76 = .ok (.iconst 1, 1) := by decide +kernel
theorem dL_passes_77 : decode cL_passes 77 = .ok (.goto 4, 3) := by decide +kernel
theorem dL_passes_80 : decode cL_passes 80 = .ok (.iconst 0, 1) := by decide +kernel
theorem dL_passes_81 : decode cL_passes 81 = .ok (.istore 7, 2) := by decide +kernel
theorem dL_passes_83 : decode cL_passes 83 = .ok (.iconst 0, 1) := by decide +kernel
theorem dL_passes_84 : decode cL_passes 84 = .ok (.istore 8, 2) := by decide +kernel
theorem dL_passes_86 : decode cL_passes 86 = .ok (.iload 8, 2) := by decide +kernel
theorem dL_passes_88 : decode cL_passes 88 = .ok (.iload_n 2, 1) := by decide +kernel
theorem dL_passes_89 : decode cL_passes 89 = .ok (.if_icmp .ge 191, 3) := by decide +kernel
theorem dL_passes_92 : decode cL_passes 92 = .ok (.iload 7, 2) := by decide +kernel
theorem dL_passes_94 : decode cL_passes 94 = .ok (.ifCond .eq 186, 3) := by decide +kernel
theorem dL_passes_97 : decode cL_passes 97 = .ok (.aload_n 1, 1) := by decide +kernel
theorem dL_passes_98 : decode cL_passes 98 = .ok (.iconst 1, 1) := by decide +kernel
theorem dL_passes_99 : decode cL_passes 99 = .ok (.invokestatic 190, 3) := by decide +kernel
theorem dL_passes_102 : decode cL_passes 102 = .ok (.istore 9, 2) := by decide +kernel
theorem dL_passes_104 : decode cL_passes 104 = .ok (.iload 6, 2) := by decide +kernel
theorem dL_passes_106 : decode cL_passes 106 = .ok (.iload 9, 2) := by decide +kernel
theorem dL_passes_108 : decode cL_passes 108 = .ok (.iadd, 1) := by decide +kernel
theorem dL_passes_109 : decode cL_passes 109 = .ok (.istore 6, 2) := by decide +kernel
theorem dL_passes_111 : decode cL_passes 111 = .ok (.iload 9, 2) := by decide +kernel
theorem dL_passes_113 : decode cL_passes 113 = .ok (.ifCond .lt 23, 3) := by decide +kernel
theorem dL_passes_116 : decode cL_passes 116 = .ok (.aload_n 1, 1) := by decide +kernel
theorem dL_passes_117 : decode cL_passes 117 = .ok (.invokevirtual 130, 3) := by decide +kernel
theorem dL_passes_120 : decode cL_passes 120 = .ok (.aload_n 0, 1) := by decide +kernel
theorem dL_passes_121 : decode cL_passes 121 = .ok (.invokevirtual 130, 3) := by decide +kernel
theorem dL_passes_124 : decode cL_passes 124 = .ok (.iload 8, 2) := by decide +kernel
theorem dL_passes_126 : decode cL_passes 126 = .ok (.iadd, 1) := by decide +kernel
theorem dL_passes_127 : decode cL_passes 127 = .ok (.iconst 1, 1) := by decide +kernel
theorem dL_passes_128 : decode cL_passes 128 = .ok (.iadd, 1) := by decide +kernel
theorem dL_passes_129 : decode cL_passes 129 = .ok (.if_icmp .ne 7, 3) := by decide +kernel
theorem dL_passes_132 : decode cL_passes 132 = .ok (.iconst 1, 1) := by decide +kernel
theorem dL_passes_133 : decode cL_passes 133 = .ok (.goto 4, 3) := by decide +kernel
theorem dL_passes_136 : decode cL_passes 136 = .ok (.iconst 0, 1) := by decide +kernel
theorem dL_passes_137 : decode cL_passes 137 = .ok (.istore 7, 2) := by decide +kernel
theorem dL_passes_139 : decode cL_passes 139 = .ok (.iload 7, 2) := by decide +kernel
theorem dL_passes_141 : decode cL_passes 141 = .ok (.ifCond .eq 83, 3) := by decide +kernel
theorem dL_passes_144 : decode cL_passes 144 = .ok (.iload 4, 2) := by decide +kernel
theorem dL_passes_146 : decode cL_passes 146 = .ok (.ifCond .lt 78, 3) := by decide +kernel
theorem dL_passes_149 : decode cL_passes 149 = .ok (.aload_n 1, 1) := by decide +kernel
theorem dL_passes_150 : decode cL_passes 150 = .ok (.iload_n 3, 1) := by decide +kernel
theorem dL_passes_151 : decode cL_passes 151 = .ok (.invokestatic 141, 3) := by decide +kernel
theorem dL_passes_154 : decode cL_passes 154 = .ok (.istore 10, 2) := by decide +kernel
theorem dL_passes_156 : decode cL_passes 156 = .ok (.aload_n 1, 1) := by decide +kernel
theorem dL_passes_157 : decode cL_passes 157 = .ok (.invokevirtual 130, 3) := by decide +kernel
theorem dL_passes_160 : decode cL_passes 160 = .ok (.iload 4, 2) := by decide +kernel
theorem dL_passes_162 : decode cL_passes 162 = .ok (.if_icmp .ge 36, 3) := by decide +kernel
theorem dL_passes_165 : decode cL_passes 165 = .ok (.iload 10, 2) := by decide +kernel
theorem dL_passes_167 : decode cL_passes 167 = .ok (.iload 5, 2) := by decide +kernel
theorem dL_passes_169 : decode cL_passes 169 = .ok (.if_icmp .eq 21, 3) := by decide +kernel
theorem dL_passes_172 : decode cL_passes 172 = .ok (.iload 10, 2) := by decide +kernel
theorem dL_passes_174 : decode cL_passes 174 = .ok (.iload 5, 2) := by decide +kernel
theorem dL_passes_176 : decode cL_passes 176 = .ok (.iconst 1, 1) := by decide +kernel
theorem dL_passes_177 : decode cL_passes 177 = .ok (.iadd, 1) := by decide +kernel
theorem dL_passes_178 : decode cL_passes 178 = .ok (.if_icmp .ne 16, 3) := by decide +kernel
theorem dL_passes_181 : decode cL_passes 181 = .ok (.aload_n 1, 1) := by decide +kernel
theorem dL_passes_182 : decode cL_passes 182 = .ok (.iload_n 3, 1) := by decide +kernel
theorem dL_passes_183 : decode cL_passes 183 = .ok (.invokestatic 136, 3) := by decide +kernel
theorem dL_passes_186 : decode cL_passes 186 = .ok (.iconst 5, 1) := by decide +kernel
theorem dL_passes_187 : decode cL_passes 187 = .ok (.if_icmp .ne 7, 3) := by decide +kernel
theorem dL_passes_190 : decode cL_passes 190 = .ok (.iconst 1, 1) := by decide +kernel
theorem dL_passes_191 : decode cL_passes 191 = .ok (.goto 28, 3) := by decide +kernel
theorem dL_passes_194 : decode cL_passes 194 = .ok (.iconst 0, 1) := by decide +kernel
theorem dL_passes_195 : decode cL_passes 195 = .ok (.goto 24, 3) := by decide +kernel
theorem dL_passes_198 : decode cL_passes 198 = .ok (.aload_n 1, 1) := by decide +kernel
theorem dL_passes_199 : decode cL_passes 199 = .ok (.invokevirtual 130, 3) := by decide +kernel
theorem dL_passes_202 : decode cL_passes 202 = .ok (.iload 4, 2) := by decide +kernel
theorem dL_passes_204 : decode cL_passes 204 = .ok (.if_icmp .gt 10, 3) := by decide +kernel
theorem dL_passes_207 : decode cL_passes 207 = .ok (.iload 10, 2) := by decide +kernel
theorem dL_passes_209 : decode cL_passes 209 = .ok (.iload 5, 2) := by decide +kernel
theorem dL_passes_211 : decode cL_passes 211 = .ok (.if_icmp .le 7, 3) := by decide +kernel
theorem dL_passes_214 : decode cL_passes 214 = .ok (.iconst 1, 1) := by decide +kernel
theorem dL_passes_215 : decode cL_passes 215 = .ok (.goto 4, 3) := by decide +kernel
theorem dL_passes_218 : decode cL_passes 218 = .ok (.iconst 0, 1) := by decide +kernel
theorem dL_passes_219 : decode cL_passes 219 = .ok (.istore 7, 2) := by decide +kernel
theorem dL_passes_221 : decode cL_passes 221 = .ok (.goto 53, 3) := by decide +kernel
theorem dL_passes_224 : decode cL_passes 224 = .ok (.iload 7, 2) := by decide +kernel
theorem dL_passes_226 : decode cL_passes 226 = .ok (.ifCond .eq 45, 3) := by decide +kernel
theorem dL_passes_229 : decode cL_passes 229 = .ok (.iload 4, 2) := by decide +kernel
theorem dL_passes_231 : decode cL_passes 231 = .ok (.ldc 25, 2) := by decide +kernel
theorem dL_passes_233 : decode cL_passes 233 = .ok (.if_icmp .eq 34, 3) := by decide +kernel
theorem dL_passes_236 : decode cL_passes 236 = .ok (.aload_n 1, 1) := by decide +kernel
theorem dL_passes_237 : decode cL_passes 237 = .ok (.iload_n 3, 1) := by decide +kernel
theorem dL_passes_238 : decode cL_passes 238 = .ok (.invokestatic 141, 3) := by decide +kernel
theorem dL_passes_241 : decode cL_passes 241 = .ok (.iload 5, 2) := by decide +kernel
theorem dL_passes_243 : decode cL_passes 243 = .ok (.if_icmp .eq 24, 3) := by decide +kernel
theorem dL_passes_246 : decode cL_passes 246 = .ok (.aload_n 1, 1) := by decide +kernel
theorem dL_passes_247 : decode cL_passes 247 = .ok (.iload_n 3, 1) := by decide +kernel
theorem dL_passes_248 : decode cL_passes 248 = .ok (.invokestatic 141, 3) := by decide +kernel
theorem dL_passes_251 : decode cL_passes 251 = .ok (.iload 5, 2) := by decide +kernel
theorem dL_passes_253 : decode cL_passes 253 = .ok (.iconst 1, 1) := by decide +kernel
theorem dL_passes_254 : decode cL_passes 254 = .ok (.iadd, 1) := by decide +kernel
theorem dL_passes_255 : decode cL_passes 255 = .ok (.if_icmp .ne 16, 3) := by decide +kernel
theorem dL_passes_258 : decode cL_passes 258 = .ok (.aload_n 1, 1) := by decide +kernel
theorem dL_passes_259 : decode cL_passes 259 = .ok (.iload_n 3, 1) := by decide +kernel
theorem dL_passes_260 : decode cL_passes 260 = .ok (.invokestatic 136, 3) := by decide +kernel
theorem dL_passes_263 : decode cL_passes 263 = .ok (.iconst 5, 1) := by decide +kernel
theorem dL_passes_264 : decode cL_passes 264 = .ok (.if_icmp .ne 7, 3) := by decide +kernel
theorem dL_passes_267 : decode cL_passes 267 = .ok (.iconst 1, 1) := by decide +kernel
theorem dL_passes_268 : decode cL_passes 268 = .ok (.goto 4, 3) := by decide +kernel
theorem dL_passes_271 : decode cL_passes 271 = .ok (.iconst 0, 1) := by decide +kernel
theorem dL_passes_272 : decode cL_passes 272 = .ok (.istore 7, 2) := by decide +kernel
theorem dL_passes_274 : decode cL_passes 274 = .ok (.iinc 8 1, 3) := by decide +kernel
theorem dL_passes_277 : decode cL_passes 277 = .ok (.goto (-191), 3) := by decide +kernel
theorem dL_passes_280 : decode cL_passes 280 = .ok (.aload_n 0, 1) := by decide +kernel
theorem dL_passes_281 : decode cL_passes 281 = .ok (.invokevirtual 130, 3) := by decide +kernel
theorem dL_passes_284 : decode cL_passes 284 = .ok (.istore 8, 2) := by decide +kernel
theorem dL_passes_286 : decode cL_passes 286 = .ok (.iload 7, 2) := by decide +kernel
theorem dL_passes_288 : decode cL_passes 288 = .ok (.ifCond .eq 49, 3) := by decide +kernel
theorem dL_passes_291 : decode cL_passes 291 = .ok (.aload_n 0, 1) := by decide +kernel
theorem dL_passes_292 : decode cL_passes 292 = .ok (.iload_n 2, 1) := by decide +kernel
theorem dL_passes_293 : decode cL_passes 293 = .ok (.invokestatic 190, 3) := by decide +kernel
theorem dL_passes_296 : decode cL_passes 296 = .ok (.iload 6, 2) := by decide +kernel
theorem dL_passes_298 : decode cL_passes 298 = .ok (.if_icmp .ne 39, 3) := by decide +kernel
theorem dL_passes_301 : decode cL_passes 301 = .ok (.aload_n 0, 1) := by decide +kernel
theorem dL_passes_302 : decode cL_passes 302 = .ok (.invokevirtual 130, 3) := by decide +kernel
theorem dL_passes_305 : decode cL_passes 305 = .ok (.iload 8, 2) := by decide +kernel
theorem dL_passes_307 : decode cL_passes 307 = .ok (.iload_n 2, 1) := by decide +kernel
theorem dL_passes_308 : decode cL_passes 308 = .ok (.iadd, 1) := by decide +kernel
theorem dL_passes_309 : decode cL_passes 309 = .ok (.if_icmp .ne 28, 3) := by decide +kernel
theorem dL_passes_312 : decode cL_passes 312 = .ok (.aload_n 0, 1) := by decide +kernel
theorem dL_passes_313 : decode cL_passes 313 = .ok (.iconst 0, 1) := by decide +kernel
theorem dL_passes_314 : decode cL_passes 314 = .ok (.invokestatic 190, 3) := by decide +kernel
theorem dL_passes_317 : decode cL_passes 317 = .ok (.ldc 28, 2) := by decide +kernel
theorem dL_passes_319 : decode cL_passes 319 = .ok (.if_icmp .ne 18, 3) := by decide +kernel
theorem dL_passes_322 : decode cL_passes 322 = .ok (.aload_n 0, 1) := by decide +kernel
theorem dL_passes_323 : decode cL_passes 323 = .ok (.bipush 61, 2) := by decide +kernel
theorem dL_passes_325 : decode cL_passes 325 = .ok (.invokestatic 190, 3) := by decide +kernel
theorem dL_passes_328 : decode cL_passes 328 = .ok (.ldc 28, 2) := by decide +kernel
theorem dL_passes_330 : decode cL_passes 330 = .ok (.if_icmp .ne 7, 3) := by decide +kernel
theorem dL_passes_333 : decode cL_passes 333 = .ok (.iconst 1, 1) := by decide +kernel
theorem dL_passes_334 : decode cL_passes 334 = .ok (.goto 4, 3) := by decide +kernel
theorem dL_passes_337 : decode cL_passes 337 = .ok (.iconst 0, 1) := by decide +kernel
theorem dL_passes_338 : decode cL_passes 338 = .ok (.ireturn, 1) := by decide +kernel
section
variable {p : Program} {l : Launch} {e : Env} {s : State} {m : MethodId} {args : Array Value} {below : List Frame} {meth : Method} {c : Code} {D : va_G} {cA : Nat → ClassId} {A : Nat → Prop} {q0 t0 : Nat → Nat} {q tq : Nat → Nat → Nat} {ab aw : Nat}
variable {Qf : Int32 × Dk × Dk → State → Prop}
abbrev rm_L_passes : Room := { frames := 9, cells := 4, slots := 24, locals := 159 }
def f_L_passes_280 (d : Dk) (u : Dk) (x2 : Int32) (x6 : Int32) (x7 : Int32) : Option (Int32 × Dk × Dk) := ((gn_today d).bind fun z1 => (if x7 = 0 then (some ((0 : Int32), d, u)) else ((gn_pass d x2).bind fun z2 => (if z2.1 = x6 then ((gn_today z2.2).bind fun z3 => (if z3 = (z1 + x2) then ((gm_pass z2.2 (0 : Int32)).bind fun z4 => (if z4.1 = (-1000002 : Int32) then ((gm_pass z4.2 (61 : Int32)).bind fun z5 => (if z5.1 = (-1000002 : Int32) then (some ((1 : Int32), z5.2, u)) else (some ((0 : Int32), z5.2, u)))) else (some ((0 : Int32), z4.2, u)))) else (some ((0 : Int32), z2.2, u)))) else (some ((0 : Int32), z2.2, u))))))
set_option maxHeartbeats 1000000 in
set_option maxRecDepth 100000 in
theorem jl_passes_280  (X : LCx p l s m args meth c cL_passes 11 D cA A) (hE : ∀ (z : Int32 × Dk × Dk) (pc : Nat) (H : Heap) (locs : List Loc) (ls : Array Slot) (cells slots : Nat), (z.1 = 0 ∨ z.1 = 1) → decode cL_passes pc = .ok (.ireturn, 1) → cells ≤ 4 → slots ≤ 24 → St D A s.heap (kkW q0 q cA z.2.1 t0 tq z.2.2) H locs → W p l e rm_L_passes s m args below meth c H locs cells slots (Qf z) (F0 m pc ls [.int z.1])) (d : Dk) (u : Dk) (x2 : Int32) (x6 : Int32) (x7 : Int32) (z : Int32 × Dk × Dk) (hf : f_L_passes_280 d u x2 x6 x7 = some z) (H : Heap) (locs : List Loc) (ls : Array Slot) (h : St D A s.heap (kkW q0 q cA d t0 tq u) H locs) (hl : lv_has ls 11 [(0, .ref (q0 0)), (2, .int x2), (6, .int x6), (7, .int x7)]) : W p l e rm_L_passes s m args below meth c H locs 2 12 (Qf z) (F0 m 280 ls []) := by
  obtain ⟨C, hl0, hXA, hN⟩ := id X
  obtain ⟨hx, hb, hml, hown, hts, hK, hlk⟩ := id C
  rw [f_L_passes_280] at hf
  refine lv_aload_n (pc := 280) hx hb dL_passes_280 rfl (lv_at hl 0 rfl) ?_
  obtain ⟨z1, hc1, hf⟩ := bdS hf
  obtain ⟨hn1, hv1⟩ := gn_today_s hc1
  refine call_VRp (pc := 281) (rest := []) (As := []) C h (k_X4_today hn1 (q0 := q0) (q := q) d.2.1 d.2.2 hv1) cw_L_130 (kW_c0 q0 q cA d) rfl (kkW_o ..) rfl rfl hl.1 (Nat.le_of_ble_eq_true rfl) dL_passes_281 ⟨(Nat.le_of_ble_eq_true rfl), (Nat.le_of_ble_eq_true rfl)⟩ rfl rfl ⟨(Nat.le_of_ble_eq_true rfl), (Nat.le_of_ble_eq_true rfl)⟩ (fun H locs h => ?_)
  refine W.eq (g2 := F0 m 284 ls [.int z1]) rfl ?_
  refine lv_istore (pc := 284) (lv' := [(8, .int z1), (0, .ref (q0 0)), (2, .int x2), (6, .int x6), (7, .int x7)]) hx hb dL_passes_284 hl (by decide) rfl (fun ls hl => ?_)
  refine lv_iload (pc := 286) hx hb dL_passes_286 (lv_at hl 4 rfl) ?_
  refine lv_if_eq (pc := 288) (tgt := 337) hx hb dL_passes_288 (by decide) (fun c9 => ?_) (fun c9 => ?_)
  · have hf := ifT c9 hf
    refine lv_iconst (pc := 337) (v := 0) hx hb dL_passes_337 (by decide) ?_
    cases hf
    exact hE ((0 : Int32), d, u) 338 _ _ _ _ _ (Or.inl rfl) dL_passes_338 (Nat.le_of_ble_eq_true rfl) (Nat.le_of_ble_eq_true rfl) h
  · have hf := ifF c9 hf
    refine lv_aload_n (pc := 291) hx hb dL_passes_291 rfl (lv_at hl 1 rfl) ?_
    refine lv_iload_n (pc := 292) hx hb dL_passes_292 rfl (lv_at hl 2 rfl) ?_
    obtain ⟨z2, hc2, hf⟩ := bdS hf
    refine call_H (pc := 293) (As := [.ref (q0 0), .int x2]) (rest := []) (ws' := (kkW q0 q cA z2.2 t0 tq u)) X h (vn_pass d x2 hc2) cx_L_190 (kkW_o q0 q cA d t0 tq u) (kkW_o q0 q cA z2.2 t0 tq u).symm (kW_fst _ _ _ _ _ (nn_pass hc2)) rfl rfl hl.1 (Nat.le_of_ble_eq_true rfl) dL_passes_293 ⟨(Nat.le_of_ble_eq_true rfl), (Nat.le_of_ble_eq_true rfl)⟩ rfl rfl ⟨(Nat.le_of_ble_eq_true rfl), (Nat.le_of_ble_eq_true rfl)⟩ (fun H locs h => ?_)
    refine W.eq (g2 := F0 m 296 ls [.int z2.1]) rfl ?_
    refine lv_iload (pc := 296) hx hb dL_passes_296 (lv_at hl 3 rfl) ?_
    refine lv_icmp_ne (pc := 298) (tgt := 337) hx hb dL_passes_298 (by decide) (fun c9 => ?_) (fun c9 => ?_)
    · have hf := ifF c9 hf
      refine lv_iconst (pc := 337) (v := 0) hx hb dL_passes_337 (by decide) ?_
      cases hf
      exact hE ((0 : Int32), z2.2, u) 338 _ _ _ _ _ (Or.inl rfl) dL_passes_338 (Nat.le_of_ble_eq_true rfl) (Nat.le_of_ble_eq_true rfl) h
    · have hf := ifT c9 hf
      refine lv_aload_n (pc := 301) hx hb dL_passes_301 rfl (lv_at hl 1 rfl) ?_
      obtain ⟨z3, hc3, hf⟩ := bdS hf
      obtain ⟨hn3, hv3⟩ := gn_today_s hc3
      refine call_VRp (pc := 302) (rest := []) (As := []) C h (k_X4_today hn3 (q0 := q0) (q := q) z2.2.2.1 z2.2.2.2 hv3) cw_L_130 (kW_c0 q0 q cA z2.2) rfl (kkW_o ..) rfl rfl hl.1 (Nat.le_of_ble_eq_true rfl) dL_passes_302 ⟨(Nat.le_of_ble_eq_true rfl), (Nat.le_of_ble_eq_true rfl)⟩ rfl rfl ⟨(Nat.le_of_ble_eq_true rfl), (Nat.le_of_ble_eq_true rfl)⟩ (fun H locs h => ?_)
      refine W.eq (g2 := F0 m 305 ls [.int z3]) rfl ?_
      refine lv_iload (pc := 305) hx hb dL_passes_305 (lv_at hl 0 rfl) ?_
      refine lv_iload_n (pc := 307) hx hb dL_passes_307 rfl (lv_at hl 2 rfl) ?_
      refine lv_iadd (pc := 308) hx hb dL_passes_308 ?_
      refine lv_icmp_ne (pc := 309) (tgt := 337) hx hb dL_passes_309 (by decide) (fun c9 => ?_) (fun c9 => ?_)
      · have hf := ifF c9 hf
        refine lv_iconst (pc := 337) (v := 0) hx hb dL_passes_337 (by decide) ?_
        cases hf
        exact hE ((0 : Int32), z2.2, u) 338 _ _ _ _ _ (Or.inl rfl) dL_passes_338 (Nat.le_of_ble_eq_true rfl) (Nat.le_of_ble_eq_true rfl) h
      · have hf := ifT c9 hf
        refine lv_aload_n (pc := 312) hx hb dL_passes_312 rfl (lv_at hl 1 rfl) ?_
        refine lv_iconst (pc := 313) (v := 0) hx hb dL_passes_313 (by decide) ?_
        obtain ⟨z4, hc4, hf⟩ := bdS hf
        refine call_H (pc := 314) (As := [.ref (q0 0), .int (0 : Int32)]) (rest := []) (ws' := (kkW q0 q cA z4.2 t0 tq u)) X h (vm_pass z2.2 (0 : Int32) hc4) cx_L_190 (kkW_o q0 q cA z2.2 t0 tq u) (kkW_o q0 q cA z4.2 t0 tq u).symm (kW_fst _ _ _ _ _ (nm_pass hc4)) rfl rfl hl.1 (Nat.le_of_ble_eq_true rfl) dL_passes_314 ⟨(Nat.le_of_ble_eq_true rfl), (Nat.le_of_ble_eq_true rfl)⟩ rfl rfl ⟨(Nat.le_of_ble_eq_true rfl), (Nat.le_of_ble_eq_true rfl)⟩ (fun H locs h => ?_)
        refine W.eq (g2 := F0 m 317 ls [.int z4.1]) rfl ?_
        refine lv_ldc (pc := 317) (v := -1000002) hx hb hown (hts _ kc_L_28) dL_passes_317 ?_
        refine lv_icmp_ne (pc := 319) (tgt := 337) hx hb dL_passes_319 (by decide) (fun c9 => ?_) (fun c9 => ?_)
        · have hf := ifF c9 hf
          refine lv_iconst (pc := 337) (v := 0) hx hb dL_passes_337 (by decide) ?_
          cases hf
          exact hE ((0 : Int32), z4.2, u) 338 _ _ _ _ _ (Or.inl rfl) dL_passes_338 (Nat.le_of_ble_eq_true rfl) (Nat.le_of_ble_eq_true rfl) h
        · have hf := ifT c9 hf
          refine lv_aload_n (pc := 322) hx hb dL_passes_322 rfl (lv_at hl 1 rfl) ?_
          refine lv_bipush (pc := 323) (v := 61) hx hb dL_passes_323 (by decide) ?_
          obtain ⟨z5, hc5, hf⟩ := bdS hf
          refine call_H (pc := 325) (As := [.ref (q0 0), .int (61 : Int32)]) (rest := []) (ws' := (kkW q0 q cA z5.2 t0 tq u)) X h (vm_pass z4.2 (61 : Int32) hc5) cx_L_190 (kkW_o q0 q cA z4.2 t0 tq u) (kkW_o q0 q cA z5.2 t0 tq u).symm (kW_fst _ _ _ _ _ (nm_pass hc5)) rfl rfl hl.1 (Nat.le_of_ble_eq_true rfl) dL_passes_325 ⟨(Nat.le_of_ble_eq_true rfl), (Nat.le_of_ble_eq_true rfl)⟩ rfl rfl ⟨(Nat.le_of_ble_eq_true rfl), (Nat.le_of_ble_eq_true rfl)⟩ (fun H locs h => ?_)
          refine W.eq (g2 := F0 m 328 ls [.int z5.1]) rfl ?_
          refine lv_ldc (pc := 328) (v := -1000002) hx hb hown (hts _ kc_L_28) dL_passes_328 ?_
          refine lv_icmp_ne (pc := 330) (tgt := 337) hx hb dL_passes_330 (by decide) (fun c9 => ?_) (fun c9 => ?_)
          · have hf := ifF c9 hf
            refine lv_iconst (pc := 337) (v := 0) hx hb dL_passes_337 (by decide) ?_
            cases hf
            exact hE ((0 : Int32), z5.2, u) 338 _ _ _ _ _ (Or.inl rfl) dL_passes_338 (Nat.le_of_ble_eq_true rfl) (Nat.le_of_ble_eq_true rfl) h
          · have hf := ifT c9 hf
            refine lv_iconst (pc := 333) (v := 1) hx hb dL_passes_333 (by decide) ?_
            refine lv_goto (pc := 334) (tgt := 338) hx hb dL_passes_334 (by decide) ?_
            cases hf
            exact hE ((1 : Int32), z5.2, u) 338 _ _ _ _ _ (Or.inr rfl) dL_passes_338 (Nat.le_of_ble_eq_true rfl) (Nat.le_of_ble_eq_true rfl) h
def f_L_passes_224 (r86 : Dk → Dk → Int32 → Int32 → Int32 → Int32 → Int32 → Int32 → Int32 → Option (Int32 × Dk × Dk)) (d : Dk) (u : Dk) (x2 : Int32) (x3 : Int32) (x4 : Int32) (x5 : Int32) (x6 : Int32) (x7 : Int32) (x8 : Int32) : Option (Int32 × Dk × Dk) := (if x7 = 0 then (r86 d u x2 x3 x4 x5 x6 (0 : Int32) (x8 + (1 : Int32))) else (if x4 = (-1000001 : Int32) then (r86 d u x2 x3 x4 x5 x6 (1 : Int32) (x8 + (1 : Int32))) else ((gn_events u x3).bind fun z1 => (if z1 = x5 then (r86 d u x2 x3 x4 x5 x6 (1 : Int32) (x8 + (1 : Int32))) else ((gn_events u x3).bind fun z2 => (if z2 = (x5 + (1 : Int32)) then ((gn_state u x3).bind fun z3 => (if z3 = (5 : Int32) then (r86 d u x2 x3 x4 x5 x6 (1 : Int32) (x8 + (1 : Int32))) else (r86 d u x2 x3 x4 x5 x6 (0 : Int32) (x8 + (1 : Int32))))) else (r86 d u x2 x3 x4 x5 x6 (0 : Int32) (x8 + (1 : Int32)))))))))
set_option maxHeartbeats 1000000 in
set_option maxRecDepth 100000 in
theorem jl_passes_224  (X : LCx p l s m args meth c cL_passes 11 D cA A) (hE : ∀ (z : Int32 × Dk × Dk) (pc : Nat) (H : Heap) (locs : List Loc) (ls : Array Slot) (cells slots : Nat), (z.1 = 0 ∨ z.1 = 1) → decode cL_passes pc = .ok (.ireturn, 1) → cells ≤ 4 → slots ≤ 24 → St D A s.heap (kkW q0 q cA z.2.1 t0 tq z.2.2) H locs → W p l e rm_L_passes s m args below meth c H locs cells slots (Qf z) (F0 m pc ls [.int z.1])) (r86 : Dk → Dk → Int32 → Int32 → Int32 → Int32 → Int32 → Int32 → Int32 → Option (Int32 × Dk × Dk)) (hr86 : ∀ (d : Dk) (u : Dk) (x2 : Int32) (x3 : Int32) (x4 : Int32) (x5 : Int32) (x6 : Int32) (x7 : Int32) (x8 : Int32) (z : Int32 × Dk × Dk), r86 d u x2 x3 x4 x5 x6 x7 x8 = some z → ∀ (H : Heap) (locs : List Loc) (ls : Array Slot), St D A s.heap (kkW q0 q cA d t0 tq u) H locs → lv_has ls 11 [(0, .ref (q0 0)), (1, .ref (t0 0)), (2, .int x2), (3, .int x3), (4, .int x4), (5, .int x5), (6, .int x6), (7, .int x7), (8, .int x8)] → W p l e rm_L_passes s m args below meth c H locs 2 12 (Qf z) (F0 m 86 ls [])) (d : Dk) (u : Dk) (x2 : Int32) (x3 : Int32) (x4 : Int32) (x5 : Int32) (x6 : Int32) (x7 : Int32) (x8 : Int32) (z : Int32 × Dk × Dk) (hf : f_L_passes_224 r86 d u x2 x3 x4 x5 x6 x7 x8 = some z) (H : Heap) (locs : List Loc) (ls : Array Slot) (h : St D A s.heap (kkW q0 q cA d t0 tq u) H locs) (hl : lv_has ls 11 [(0, .ref (q0 0)), (1, .ref (t0 0)), (2, .int x2), (3, .int x3), (4, .int x4), (5, .int x5), (6, .int x6), (7, .int x7), (8, .int x8)]) : W p l e rm_L_passes s m args below meth c H locs 2 12 (Qf z) (F0 m 224 ls []) := by
  obtain ⟨C, hl0, hXA, hN⟩ := id X
  obtain ⟨hx, hb, hml, hown, hts, hK, hlk⟩ := id C
  rw [f_L_passes_224] at hf
  refine lv_iload (pc := 224) hx hb dL_passes_224 (lv_at hl 7 rfl) ?_
  refine lv_if_eq (pc := 226) (tgt := 271) hx hb dL_passes_226 (by decide) (fun c9 => ?_) (fun c9 => ?_)
  · have hf := ifT c9 hf
    refine lv_iconst (pc := 271) (v := 0) hx hb dL_passes_271 (by decide) ?_
    refine lv_istore (pc := 272) (lv' := [(7, .int (0 : Int32)), (0, .ref (q0 0)), (1, .ref (t0 0)), (2, .int x2), (3, .int x3), (4, .int x4), (5, .int x5), (6, .int x6), (8, .int x8)]) hx hb dL_passes_272 hl (by decide) rfl (fun ls hl => ?_)
    refine lv_iinc (pc := 274) (v := (x8 + (1 : Int32))) (lv' := [(8, .int (x8 + (1 : Int32))), (7, .int (0 : Int32)), (0, .ref (q0 0)), (1, .ref (t0 0)), (2, .int x2), (3, .int x3), (4, .int x4), (5, .int x5), (6, .int x6)]) hx hb dL_passes_274 hl (k := 8) rfl rfl (by decide) rfl (fun ls hl => ?_)
    refine lv_goto (pc := 277) (tgt := 86) hx hb dL_passes_277 (by decide) ?_
    exact hr86 _ _ _ _ _ _ _ _ _ _ hf _ _ _ h (lv_sub hl [2, 3, 4, 5, 6, 7, 8, 1, 0] rfl)
  · have hf := ifF c9 hf
    refine lv_iload (pc := 229) hx hb dL_passes_229 (lv_at hl 4 rfl) ?_
    refine lv_ldc (pc := 231) (v := -1000001) hx hb hown (hts _ kc_L_25) dL_passes_231 ?_
    refine lv_icmp_eq (pc := 233) (tgt := 267) hx hb dL_passes_233 (by decide) (fun c9 => ?_) (fun c9 => ?_)
    · have hf := ifT c9 hf
      refine lv_iconst (pc := 267) (v := 1) hx hb dL_passes_267 (by decide) ?_
      refine lv_goto (pc := 268) (tgt := 272) hx hb dL_passes_268 (by decide) ?_
      refine lv_istore (pc := 272) (lv' := [(7, .int (1 : Int32)), (0, .ref (q0 0)), (1, .ref (t0 0)), (2, .int x2), (3, .int x3), (4, .int x4), (5, .int x5), (6, .int x6), (8, .int x8)]) hx hb dL_passes_272 hl (by decide) rfl (fun ls hl => ?_)
      refine lv_iinc (pc := 274) (v := (x8 + (1 : Int32))) (lv' := [(8, .int (x8 + (1 : Int32))), (7, .int (1 : Int32)), (0, .ref (q0 0)), (1, .ref (t0 0)), (2, .int x2), (3, .int x3), (4, .int x4), (5, .int x5), (6, .int x6)]) hx hb dL_passes_274 hl (k := 8) rfl rfl (by decide) rfl (fun ls hl => ?_)
      refine lv_goto (pc := 277) (tgt := 86) hx hb dL_passes_277 (by decide) ?_
      exact hr86 _ _ _ _ _ _ _ _ _ _ hf _ _ _ h (lv_sub hl [2, 3, 4, 5, 6, 7, 8, 1, 0] rfl)
    · have hf := ifF c9 hf
      refine lv_aload_n (pc := 236) hx hb dL_passes_236 rfl (lv_at hl 1 rfl) ?_
      refine lv_iload_n (pc := 237) hx hb dL_passes_237 rfl (lv_at hl 3 rfl) ?_
      obtain ⟨z1, hc1, hf⟩ := bdS hf
      refine call_H (pc := 238) (As := [.ref (t0 0), .int x3]) (rest := []) (ws' := (kkW q0 q cA d t0 tq u)) X h (vn_events u x3 hc1) cx_L_141 (kkW_t q0 q cA d t0 tq u) (kkW_t q0 q cA d t0 tq u).symm rfl rfl rfl hl.1 (Nat.le_of_ble_eq_true rfl) dL_passes_238 ⟨(Nat.le_of_ble_eq_true rfl), (Nat.le_of_ble_eq_true rfl)⟩ rfl rfl ⟨(Nat.le_of_ble_eq_true rfl), (Nat.le_of_ble_eq_true rfl)⟩ (fun H locs h => ?_)
      refine W.eq (g2 := F0 m 241 ls [.int z1]) rfl ?_
      refine lv_iload (pc := 241) hx hb dL_passes_241 (lv_at hl 5 rfl) ?_
      refine lv_icmp_eq (pc := 243) (tgt := 267) hx hb dL_passes_243 (by decide) (fun c9 => ?_) (fun c9 => ?_)
      · have hf := ifT c9 hf
        refine lv_iconst (pc := 267) (v := 1) hx hb dL_passes_267 (by decide) ?_
        refine lv_goto (pc := 268) (tgt := 272) hx hb dL_passes_268 (by decide) ?_
        refine lv_istore (pc := 272) (lv' := [(7, .int (1 : Int32)), (0, .ref (q0 0)), (1, .ref (t0 0)), (2, .int x2), (3, .int x3), (4, .int x4), (5, .int x5), (6, .int x6), (8, .int x8)]) hx hb dL_passes_272 hl (by decide) rfl (fun ls hl => ?_)
        refine lv_iinc (pc := 274) (v := (x8 + (1 : Int32))) (lv' := [(8, .int (x8 + (1 : Int32))), (7, .int (1 : Int32)), (0, .ref (q0 0)), (1, .ref (t0 0)), (2, .int x2), (3, .int x3), (4, .int x4), (5, .int x5), (6, .int x6)]) hx hb dL_passes_274 hl (k := 8) rfl rfl (by decide) rfl (fun ls hl => ?_)
        refine lv_goto (pc := 277) (tgt := 86) hx hb dL_passes_277 (by decide) ?_
        exact hr86 _ _ _ _ _ _ _ _ _ _ hf _ _ _ h (lv_sub hl [2, 3, 4, 5, 6, 7, 8, 1, 0] rfl)
      · have hf := ifF c9 hf
        refine lv_aload_n (pc := 246) hx hb dL_passes_246 rfl (lv_at hl 1 rfl) ?_
        refine lv_iload_n (pc := 247) hx hb dL_passes_247 rfl (lv_at hl 3 rfl) ?_
        obtain ⟨z2, hc2, hf⟩ := bdS hf
        refine call_H (pc := 248) (As := [.ref (t0 0), .int x3]) (rest := []) (ws' := (kkW q0 q cA d t0 tq u)) X h (vn_events u x3 hc2) cx_L_141 (kkW_t q0 q cA d t0 tq u) (kkW_t q0 q cA d t0 tq u).symm rfl rfl rfl hl.1 (Nat.le_of_ble_eq_true rfl) dL_passes_248 ⟨(Nat.le_of_ble_eq_true rfl), (Nat.le_of_ble_eq_true rfl)⟩ rfl rfl ⟨(Nat.le_of_ble_eq_true rfl), (Nat.le_of_ble_eq_true rfl)⟩ (fun H locs h => ?_)
        refine W.eq (g2 := F0 m 251 ls [.int z2]) rfl ?_
        refine lv_iload (pc := 251) hx hb dL_passes_251 (lv_at hl 5 rfl) ?_
        refine lv_iconst (pc := 253) (v := 1) hx hb dL_passes_253 (by decide) ?_
        refine lv_iadd (pc := 254) hx hb dL_passes_254 ?_
        refine lv_icmp_ne (pc := 255) (tgt := 271) hx hb dL_passes_255 (by decide) (fun c9 => ?_) (fun c9 => ?_)
        · have hf := ifF c9 hf
          refine lv_iconst (pc := 271) (v := 0) hx hb dL_passes_271 (by decide) ?_
          refine lv_istore (pc := 272) (lv' := [(7, .int (0 : Int32)), (0, .ref (q0 0)), (1, .ref (t0 0)), (2, .int x2), (3, .int x3), (4, .int x4), (5, .int x5), (6, .int x6), (8, .int x8)]) hx hb dL_passes_272 hl (by decide) rfl (fun ls hl => ?_)
          refine lv_iinc (pc := 274) (v := (x8 + (1 : Int32))) (lv' := [(8, .int (x8 + (1 : Int32))), (7, .int (0 : Int32)), (0, .ref (q0 0)), (1, .ref (t0 0)), (2, .int x2), (3, .int x3), (4, .int x4), (5, .int x5), (6, .int x6)]) hx hb dL_passes_274 hl (k := 8) rfl rfl (by decide) rfl (fun ls hl => ?_)
          refine lv_goto (pc := 277) (tgt := 86) hx hb dL_passes_277 (by decide) ?_
          exact hr86 _ _ _ _ _ _ _ _ _ _ hf _ _ _ h (lv_sub hl [2, 3, 4, 5, 6, 7, 8, 1, 0] rfl)
        · have hf := ifT c9 hf
          refine lv_aload_n (pc := 258) hx hb dL_passes_258 rfl (lv_at hl 1 rfl) ?_
          refine lv_iload_n (pc := 259) hx hb dL_passes_259 rfl (lv_at hl 3 rfl) ?_
          obtain ⟨z3, hc3, hf⟩ := bdS hf
          refine call_H (pc := 260) (As := [.ref (t0 0), .int x3]) (rest := []) (ws' := (kkW q0 q cA d t0 tq u)) X h (vn_state u x3 hc3) cx_L_136 (kkW_t q0 q cA d t0 tq u) (kkW_t q0 q cA d t0 tq u).symm rfl rfl rfl hl.1 (Nat.le_of_ble_eq_true rfl) dL_passes_260 ⟨(Nat.le_of_ble_eq_true rfl), (Nat.le_of_ble_eq_true rfl)⟩ rfl rfl ⟨(Nat.le_of_ble_eq_true rfl), (Nat.le_of_ble_eq_true rfl)⟩ (fun H locs h => ?_)
          refine W.eq (g2 := F0 m 263 ls [.int z3]) rfl ?_
          refine lv_iconst (pc := 263) (v := 5) hx hb dL_passes_263 (by decide) ?_
          refine lv_icmp_ne (pc := 264) (tgt := 271) hx hb dL_passes_264 (by decide) (fun c9 => ?_) (fun c9 => ?_)
          · have hf := ifF c9 hf
            refine lv_iconst (pc := 271) (v := 0) hx hb dL_passes_271 (by decide) ?_
            refine lv_istore (pc := 272) (lv' := [(7, .int (0 : Int32)), (0, .ref (q0 0)), (1, .ref (t0 0)), (2, .int x2), (3, .int x3), (4, .int x4), (5, .int x5), (6, .int x6), (8, .int x8)]) hx hb dL_passes_272 hl (by decide) rfl (fun ls hl => ?_)
            refine lv_iinc (pc := 274) (v := (x8 + (1 : Int32))) (lv' := [(8, .int (x8 + (1 : Int32))), (7, .int (0 : Int32)), (0, .ref (q0 0)), (1, .ref (t0 0)), (2, .int x2), (3, .int x3), (4, .int x4), (5, .int x5), (6, .int x6)]) hx hb dL_passes_274 hl (k := 8) rfl rfl (by decide) rfl (fun ls hl => ?_)
            refine lv_goto (pc := 277) (tgt := 86) hx hb dL_passes_277 (by decide) ?_
            exact hr86 _ _ _ _ _ _ _ _ _ _ hf _ _ _ h (lv_sub hl [2, 3, 4, 5, 6, 7, 8, 1, 0] rfl)
          · have hf := ifT c9 hf
            refine lv_iconst (pc := 267) (v := 1) hx hb dL_passes_267 (by decide) ?_
            refine lv_goto (pc := 268) (tgt := 272) hx hb dL_passes_268 (by decide) ?_
            refine lv_istore (pc := 272) (lv' := [(7, .int (1 : Int32)), (0, .ref (q0 0)), (1, .ref (t0 0)), (2, .int x2), (3, .int x3), (4, .int x4), (5, .int x5), (6, .int x6), (8, .int x8)]) hx hb dL_passes_272 hl (by decide) rfl (fun ls hl => ?_)
            refine lv_iinc (pc := 274) (v := (x8 + (1 : Int32))) (lv' := [(8, .int (x8 + (1 : Int32))), (7, .int (1 : Int32)), (0, .ref (q0 0)), (1, .ref (t0 0)), (2, .int x2), (3, .int x3), (4, .int x4), (5, .int x5), (6, .int x6)]) hx hb dL_passes_274 hl (k := 8) rfl rfl (by decide) rfl (fun ls hl => ?_)
            refine lv_goto (pc := 277) (tgt := 86) hx hb dL_passes_277 (by decide) ?_
            exact hr86 _ _ _ _ _ _ _ _ _ _ hf _ _ _ h (lv_sub hl [2, 3, 4, 5, 6, 7, 8, 1, 0] rfl)
def f_L_passes_137 (r86 : Dk → Dk → Int32 → Int32 → Int32 → Int32 → Int32 → Int32 → Int32 → Option (Int32 × Dk × Dk)) (d : Dk) (u : Dk) (x2 : Int32) (x3 : Int32) (x4 : Int32) (x5 : Int32) (x6 : Int32) (x8 : Int32) (s0 : Int32) : Option (Int32 × Dk × Dk) := (if s0 = 0 then (f_L_passes_224 r86 d u x2 x3 x4 x5 x6 s0 x8) else (if x4 < 0 then (f_L_passes_224 r86 d u x2 x3 x4 x5 x6 s0 x8) else ((gn_events u x3).bind fun z1 => ((gn_today u).bind fun z2 => (if x4 ≤ z2 then ((gn_today u).bind fun z3 => (if x4 < z3 then (r86 d u x2 x3 x4 x5 x6 (1 : Int32) (x8 + (1 : Int32))) else (if z1 ≤ x5 then (r86 d u x2 x3 x4 x5 x6 (0 : Int32) (x8 + (1 : Int32))) else (r86 d u x2 x3 x4 x5 x6 (1 : Int32) (x8 + (1 : Int32)))))) else (if z1 = x5 then (r86 d u x2 x3 x4 x5 x6 (1 : Int32) (x8 + (1 : Int32))) else (if z1 = (x5 + (1 : Int32)) then ((gn_state u x3).bind fun z3 => (if z3 = (5 : Int32) then (r86 d u x2 x3 x4 x5 x6 (1 : Int32) (x8 + (1 : Int32))) else (r86 d u x2 x3 x4 x5 x6 (0 : Int32) (x8 + (1 : Int32))))) else (r86 d u x2 x3 x4 x5 x6 (0 : Int32) (x8 + (1 : Int32))))))))))
set_option maxHeartbeats 1000000 in
set_option maxRecDepth 100000 in
theorem jl_passes_137  (X : LCx p l s m args meth c cL_passes 11 D cA A) (hE : ∀ (z : Int32 × Dk × Dk) (pc : Nat) (H : Heap) (locs : List Loc) (ls : Array Slot) (cells slots : Nat), (z.1 = 0 ∨ z.1 = 1) → decode cL_passes pc = .ok (.ireturn, 1) → cells ≤ 4 → slots ≤ 24 → St D A s.heap (kkW q0 q cA z.2.1 t0 tq z.2.2) H locs → W p l e rm_L_passes s m args below meth c H locs cells slots (Qf z) (F0 m pc ls [.int z.1])) (r86 : Dk → Dk → Int32 → Int32 → Int32 → Int32 → Int32 → Int32 → Int32 → Option (Int32 × Dk × Dk)) (hr86 : ∀ (d : Dk) (u : Dk) (x2 : Int32) (x3 : Int32) (x4 : Int32) (x5 : Int32) (x6 : Int32) (x7 : Int32) (x8 : Int32) (z : Int32 × Dk × Dk), r86 d u x2 x3 x4 x5 x6 x7 x8 = some z → ∀ (H : Heap) (locs : List Loc) (ls : Array Slot), St D A s.heap (kkW q0 q cA d t0 tq u) H locs → lv_has ls 11 [(0, .ref (q0 0)), (1, .ref (t0 0)), (2, .int x2), (3, .int x3), (4, .int x4), (5, .int x5), (6, .int x6), (7, .int x7), (8, .int x8)] → W p l e rm_L_passes s m args below meth c H locs 2 12 (Qf z) (F0 m 86 ls [])) (d : Dk) (u : Dk) (x2 : Int32) (x3 : Int32) (x4 : Int32) (x5 : Int32) (x6 : Int32) (x8 : Int32) (s0 : Int32) (z : Int32 × Dk × Dk) (hf : f_L_passes_137 r86 d u x2 x3 x4 x5 x6 x8 s0 = some z) (H : Heap) (locs : List Loc) (ls : Array Slot) (h : St D A s.heap (kkW q0 q cA d t0 tq u) H locs) (hl : lv_has ls 11 [(0, .ref (q0 0)), (1, .ref (t0 0)), (2, .int x2), (3, .int x3), (4, .int x4), (5, .int x5), (6, .int x6), (8, .int x8)]) : W p l e rm_L_passes s m args below meth c H locs 2 12 (Qf z) (F0 m 137 ls [.int s0]) := by
  obtain ⟨C, hl0, hXA, hN⟩ := id X
  obtain ⟨hx, hb, hml, hown, hts, hK, hlk⟩ := id C
  rw [f_L_passes_137] at hf
  refine lv_istore (pc := 137) (lv' := [(7, .int s0), (0, .ref (q0 0)), (1, .ref (t0 0)), (2, .int x2), (3, .int x3), (4, .int x4), (5, .int x5), (6, .int x6), (8, .int x8)]) hx hb dL_passes_137 hl (by decide) rfl (fun ls hl => ?_)
  refine lv_iload (pc := 139) hx hb dL_passes_139 (lv_at hl 0 rfl) ?_
  refine lv_if_eq (pc := 141) (tgt := 224) hx hb dL_passes_141 (by decide) (fun c9 => ?_) (fun c9 => ?_)
  · have hf := ifT c9 hf
    exact jl_passes_224 X hE _ (hr86) _ _ _ _ _ _ _ _ _ _ hf _ _ _ h (lv_sub hl [1, 2, 3, 4, 5, 6, 7, 0, 8] rfl)
  · have hf := ifF c9 hf
    refine lv_iload (pc := 144) hx hb dL_passes_144 (lv_at hl 5 rfl) ?_
    refine lv_if_lt (pc := 146) (tgt := 224) hx hb dL_passes_146 (by decide) (fun c9 => ?_) (fun c9 => ?_)
    · have hf := ifT c9 hf
      exact jl_passes_224 X hE _ (hr86) _ _ _ _ _ _ _ _ _ _ hf _ _ _ h (lv_sub hl [1, 2, 3, 4, 5, 6, 7, 0, 8] rfl)
    · have hf := ifF c9 hf
      refine lv_aload_n (pc := 149) hx hb dL_passes_149 rfl (lv_at hl 2 rfl) ?_
      refine lv_iload_n (pc := 150) hx hb dL_passes_150 rfl (lv_at hl 4 rfl) ?_
      obtain ⟨z1, hc1, hf⟩ := bdS hf
      refine call_H (pc := 151) (As := [.ref (t0 0), .int x3]) (rest := []) (ws' := (kkW q0 q cA d t0 tq u)) X h (vn_events u x3 hc1) cx_L_141 (kkW_t q0 q cA d t0 tq u) (kkW_t q0 q cA d t0 tq u).symm rfl rfl rfl hl.1 (Nat.le_of_ble_eq_true rfl) dL_passes_151 ⟨(Nat.le_of_ble_eq_true rfl), (Nat.le_of_ble_eq_true rfl)⟩ rfl rfl ⟨(Nat.le_of_ble_eq_true rfl), (Nat.le_of_ble_eq_true rfl)⟩ (fun H locs h => ?_)
      refine W.eq (g2 := F0 m 154 ls [.int z1]) rfl ?_
      refine lv_istore (pc := 154) (lv' := [(10, .int z1), (7, .int s0), (0, .ref (q0 0)), (1, .ref (t0 0)), (2, .int x2), (3, .int x3), (4, .int x4), (5, .int x5), (6, .int x6), (8, .int x8)]) hx hb dL_passes_154 hl (by decide) rfl (fun ls hl => ?_)
      refine lv_aload_n (pc := 156) hx hb dL_passes_156 rfl (lv_at hl 3 rfl) ?_
      obtain ⟨z2, hc2, hf⟩ := bdS hf
      obtain ⟨hn2, hv2⟩ := gn_today_s hc2
      refine call_VRp (pc := 157) (rest := []) (As := []) C h (k_X4_today hn2 (q0 := t0) (q := tq) u.2.1 u.2.2 hv2) cw_L_130 (kW_c0 t0 tq cA u) rfl (kkW_t ..) rfl rfl hl.1 (Nat.le_of_ble_eq_true rfl) dL_passes_157 ⟨(Nat.le_of_ble_eq_true rfl), (Nat.le_of_ble_eq_true rfl)⟩ rfl rfl ⟨(Nat.le_of_ble_eq_true rfl), (Nat.le_of_ble_eq_true rfl)⟩ (fun H locs h => ?_)
      refine W.eq (g2 := F0 m 160 ls [.int z2]) rfl ?_
      refine lv_iload (pc := 160) hx hb dL_passes_160 (lv_at hl 6 rfl) ?_
      refine lv_icmp_ge (pc := 162) (tgt := 198) hx hb dL_passes_162 (by decide) (fun c9 => ?_) (fun c9 => ?_)
      · have hf := ifT c9 hf
        refine lv_aload_n (pc := 198) hx hb dL_passes_198 rfl (lv_at hl 3 rfl) ?_
        obtain ⟨z3, hc3, hf⟩ := bdS hf
        obtain ⟨hn3, hv3⟩ := gn_today_s hc3
        refine call_VRp (pc := 199) (rest := []) (As := []) C h (k_X4_today hn3 (q0 := t0) (q := tq) u.2.1 u.2.2 hv3) cw_L_130 (kW_c0 t0 tq cA u) rfl (kkW_t ..) rfl rfl hl.1 (Nat.le_of_ble_eq_true rfl) dL_passes_199 ⟨(Nat.le_of_ble_eq_true rfl), (Nat.le_of_ble_eq_true rfl)⟩ rfl rfl ⟨(Nat.le_of_ble_eq_true rfl), (Nat.le_of_ble_eq_true rfl)⟩ (fun H locs h => ?_)
        refine W.eq (g2 := F0 m 202 ls [.int z3]) rfl ?_
        refine lv_iload (pc := 202) hx hb dL_passes_202 (lv_at hl 6 rfl) ?_
        refine lv_icmp_gt (pc := 204) (tgt := 214) hx hb dL_passes_204 (by decide) (fun c9 => ?_) (fun c9 => ?_)
        · have hf := ifT c9 hf
          refine lv_iconst (pc := 214) (v := 1) hx hb dL_passes_214 (by decide) ?_
          refine lv_goto (pc := 215) (tgt := 219) hx hb dL_passes_215 (by decide) ?_
          refine lv_istore (pc := 219) (lv' := [(7, .int (1 : Int32)), (10, .int z1), (0, .ref (q0 0)), (1, .ref (t0 0)), (2, .int x2), (3, .int x3), (4, .int x4), (5, .int x5), (6, .int x6), (8, .int x8)]) hx hb dL_passes_219 hl (by decide) rfl (fun ls hl => ?_)
          refine lv_goto (pc := 221) (tgt := 274) hx hb dL_passes_221 (by decide) ?_
          refine lv_iinc (pc := 274) (v := (x8 + (1 : Int32))) (lv' := [(8, .int (x8 + (1 : Int32))), (7, .int (1 : Int32)), (10, .int z1), (0, .ref (q0 0)), (1, .ref (t0 0)), (2, .int x2), (3, .int x3), (4, .int x4), (5, .int x5), (6, .int x6)]) hx hb dL_passes_274 hl (k := 9) rfl rfl (by decide) rfl (fun ls hl => ?_)
          refine lv_goto (pc := 277) (tgt := 86) hx hb dL_passes_277 (by decide) ?_
          exact hr86 _ _ _ _ _ _ _ _ _ _ hf _ _ _ h (lv_sub hl [3, 4, 5, 6, 7, 8, 9, 1, 0] rfl)
        · have hf := ifF c9 hf
          refine lv_iload (pc := 207) hx hb dL_passes_207 (lv_at hl 0 rfl) ?_
          refine lv_iload (pc := 209) hx hb dL_passes_209 (lv_at hl 7 rfl) ?_
          refine lv_icmp_le (pc := 211) (tgt := 218) hx hb dL_passes_211 (by decide) (fun c9 => ?_) (fun c9 => ?_)
          · have hf := ifT c9 hf
            refine lv_iconst (pc := 218) (v := 0) hx hb dL_passes_218 (by decide) ?_
            refine lv_istore (pc := 219) (lv' := [(7, .int (0 : Int32)), (10, .int z1), (0, .ref (q0 0)), (1, .ref (t0 0)), (2, .int x2), (3, .int x3), (4, .int x4), (5, .int x5), (6, .int x6), (8, .int x8)]) hx hb dL_passes_219 hl (by decide) rfl (fun ls hl => ?_)
            refine lv_goto (pc := 221) (tgt := 274) hx hb dL_passes_221 (by decide) ?_
            refine lv_iinc (pc := 274) (v := (x8 + (1 : Int32))) (lv' := [(8, .int (x8 + (1 : Int32))), (7, .int (0 : Int32)), (10, .int z1), (0, .ref (q0 0)), (1, .ref (t0 0)), (2, .int x2), (3, .int x3), (4, .int x4), (5, .int x5), (6, .int x6)]) hx hb dL_passes_274 hl (k := 9) rfl rfl (by decide) rfl (fun ls hl => ?_)
            refine lv_goto (pc := 277) (tgt := 86) hx hb dL_passes_277 (by decide) ?_
            exact hr86 _ _ _ _ _ _ _ _ _ _ hf _ _ _ h (lv_sub hl [3, 4, 5, 6, 7, 8, 9, 1, 0] rfl)
          · have hf := ifF c9 hf
            refine lv_iconst (pc := 214) (v := 1) hx hb dL_passes_214 (by decide) ?_
            refine lv_goto (pc := 215) (tgt := 219) hx hb dL_passes_215 (by decide) ?_
            refine lv_istore (pc := 219) (lv' := [(7, .int (1 : Int32)), (10, .int z1), (0, .ref (q0 0)), (1, .ref (t0 0)), (2, .int x2), (3, .int x3), (4, .int x4), (5, .int x5), (6, .int x6), (8, .int x8)]) hx hb dL_passes_219 hl (by decide) rfl (fun ls hl => ?_)
            refine lv_goto (pc := 221) (tgt := 274) hx hb dL_passes_221 (by decide) ?_
            refine lv_iinc (pc := 274) (v := (x8 + (1 : Int32))) (lv' := [(8, .int (x8 + (1 : Int32))), (7, .int (1 : Int32)), (10, .int z1), (0, .ref (q0 0)), (1, .ref (t0 0)), (2, .int x2), (3, .int x3), (4, .int x4), (5, .int x5), (6, .int x6)]) hx hb dL_passes_274 hl (k := 9) rfl rfl (by decide) rfl (fun ls hl => ?_)
            refine lv_goto (pc := 277) (tgt := 86) hx hb dL_passes_277 (by decide) ?_
            exact hr86 _ _ _ _ _ _ _ _ _ _ hf _ _ _ h (lv_sub hl [3, 4, 5, 6, 7, 8, 9, 1, 0] rfl)
      · have hf := ifF c9 hf
        refine lv_iload (pc := 165) hx hb dL_passes_165 (lv_at hl 0 rfl) ?_
        refine lv_iload (pc := 167) hx hb dL_passes_167 (lv_at hl 7 rfl) ?_
        refine lv_icmp_eq (pc := 169) (tgt := 190) hx hb dL_passes_169 (by decide) (fun c9 => ?_) (fun c9 => ?_)
        · have hf := ifT c9 hf
          refine lv_iconst (pc := 190) (v := 1) hx hb dL_passes_190 (by decide) ?_
          refine lv_goto (pc := 191) (tgt := 219) hx hb dL_passes_191 (by decide) ?_
          refine lv_istore (pc := 219) (lv' := [(7, .int (1 : Int32)), (10, .int z1), (0, .ref (q0 0)), (1, .ref (t0 0)), (2, .int x2), (3, .int x3), (4, .int x4), (5, .int x5), (6, .int x6), (8, .int x8)]) hx hb dL_passes_219 hl (by decide) rfl (fun ls hl => ?_)
          refine lv_goto (pc := 221) (tgt := 274) hx hb dL_passes_221 (by decide) ?_
          refine lv_iinc (pc := 274) (v := (x8 + (1 : Int32))) (lv' := [(8, .int (x8 + (1 : Int32))), (7, .int (1 : Int32)), (10, .int z1), (0, .ref (q0 0)), (1, .ref (t0 0)), (2, .int x2), (3, .int x3), (4, .int x4), (5, .int x5), (6, .int x6)]) hx hb dL_passes_274 hl (k := 9) rfl rfl (by decide) rfl (fun ls hl => ?_)
          refine lv_goto (pc := 277) (tgt := 86) hx hb dL_passes_277 (by decide) ?_
          exact hr86 _ _ _ _ _ _ _ _ _ _ hf _ _ _ h (lv_sub hl [3, 4, 5, 6, 7, 8, 9, 1, 0] rfl)
        · have hf := ifF c9 hf
          refine lv_iload (pc := 172) hx hb dL_passes_172 (lv_at hl 0 rfl) ?_
          refine lv_iload (pc := 174) hx hb dL_passes_174 (lv_at hl 7 rfl) ?_
          refine lv_iconst (pc := 176) (v := 1) hx hb dL_passes_176 (by decide) ?_
          refine lv_iadd (pc := 177) hx hb dL_passes_177 ?_
          refine lv_icmp_ne (pc := 178) (tgt := 194) hx hb dL_passes_178 (by decide) (fun c9 => ?_) (fun c9 => ?_)
          · have hf := ifF c9 hf
            refine lv_iconst (pc := 194) (v := 0) hx hb dL_passes_194 (by decide) ?_
            refine lv_goto (pc := 195) (tgt := 219) hx hb dL_passes_195 (by decide) ?_
            refine lv_istore (pc := 219) (lv' := [(7, .int (0 : Int32)), (10, .int z1), (0, .ref (q0 0)), (1, .ref (t0 0)), (2, .int x2), (3, .int x3), (4, .int x4), (5, .int x5), (6, .int x6), (8, .int x8)]) hx hb dL_passes_219 hl (by decide) rfl (fun ls hl => ?_)
            refine lv_goto (pc := 221) (tgt := 274) hx hb dL_passes_221 (by decide) ?_
            refine lv_iinc (pc := 274) (v := (x8 + (1 : Int32))) (lv' := [(8, .int (x8 + (1 : Int32))), (7, .int (0 : Int32)), (10, .int z1), (0, .ref (q0 0)), (1, .ref (t0 0)), (2, .int x2), (3, .int x3), (4, .int x4), (5, .int x5), (6, .int x6)]) hx hb dL_passes_274 hl (k := 9) rfl rfl (by decide) rfl (fun ls hl => ?_)
            refine lv_goto (pc := 277) (tgt := 86) hx hb dL_passes_277 (by decide) ?_
            exact hr86 _ _ _ _ _ _ _ _ _ _ hf _ _ _ h (lv_sub hl [3, 4, 5, 6, 7, 8, 9, 1, 0] rfl)
          · have hf := ifT c9 hf
            refine lv_aload_n (pc := 181) hx hb dL_passes_181 rfl (lv_at hl 3 rfl) ?_
            refine lv_iload_n (pc := 182) hx hb dL_passes_182 rfl (lv_at hl 5 rfl) ?_
            obtain ⟨z3, hc3, hf⟩ := bdS hf
            refine call_H (pc := 183) (As := [.ref (t0 0), .int x3]) (rest := []) (ws' := (kkW q0 q cA d t0 tq u)) X h (vn_state u x3 hc3) cx_L_136 (kkW_t q0 q cA d t0 tq u) (kkW_t q0 q cA d t0 tq u).symm rfl rfl rfl hl.1 (Nat.le_of_ble_eq_true rfl) dL_passes_183 ⟨(Nat.le_of_ble_eq_true rfl), (Nat.le_of_ble_eq_true rfl)⟩ rfl rfl ⟨(Nat.le_of_ble_eq_true rfl), (Nat.le_of_ble_eq_true rfl)⟩ (fun H locs h => ?_)
            refine W.eq (g2 := F0 m 186 ls [.int z3]) rfl ?_
            refine lv_iconst (pc := 186) (v := 5) hx hb dL_passes_186 (by decide) ?_
            refine lv_icmp_ne (pc := 187) (tgt := 194) hx hb dL_passes_187 (by decide) (fun c9 => ?_) (fun c9 => ?_)
            · have hf := ifF c9 hf
              refine lv_iconst (pc := 194) (v := 0) hx hb dL_passes_194 (by decide) ?_
              refine lv_goto (pc := 195) (tgt := 219) hx hb dL_passes_195 (by decide) ?_
              refine lv_istore (pc := 219) (lv' := [(7, .int (0 : Int32)), (10, .int z1), (0, .ref (q0 0)), (1, .ref (t0 0)), (2, .int x2), (3, .int x3), (4, .int x4), (5, .int x5), (6, .int x6), (8, .int x8)]) hx hb dL_passes_219 hl (by decide) rfl (fun ls hl => ?_)
              refine lv_goto (pc := 221) (tgt := 274) hx hb dL_passes_221 (by decide) ?_
              refine lv_iinc (pc := 274) (v := (x8 + (1 : Int32))) (lv' := [(8, .int (x8 + (1 : Int32))), (7, .int (0 : Int32)), (10, .int z1), (0, .ref (q0 0)), (1, .ref (t0 0)), (2, .int x2), (3, .int x3), (4, .int x4), (5, .int x5), (6, .int x6)]) hx hb dL_passes_274 hl (k := 9) rfl rfl (by decide) rfl (fun ls hl => ?_)
              refine lv_goto (pc := 277) (tgt := 86) hx hb dL_passes_277 (by decide) ?_
              exact hr86 _ _ _ _ _ _ _ _ _ _ hf _ _ _ h (lv_sub hl [3, 4, 5, 6, 7, 8, 9, 1, 0] rfl)
            · have hf := ifT c9 hf
              refine lv_iconst (pc := 190) (v := 1) hx hb dL_passes_190 (by decide) ?_
              refine lv_goto (pc := 191) (tgt := 219) hx hb dL_passes_191 (by decide) ?_
              refine lv_istore (pc := 219) (lv' := [(7, .int (1 : Int32)), (10, .int z1), (0, .ref (q0 0)), (1, .ref (t0 0)), (2, .int x2), (3, .int x3), (4, .int x4), (5, .int x5), (6, .int x6), (8, .int x8)]) hx hb dL_passes_219 hl (by decide) rfl (fun ls hl => ?_)
              refine lv_goto (pc := 221) (tgt := 274) hx hb dL_passes_221 (by decide) ?_
              refine lv_iinc (pc := 274) (v := (x8 + (1 : Int32))) (lv' := [(8, .int (x8 + (1 : Int32))), (7, .int (1 : Int32)), (10, .int z1), (0, .ref (q0 0)), (1, .ref (t0 0)), (2, .int x2), (3, .int x3), (4, .int x4), (5, .int x5), (6, .int x6)]) hx hb dL_passes_274 hl (k := 9) rfl rfl (by decide) rfl (fun ls hl => ?_)
              refine lv_goto (pc := 277) (tgt := 86) hx hb dL_passes_277 (by decide) ?_
              exact hr86 _ _ _ _ _ _ _ _ _ _ hf _ _ _ h (lv_sub hl [3, 4, 5, 6, 7, 8, 9, 1, 0] rfl)
def f_L_passes_136 (r86 : Dk → Dk → Int32 → Int32 → Int32 → Int32 → Int32 → Int32 → Int32 → Option (Int32 × Dk × Dk)) (d : Dk) (u : Dk) (x2 : Int32) (x3 : Int32) (x4 : Int32) (x5 : Int32) (x6 : Int32) (x8 : Int32) : Option (Int32 × Dk × Dk) := (f_L_passes_137 r86 d u x2 x3 x4 x5 x6 x8 (0 : Int32))
set_option maxHeartbeats 1000000 in
set_option maxRecDepth 100000 in
theorem jl_passes_136  (X : LCx p l s m args meth c cL_passes 11 D cA A) (hE : ∀ (z : Int32 × Dk × Dk) (pc : Nat) (H : Heap) (locs : List Loc) (ls : Array Slot) (cells slots : Nat), (z.1 = 0 ∨ z.1 = 1) → decode cL_passes pc = .ok (.ireturn, 1) → cells ≤ 4 → slots ≤ 24 → St D A s.heap (kkW q0 q cA z.2.1 t0 tq z.2.2) H locs → W p l e rm_L_passes s m args below meth c H locs cells slots (Qf z) (F0 m pc ls [.int z.1])) (r86 : Dk → Dk → Int32 → Int32 → Int32 → Int32 → Int32 → Int32 → Int32 → Option (Int32 × Dk × Dk)) (hr86 : ∀ (d : Dk) (u : Dk) (x2 : Int32) (x3 : Int32) (x4 : Int32) (x5 : Int32) (x6 : Int32) (x7 : Int32) (x8 : Int32) (z : Int32 × Dk × Dk), r86 d u x2 x3 x4 x5 x6 x7 x8 = some z → ∀ (H : Heap) (locs : List Loc) (ls : Array Slot), St D A s.heap (kkW q0 q cA d t0 tq u) H locs → lv_has ls 11 [(0, .ref (q0 0)), (1, .ref (t0 0)), (2, .int x2), (3, .int x3), (4, .int x4), (5, .int x5), (6, .int x6), (7, .int x7), (8, .int x8)] → W p l e rm_L_passes s m args below meth c H locs 2 12 (Qf z) (F0 m 86 ls [])) (d : Dk) (u : Dk) (x2 : Int32) (x3 : Int32) (x4 : Int32) (x5 : Int32) (x6 : Int32) (x8 : Int32) (z : Int32 × Dk × Dk) (hf : f_L_passes_136 r86 d u x2 x3 x4 x5 x6 x8 = some z) (H : Heap) (locs : List Loc) (ls : Array Slot) (h : St D A s.heap (kkW q0 q cA d t0 tq u) H locs) (hl : lv_has ls 11 [(0, .ref (q0 0)), (1, .ref (t0 0)), (2, .int x2), (3, .int x3), (4, .int x4), (5, .int x5), (6, .int x6), (8, .int x8)]) : W p l e rm_L_passes s m args below meth c H locs 2 12 (Qf z) (F0 m 136 ls []) := by
  obtain ⟨C, hl0, hXA, hN⟩ := id X
  obtain ⟨hx, hb, hml, hown, hts, hK, hlk⟩ := id C
  rw [f_L_passes_136] at hf
  refine lv_iconst (pc := 136) (v := 0) hx hb dL_passes_136 (by decide) ?_
  exact jl_passes_137 X hE _ (hr86) _ _ _ _ _ _ _ _ _ _ hf _ _ _ h (lv_sub hl [0, 1, 2, 3, 4, 5, 6, 7] rfl)
def f_L_passes_86 : Nat → Dk → Dk → Int32 → Int32 → Int32 → Int32 → Int32 → Int32 → Int32 → Option (Int32 × Dk × Dk)
  | 0, _, _, _, _, _, _, _, _, _ => none
  | n + 1, d, u, x2, x3, x4, x5, x6, x7, x8 => (if x2 ≤ x8 then (f_L_passes_280 d u x2 x6 x7) else (if x7 = 0 then (f_L_passes_280 d u x2 x6 x7) else ((gn_pass u (1 : Int32)).bind fun z1 => (if z1.1 < 0 then (f_L_passes_136 (f_L_passes_86 n) d z1.2 x2 x3 x4 x5 (x6 + z1.1) x8) else ((gn_today z1.2).bind fun z2 => ((gn_today d).bind fun z3 => (if z2 = ((z3 + x8) + (1 : Int32)) then (f_L_passes_137 (f_L_passes_86 n) d z1.2 x2 x3 x4 x5 (x6 + z1.1) x8 (1 : Int32)) else (f_L_passes_136 (f_L_passes_86 n) d z1.2 x2 x3 x4 x5 (x6 + z1.1) x8))))))))
set_option maxHeartbeats 1000000 in
set_option maxRecDepth 100000 in
theorem jl_passes_86  (X : LCx p l s m args meth c cL_passes 11 D cA A) (hE : ∀ (z : Int32 × Dk × Dk) (pc : Nat) (H : Heap) (locs : List Loc) (ls : Array Slot) (cells slots : Nat), (z.1 = 0 ∨ z.1 = 1) → decode cL_passes pc = .ok (.ireturn, 1) → cells ≤ 4 → slots ≤ 24 → St D A s.heap (kkW q0 q cA z.2.1 t0 tq z.2.2) H locs → W p l e rm_L_passes s m args below meth c H locs cells slots (Qf z) (F0 m pc ls [.int z.1])) : ∀ (n : Nat) (d : Dk) (u : Dk) (x2 : Int32) (x3 : Int32) (x4 : Int32) (x5 : Int32) (x6 : Int32) (x7 : Int32) (x8 : Int32) (z : Int32 × Dk × Dk), f_L_passes_86 n d u x2 x3 x4 x5 x6 x7 x8 = some z → ∀ (H : Heap) (locs : List Loc) (ls : Array Slot), St D A s.heap (kkW q0 q cA d t0 tq u) H locs → lv_has ls 11 [(0, .ref (q0 0)), (1, .ref (t0 0)), (2, .int x2), (3, .int x3), (4, .int x4), (5, .int x5), (6, .int x6), (7, .int x7), (8, .int x8)] → W p l e rm_L_passes s m args below meth c H locs 2 12 (Qf z) (F0 m 86 ls []) := by
  obtain ⟨C, hl0, hXA, hN⟩ := id X
  obtain ⟨hx, hb, hml, hown, hts, hK, hlk⟩ := id C
  intro n
  induction n with
  | zero => intro d u x2 x3 x4 x5 x6 x7 x8 z hf; rw [f_L_passes_86] at hf; cases hf
  | succ n ih =>
    intro d u x2 x3 x4 x5 x6 x7 x8 z hf H locs ls h hl
    rw [f_L_passes_86] at hf
    refine lv_iload (pc := 86) hx hb dL_passes_86 (lv_at hl 8 rfl) ?_
    refine lv_iload_n (pc := 88) hx hb dL_passes_88 rfl (lv_at hl 2 rfl) ?_
    refine lv_icmp_ge (pc := 89) (tgt := 280) hx hb dL_passes_89 (by decide) (fun c9 => ?_) (fun c9 => ?_)
    · have hf := ifT c9 hf
      exact jl_passes_280 X hE   _ _ _ _ _ _ hf _ _ _ h (lv_sub hl [0, 2, 6, 7] rfl)
    · have hf := ifF c9 hf
      refine lv_iload (pc := 92) hx hb dL_passes_92 (lv_at hl 7 rfl) ?_
      refine lv_if_eq (pc := 94) (tgt := 280) hx hb dL_passes_94 (by decide) (fun c9 => ?_) (fun c9 => ?_)
      · have hf := ifT c9 hf
        exact jl_passes_280 X hE   _ _ _ _ _ _ hf _ _ _ h (lv_sub hl [0, 2, 6, 7] rfl)
      · have hf := ifF c9 hf
        refine lv_aload_n (pc := 97) hx hb dL_passes_97 rfl (lv_at hl 1 rfl) ?_
        refine lv_iconst (pc := 98) (v := 1) hx hb dL_passes_98 (by decide) ?_
        obtain ⟨z1, hc1, hf⟩ := bdS hf
        refine call_H (pc := 99) (As := [.ref (t0 0), .int (1 : Int32)]) (rest := []) (ws' := (kkW q0 q cA d t0 tq z1.2)) X h (vn_pass u (1 : Int32) hc1) cx_L_190 (kkW_t q0 q cA d t0 tq u) (kkW_t q0 q cA d t0 tq z1.2).symm (kW_fst _ _ _ _ _ (nn_pass hc1)) rfl rfl hl.1 (Nat.le_of_ble_eq_true rfl) dL_passes_99 ⟨(Nat.le_of_ble_eq_true rfl), (Nat.le_of_ble_eq_true rfl)⟩ rfl rfl ⟨(Nat.le_of_ble_eq_true rfl), (Nat.le_of_ble_eq_true rfl)⟩ (fun H locs h => ?_)
        refine W.eq (g2 := F0 m 102 ls [.int z1.1]) rfl ?_
        refine lv_istore (pc := 102) (lv' := [(9, .int z1.1), (0, .ref (q0 0)), (1, .ref (t0 0)), (2, .int x2), (3, .int x3), (4, .int x4), (5, .int x5), (6, .int x6), (7, .int x7), (8, .int x8)]) hx hb dL_passes_102 hl (by decide) rfl (fun ls hl => ?_)
        refine lv_iload (pc := 104) hx hb dL_passes_104 (lv_at hl 7 rfl) ?_
        refine lv_iload (pc := 106) hx hb dL_passes_106 (lv_at hl 0 rfl) ?_
        refine lv_iadd (pc := 108) hx hb dL_passes_108 ?_
        refine lv_istore (pc := 109) (lv' := [(6, .int (x6 + z1.1)), (9, .int z1.1), (0, .ref (q0 0)), (1, .ref (t0 0)), (2, .int x2), (3, .int x3), (4, .int x4), (5, .int x5), (7, .int x7), (8, .int x8)]) hx hb dL_passes_109 hl (by decide) rfl (fun ls hl => ?_)
        refine lv_iload (pc := 111) hx hb dL_passes_111 (lv_at hl 1 rfl) ?_
        refine lv_if_lt (pc := 113) (tgt := 136) hx hb dL_passes_113 (by decide) (fun c9 => ?_) (fun c9 => ?_)
        · have hf := ifT c9 hf
          exact jl_passes_136 X hE _ (ih) _ _ _ _ _ _ _ _ _ hf _ _ _ h (lv_sub hl [2, 3, 4, 5, 6, 7, 0, 9] rfl)
        · have hf := ifF c9 hf
          refine lv_aload_n (pc := 116) hx hb dL_passes_116 rfl (lv_at hl 3 rfl) ?_
          obtain ⟨z2, hc2, hf⟩ := bdS hf
          obtain ⟨hn2, hv2⟩ := gn_today_s hc2
          refine call_VRp (pc := 117) (rest := []) (As := []) C h (k_X4_today hn2 (q0 := t0) (q := tq) z1.2.2.1 z1.2.2.2 hv2) cw_L_130 (kW_c0 t0 tq cA z1.2) rfl (kkW_t ..) rfl rfl hl.1 (Nat.le_of_ble_eq_true rfl) dL_passes_117 ⟨(Nat.le_of_ble_eq_true rfl), (Nat.le_of_ble_eq_true rfl)⟩ rfl rfl ⟨(Nat.le_of_ble_eq_true rfl), (Nat.le_of_ble_eq_true rfl)⟩ (fun H locs h => ?_)
          refine W.eq (g2 := F0 m 120 ls [.int z2]) rfl ?_
          refine lv_aload_n (pc := 120) hx hb dL_passes_120 rfl (lv_at hl 2 rfl) ?_
          obtain ⟨z3, hc3, hf⟩ := bdS hf
          obtain ⟨hn3, hv3⟩ := gn_today_s hc3
          refine call_VRp (pc := 121) (rest := [.int z2]) (As := []) C h (k_X4_today hn3 (q0 := q0) (q := q) d.2.1 d.2.2 hv3) cw_L_130 (kW_c0 q0 q cA d) rfl (kkW_o ..) rfl rfl hl.1 (Nat.le_of_ble_eq_true rfl) dL_passes_121 ⟨(Nat.le_of_ble_eq_true rfl), (Nat.le_of_ble_eq_true rfl)⟩ rfl rfl ⟨(Nat.le_of_ble_eq_true rfl), (Nat.le_of_ble_eq_true rfl)⟩ (fun H locs h => ?_)
          refine W.eq (g2 := F0 m 124 ls [.int z3, .int z2]) rfl ?_
          refine lv_iload (pc := 124) hx hb dL_passes_124 (lv_at hl 9 rfl) ?_
          refine lv_iadd (pc := 126) hx hb dL_passes_126 ?_
          refine lv_iconst (pc := 127) (v := 1) hx hb dL_passes_127 (by decide) ?_
          refine lv_iadd (pc := 128) hx hb dL_passes_128 ?_
          refine lv_icmp_ne (pc := 129) (tgt := 136) hx hb dL_passes_129 (by decide) (fun c9 => ?_) (fun c9 => ?_)
          · have hf := ifF c9 hf
            exact jl_passes_136 X hE _ (ih) _ _ _ _ _ _ _ _ _ hf _ _ _ h (lv_sub hl [2, 3, 4, 5, 6, 7, 0, 9] rfl)
          · have hf := ifT c9 hf
            refine lv_iconst (pc := 132) (v := 1) hx hb dL_passes_132 (by decide) ?_
            refine lv_goto (pc := 133) (tgt := 137) hx hb dL_passes_133 (by decide) ?_
            exact jl_passes_137 X hE _ (ih) _ _ _ _ _ _ _ _ _ _ hf _ _ _ h (lv_sub hl [2, 3, 4, 5, 6, 7, 0, 9] rfl)
def f_L_passes_81 (d : Dk) (u : Dk) (x2 : Int32) (x3 : Int32) (x4 : Int32) (x5 : Int32) (x6 : Int32) (s0 : Int32) : Option (Int32 × Dk × Dk) := (f_L_passes_86 FU d u x2 x3 x4 x5 x6 s0 (0 : Int32))
set_option maxHeartbeats 1000000 in
set_option maxRecDepth 100000 in
theorem jl_passes_81  (X : LCx p l s m args meth c cL_passes 11 D cA A) (hE : ∀ (z : Int32 × Dk × Dk) (pc : Nat) (H : Heap) (locs : List Loc) (ls : Array Slot) (cells slots : Nat), (z.1 = 0 ∨ z.1 = 1) → decode cL_passes pc = .ok (.ireturn, 1) → cells ≤ 4 → slots ≤ 24 → St D A s.heap (kkW q0 q cA z.2.1 t0 tq z.2.2) H locs → W p l e rm_L_passes s m args below meth c H locs cells slots (Qf z) (F0 m pc ls [.int z.1])) (d : Dk) (u : Dk) (x2 : Int32) (x3 : Int32) (x4 : Int32) (x5 : Int32) (x6 : Int32) (s0 : Int32) (z : Int32 × Dk × Dk) (hf : f_L_passes_81 d u x2 x3 x4 x5 x6 s0 = some z) (H : Heap) (locs : List Loc) (ls : Array Slot) (h : St D A s.heap (kkW q0 q cA d t0 tq u) H locs) (hl : lv_has ls 11 [(0, .ref (q0 0)), (1, .ref (t0 0)), (2, .int x2), (3, .int x3), (4, .int x4), (5, .int x5), (6, .int x6)]) : W p l e rm_L_passes s m args below meth c H locs 2 12 (Qf z) (F0 m 81 ls [.int s0]) := by
  obtain ⟨C, hl0, hXA, hN⟩ := id X
  obtain ⟨hx, hb, hml, hown, hts, hK, hlk⟩ := id C
  rw [f_L_passes_81] at hf
  refine lv_istore (pc := 81) (lv' := [(7, .int s0), (0, .ref (q0 0)), (1, .ref (t0 0)), (2, .int x2), (3, .int x3), (4, .int x4), (5, .int x5), (6, .int x6)]) hx hb dL_passes_81 hl (by decide) rfl (fun ls hl => ?_)
  refine lv_iconst (pc := 83) (v := 0) hx hb dL_passes_83 (by decide) ?_
  refine lv_istore (pc := 84) (lv' := [(8, .int (0 : Int32)), (7, .int s0), (0, .ref (q0 0)), (1, .ref (t0 0)), (2, .int x2), (3, .int x3), (4, .int x4), (5, .int x5), (6, .int x6)]) hx hb dL_passes_84 hl (by decide) rfl (fun ls hl => ?_)
  exact jl_passes_86 X hE   FU _ _ _ _ _ _ _ _ _ _ hf _ _ _ h (lv_sub hl [2, 3, 4, 5, 6, 7, 8, 1, 0] rfl)
def f_L_passes_80 (d : Dk) (u : Dk) (x2 : Int32) (x3 : Int32) (x4 : Int32) (x5 : Int32) (x6 : Int32) : Option (Int32 × Dk × Dk) := (f_L_passes_81 d u x2 x3 x4 x5 x6 (0 : Int32))
set_option maxHeartbeats 1000000 in
set_option maxRecDepth 100000 in
theorem jl_passes_80  (X : LCx p l s m args meth c cL_passes 11 D cA A) (hE : ∀ (z : Int32 × Dk × Dk) (pc : Nat) (H : Heap) (locs : List Loc) (ls : Array Slot) (cells slots : Nat), (z.1 = 0 ∨ z.1 = 1) → decode cL_passes pc = .ok (.ireturn, 1) → cells ≤ 4 → slots ≤ 24 → St D A s.heap (kkW q0 q cA z.2.1 t0 tq z.2.2) H locs → W p l e rm_L_passes s m args below meth c H locs cells slots (Qf z) (F0 m pc ls [.int z.1])) (d : Dk) (u : Dk) (x2 : Int32) (x3 : Int32) (x4 : Int32) (x5 : Int32) (x6 : Int32) (z : Int32 × Dk × Dk) (hf : f_L_passes_80 d u x2 x3 x4 x5 x6 = some z) (H : Heap) (locs : List Loc) (ls : Array Slot) (h : St D A s.heap (kkW q0 q cA d t0 tq u) H locs) (hl : lv_has ls 11 [(0, .ref (q0 0)), (1, .ref (t0 0)), (2, .int x2), (3, .int x3), (4, .int x4), (5, .int x5), (6, .int x6)]) : W p l e rm_L_passes s m args below meth c H locs 2 12 (Qf z) (F0 m 80 ls []) := by
  obtain ⟨C, hl0, hXA, hN⟩ := id X
  obtain ⟨hx, hb, hml, hown, hts, hK, hlk⟩ := id C
  rw [f_L_passes_80] at hf
  refine lv_iconst (pc := 80) (v := 0) hx hb dL_passes_80 (by decide) ?_
  exact jl_passes_81 X hE   _ _ _ _ _ _ _ _ _ hf _ _ _ h (lv_sub hl [0, 1, 2, 3, 4, 5, 6] rfl)
def f_L_passes_37 (d : Dk) (u : Dk) (x2 : Int32) (x3 : Int32) (x4 : Int32) (s0 : Int32) : Option (Int32 × Dk × Dk) := ((gm_nextReminder d x3).bind fun z1 => (if z1 = x4 then ((gm_nextReminder u x3).bind fun z2 => (if z2 = x4 then (if x4 < 0 then (f_L_passes_81 d u x2 x3 x4 s0 (0 : Int32) (1 : Int32)) else ((gn_today d).bind fun z3 => (if x4 ≤ z3 then (f_L_passes_80 d u x2 x3 x4 s0 (0 : Int32)) else (f_L_passes_81 d u x2 x3 x4 s0 (0 : Int32) (1 : Int32))))) else (f_L_passes_80 d u x2 x3 x4 s0 (0 : Int32)))) else (f_L_passes_80 d u x2 x3 x4 s0 (0 : Int32))))
set_option maxHeartbeats 1000000 in
set_option maxRecDepth 100000 in
theorem jl_passes_37  (X : LCx p l s m args meth c cL_passes 11 D cA A) (hE : ∀ (z : Int32 × Dk × Dk) (pc : Nat) (H : Heap) (locs : List Loc) (ls : Array Slot) (cells slots : Nat), (z.1 = 0 ∨ z.1 = 1) → decode cL_passes pc = .ok (.ireturn, 1) → cells ≤ 4 → slots ≤ 24 → St D A s.heap (kkW q0 q cA z.2.1 t0 tq z.2.2) H locs → W p l e rm_L_passes s m args below meth c H locs cells slots (Qf z) (F0 m pc ls [.int z.1])) (d : Dk) (u : Dk) (x2 : Int32) (x3 : Int32) (x4 : Int32) (s0 : Int32) (z : Int32 × Dk × Dk) (hf : f_L_passes_37 d u x2 x3 x4 s0 = some z) (H : Heap) (locs : List Loc) (ls : Array Slot) (h : St D A s.heap (kkW q0 q cA d t0 tq u) H locs) (hl : lv_has ls 11 [(0, .ref (q0 0)), (1, .ref (t0 0)), (2, .int x2), (3, .int x3), (4, .int x4)]) : W p l e rm_L_passes s m args below meth c H locs 0 0 (Qf z) (F0 m 37 ls [.int s0]) := by
  obtain ⟨C, hl0, hXA, hN⟩ := id X
  obtain ⟨hx, hb, hml, hown, hts, hK, hlk⟩ := id C
  rw [f_L_passes_37] at hf
  refine lv_istore (pc := 37) (lv' := [(5, .int s0), (0, .ref (q0 0)), (1, .ref (t0 0)), (2, .int x2), (3, .int x3), (4, .int x4)]) hx hb dL_passes_37 hl (by decide) rfl (fun ls hl => ?_)
  refine lv_iconst (pc := 39) (v := 0) hx hb dL_passes_39 (by decide) ?_
  refine lv_istore (pc := 40) (lv' := [(6, .int (0 : Int32)), (5, .int s0), (0, .ref (q0 0)), (1, .ref (t0 0)), (2, .int x2), (3, .int x3), (4, .int x4)]) hx hb dL_passes_40 hl (by decide) rfl (fun ls hl => ?_)
  refine lv_aload_n (pc := 42) hx hb dL_passes_42 rfl (lv_at hl 2 rfl) ?_
  refine lv_iload_n (pc := 43) hx hb dL_passes_43 rfl (lv_at hl 5 rfl) ?_
  obtain ⟨z1, hc1, hf⟩ := bdS hf
  refine call_H (pc := 44) (As := [.ref (q0 0), .int x3]) (rest := []) (ws' := (kkW q0 q cA d t0 tq u)) X h (vm_nextReminder d x3 hc1) cx_L_146 (kkW_o q0 q cA d t0 tq u) (kkW_o q0 q cA d t0 tq u).symm rfl rfl rfl hl.1 (Nat.le_of_ble_eq_true rfl) dL_passes_44 ⟨(Nat.le_of_ble_eq_true rfl), (Nat.le_of_ble_eq_true rfl)⟩ rfl rfl ⟨(Nat.le_of_ble_eq_true rfl), (Nat.le_of_ble_eq_true rfl)⟩ (fun H locs h => ?_)
  refine W.eq (g2 := F0 m 47 ls [.int z1]) rfl ?_
  refine lv_iload (pc := 47) hx hb dL_passes_47 (lv_at hl 6 rfl) ?_
  refine lv_icmp_ne (pc := 49) (tgt := 80) hx hb dL_passes_49 (by decide) (fun c9 => ?_) (fun c9 => ?_)
  · have hf := ifF c9 hf
    exact W.widen (Nat.le_of_ble_eq_true rfl : 1 ≤ 2) (Nat.le_of_ble_eq_true rfl : 6 ≤ 12) (jl_passes_80 X hE   _ _ _ _ _ _ _ _ hf _ _ _ h (lv_sub hl [2, 3, 4, 5, 6, 1, 0] rfl))
  · have hf := ifT c9 hf
    refine lv_aload_n (pc := 52) hx hb dL_passes_52 rfl (lv_at hl 3 rfl) ?_
    refine lv_iload_n (pc := 53) hx hb dL_passes_53 rfl (lv_at hl 5 rfl) ?_
    obtain ⟨z2, hc2, hf⟩ := bdS hf
    refine call_H (pc := 54) (As := [.ref (t0 0), .int x3]) (rest := []) (ws' := (kkW q0 q cA d t0 tq u)) X h (vm_nextReminder u x3 hc2) cx_L_146 (kkW_t q0 q cA d t0 tq u) (kkW_t q0 q cA d t0 tq u).symm rfl rfl rfl hl.1 (Nat.le_of_ble_eq_true rfl) dL_passes_54 ⟨(Nat.le_of_ble_eq_true rfl), (Nat.le_of_ble_eq_true rfl)⟩ rfl rfl ⟨(Nat.le_of_ble_eq_true rfl), (Nat.le_of_ble_eq_true rfl)⟩ (fun H locs h => ?_)
    refine W.eq (g2 := F0 m 57 ls [.int z2]) rfl ?_
    refine lv_iload (pc := 57) hx hb dL_passes_57 (lv_at hl 6 rfl) ?_
    refine lv_icmp_ne (pc := 59) (tgt := 80) hx hb dL_passes_59 (by decide) (fun c9 => ?_) (fun c9 => ?_)
    · have hf := ifF c9 hf
      exact jl_passes_80 X hE   _ _ _ _ _ _ _ _ hf _ _ _ h (lv_sub hl [2, 3, 4, 5, 6, 1, 0] rfl)
    · have hf := ifT c9 hf
      refine lv_iload (pc := 62) hx hb dL_passes_62 (lv_at hl 6 rfl) ?_
      refine lv_if_lt (pc := 64) (tgt := 76) hx hb dL_passes_64 (by decide) (fun c9 => ?_) (fun c9 => ?_)
      · have hf := ifT c9 hf
        refine lv_iconst (pc := 76) (v := 1) hx hb dL_passes_76 (by decide) ?_
        refine lv_goto (pc := 77) (tgt := 81) hx hb dL_passes_77 (by decide) ?_
        exact jl_passes_81 X hE   _ _ _ _ _ _ _ _ _ hf _ _ _ h (lv_sub hl [2, 3, 4, 5, 6, 1, 0] rfl)
      · have hf := ifF c9 hf
        refine lv_iload (pc := 67) hx hb dL_passes_67 (lv_at hl 6 rfl) ?_
        refine lv_aload_n (pc := 69) hx hb dL_passes_69 rfl (lv_at hl 2 rfl) ?_
        obtain ⟨z3, hc3, hf⟩ := bdS hf
        obtain ⟨hn3, hv3⟩ := gn_today_s hc3
        refine call_VRp (pc := 70) (rest := [.int x4]) (As := []) C h (k_X4_today hn3 (q0 := q0) (q := q) d.2.1 d.2.2 hv3) cw_L_130 (kW_c0 q0 q cA d) rfl (kkW_o ..) rfl rfl hl.1 (Nat.le_of_ble_eq_true rfl) dL_passes_70 ⟨(Nat.le_of_ble_eq_true rfl), (Nat.le_of_ble_eq_true rfl)⟩ rfl rfl ⟨(Nat.le_of_ble_eq_true rfl), (Nat.le_of_ble_eq_true rfl)⟩ (fun H locs h => ?_)
        refine W.eq (g2 := F0 m 73 ls [.int z3, .int x4]) rfl ?_
        refine lv_icmp_le (pc := 73) (tgt := 80) hx hb dL_passes_73 (by decide) (fun c9 => ?_) (fun c9 => ?_)
        · have hf := ifT c9 hf
          exact jl_passes_80 X hE   _ _ _ _ _ _ _ _ hf _ _ _ h (lv_sub hl [2, 3, 4, 5, 6, 1, 0] rfl)
        · have hf := ifF c9 hf
          refine lv_iconst (pc := 76) (v := 1) hx hb dL_passes_76 (by decide) ?_
          refine lv_goto (pc := 77) (tgt := 81) hx hb dL_passes_77 (by decide) ?_
          exact jl_passes_81 X hE   _ _ _ _ _ _ _ _ _ hf _ _ _ h (lv_sub hl [2, 3, 4, 5, 6, 1, 0] rfl)
def f_L_passes_18 (d : Dk) (u : Dk) (x2 : Int32) (x3 : Int32) (s0 : Int32) : Option (Int32 × Dk × Dk) := ((gn_envelopes d).bind fun z1 => (if z1 ≤ x3 then (f_L_passes_37 d u x2 x3 s0 (0 : Int32)) else ((gn_events d x3).bind fun z2 => (f_L_passes_37 d u x2 x3 s0 z2))))
set_option maxHeartbeats 1000000 in
set_option maxRecDepth 100000 in
theorem jl_passes_18  (X : LCx p l s m args meth c cL_passes 11 D cA A) (hE : ∀ (z : Int32 × Dk × Dk) (pc : Nat) (H : Heap) (locs : List Loc) (ls : Array Slot) (cells slots : Nat), (z.1 = 0 ∨ z.1 = 1) → decode cL_passes pc = .ok (.ireturn, 1) → cells ≤ 4 → slots ≤ 24 → St D A s.heap (kkW q0 q cA z.2.1 t0 tq z.2.2) H locs → W p l e rm_L_passes s m args below meth c H locs cells slots (Qf z) (F0 m pc ls [.int z.1])) (d : Dk) (u : Dk) (x2 : Int32) (x3 : Int32) (s0 : Int32) (z : Int32 × Dk × Dk) (hf : f_L_passes_18 d u x2 x3 s0 = some z) (H : Heap) (locs : List Loc) (ls : Array Slot) (h : St D A s.heap (kkW q0 q cA d t0 tq u) H locs) (hl : lv_has ls 11 [(0, .ref (q0 0)), (1, .ref (t0 0)), (2, .int x2), (3, .int x3)]) : W p l e rm_L_passes s m args below meth c H locs 0 0 (Qf z) (F0 m 18 ls [.int s0]) := by
  obtain ⟨C, hl0, hXA, hN⟩ := id X
  obtain ⟨hx, hb, hml, hown, hts, hK, hlk⟩ := id C
  rw [f_L_passes_18] at hf
  refine lv_istore (pc := 18) (lv' := [(4, .int s0), (0, .ref (q0 0)), (1, .ref (t0 0)), (2, .int x2), (3, .int x3)]) hx hb dL_passes_18 hl (by decide) rfl (fun ls hl => ?_)
  refine lv_iload_n (pc := 20) hx hb dL_passes_20 rfl (lv_at hl 4 rfl) ?_
  refine lv_aload_n (pc := 21) hx hb dL_passes_21 rfl (lv_at hl 1 rfl) ?_
  obtain ⟨z1, hc1, hf⟩ := bdS hf
  obtain ⟨hn1, hv1⟩ := gn_envelopes_s hc1
  refine call_VRp (pc := 22) (rest := [.int x3]) (As := []) C h (k_X4_envelopes hn1 (q0 := q0) (q := q) d.2.1 d.2.2 hv1) cw_L_133 (kW_c0 q0 q cA d) rfl (kkW_o ..) rfl rfl hl.1 (Nat.le_of_ble_eq_true rfl) dL_passes_22 ⟨(Nat.le_of_ble_eq_true rfl), (Nat.le_of_ble_eq_true rfl)⟩ rfl rfl ⟨(Nat.le_of_ble_eq_true rfl), (Nat.le_of_ble_eq_true rfl)⟩ (fun H locs h => ?_)
  refine W.eq (g2 := F0 m 25 ls [.int z1, .int x3]) rfl ?_
  refine lv_icmp_ge (pc := 25) (tgt := 36) hx hb dL_passes_25 (by decide) (fun c9 => ?_) (fun c9 => ?_)
  · have hf := ifT c9 hf
    refine lv_iconst (pc := 36) (v := 0) hx hb dL_passes_36 (by decide) ?_
    exact jl_passes_37 X hE   _ _ _ _ _ _ _ hf _ _ _ h (lv_sub hl [1, 2, 3, 4, 0] rfl)
  · have hf := ifF c9 hf
    refine lv_aload_n (pc := 28) hx hb dL_passes_28 rfl (lv_at hl 1 rfl) ?_
    refine lv_iload_n (pc := 29) hx hb dL_passes_29 rfl (lv_at hl 4 rfl) ?_
    obtain ⟨z2, hc2, hf⟩ := bdS hf
    refine call_H (pc := 30) (As := [.ref (q0 0), .int x3]) (rest := []) (ws' := (kkW q0 q cA d t0 tq u)) X h (vn_events d x3 hc2) cx_L_141 (kkW_o q0 q cA d t0 tq u) (kkW_o q0 q cA d t0 tq u).symm rfl rfl rfl hl.1 (Nat.le_of_ble_eq_true rfl) dL_passes_30 ⟨(Nat.le_of_ble_eq_true rfl), (Nat.le_of_ble_eq_true rfl)⟩ rfl rfl ⟨(Nat.le_of_ble_eq_true rfl), (Nat.le_of_ble_eq_true rfl)⟩ (fun H locs h => ?_)
    refine W.eq (g2 := F0 m 33 ls [.int z2]) rfl ?_
    refine lv_goto (pc := 33) (tgt := 37) hx hb dL_passes_33 (by decide) ?_
    exact jl_passes_37 X hE   _ _ _ _ _ _ _ hf _ _ _ h (lv_sub hl [1, 2, 3, 4, 0] rfl)
def f_L_passes (d : Dk) (u : Dk) (x2 : Int32) (x3 : Int32) : Option (Int32 × Dk × Dk) := ((gn_envelopes d).bind fun z1 => (if z1 ≤ x3 then (f_L_passes_18 d u x2 x3 (-1000001 : Int32)) else ((gn_nextReminder d x3).bind fun z2 => (f_L_passes_18 d u x2 x3 z2))))
set_option maxHeartbeats 1000000 in
set_option maxRecDepth 100000 in
theorem jl_passes_0  (X : LCx p l s m args meth c cL_passes 11 D cA A) (hE : ∀ (z : Int32 × Dk × Dk) (pc : Nat) (H : Heap) (locs : List Loc) (ls : Array Slot) (cells slots : Nat), (z.1 = 0 ∨ z.1 = 1) → decode cL_passes pc = .ok (.ireturn, 1) → cells ≤ 4 → slots ≤ 24 → St D A s.heap (kkW q0 q cA z.2.1 t0 tq z.2.2) H locs → W p l e rm_L_passes s m args below meth c H locs cells slots (Qf z) (F0 m pc ls [.int z.1])) (d : Dk) (u : Dk) (x2 : Int32) (x3 : Int32) (z : Int32 × Dk × Dk) (hf : f_L_passes d u x2 x3 = some z) (H : Heap) (locs : List Loc) (ls : Array Slot) (h : St D A s.heap (kkW q0 q cA d t0 tq u) H locs) (hl : lv_has ls 11 [(0, .ref (q0 0)), (1, .ref (t0 0)), (2, .int x2), (3, .int x3)]) : W p l e rm_L_passes s m args below meth c H locs 0 0 (Qf z) (F0 m 0 ls []) := by
  obtain ⟨C, hl0, hXA, hN⟩ := id X
  obtain ⟨hx, hb, hml, hown, hts, hK, hlk⟩ := id C
  rw [f_L_passes] at hf
  refine lv_iload_n (pc := 0) hx hb dL_passes_0 rfl (lv_at hl 3 rfl) ?_
  refine lv_aload_n (pc := 1) hx hb dL_passes_1 rfl (lv_at hl 0 rfl) ?_
  obtain ⟨z1, hc1, hf⟩ := bdS hf
  obtain ⟨hn1, hv1⟩ := gn_envelopes_s hc1
  refine call_VRp (pc := 2) (rest := [.int x3]) (As := []) C h (k_X4_envelopes hn1 (q0 := q0) (q := q) d.2.1 d.2.2 hv1) cw_L_133 (kW_c0 q0 q cA d) rfl (kkW_o ..) rfl rfl hl.1 (Nat.le_of_ble_eq_true rfl) dL_passes_2 ⟨(Nat.le_of_ble_eq_true rfl), (Nat.le_of_ble_eq_true rfl)⟩ rfl rfl ⟨(Nat.le_of_ble_eq_true rfl), (Nat.le_of_ble_eq_true rfl)⟩ (fun H locs h => ?_)
  refine W.eq (g2 := F0 m 5 ls [.int z1, .int x3]) rfl ?_
  refine lv_icmp_ge (pc := 5) (tgt := 16) hx hb dL_passes_5 (by decide) (fun c9 => ?_) (fun c9 => ?_)
  · have hf := ifT c9 hf
    refine lv_ldc (pc := 16) (v := -1000001) hx hb hown (hts _ kc_L_25) dL_passes_16 ?_
    exact jl_passes_18 X hE   _ _ _ _ _ _ hf _ _ _ h (lv_sub hl [0, 1, 2, 3] rfl)
  · have hf := ifF c9 hf
    refine lv_aload_n (pc := 8) hx hb dL_passes_8 rfl (lv_at hl 0 rfl) ?_
    refine lv_iload_n (pc := 9) hx hb dL_passes_9 rfl (lv_at hl 3 rfl) ?_
    obtain ⟨z2, hc2, hf⟩ := bdS hf
    refine call_H (pc := 10) (As := [.ref (q0 0), .int x3]) (rest := []) (ws' := (kkW q0 q cA d t0 tq u)) X h (vn_nextReminder d x3 hc2) cx_L_146 (kkW_o q0 q cA d t0 tq u) (kkW_o q0 q cA d t0 tq u).symm rfl rfl rfl hl.1 (Nat.le_of_ble_eq_true rfl) dL_passes_10 ⟨(Nat.le_of_ble_eq_true rfl), (Nat.le_of_ble_eq_true rfl)⟩ rfl rfl ⟨(Nat.le_of_ble_eq_true rfl), (Nat.le_of_ble_eq_true rfl)⟩ (fun H locs h => ?_)
    refine W.eq (g2 := F0 m 13 ls [.int z2]) rfl ?_
    refine lv_goto (pc := 13) (tgt := 18) hx hb dL_passes_13 (by decide) ?_
    exact jl_passes_18 X hE   _ _ _ _ _ _ hf _ _ _ h (lv_sub hl [0, 1, 2, 3] rfl)
set_option maxRecDepth 100000 in
theorem k_L_passes {q0 : Nat → Nat} {q : Nat → Nat → Nat} {t0 : Nat → Nat} {tq : Nat → Nat → Nat} {cA : Nat → ClassId} {D : va_G} (d : Dk) (u : Dk) (x2 x3 : Int32) {z : Int32 × Dk × Dk} (hf : f_L_passes d u x2 x3 = some z) : CtV yL_passes (.code yL_passes cL_passes 11 (some .boolean)) rm_L_passes [.ref (q0 0), .ref (t0 0), .int x2, .int x3] D cA (kkW q0 q cA d t0 tq u) (kkW q0 q cA z.2.1 t0 tq z.2.2) (.int z.1) 4 24 := by
  refine vxL_of (Qc := fun sz => PostU D (kkW q0 q cA d t0 tq u) (kkW q0 q cA z.2.1 t0 tq z.2.2) sz (some (.int z.1))) (by decide) (Nat.le_of_ble_eq_true rfl) rfl ?_
  intro p l e s m below meth c ls C hr h hl
  exact jl_passes_0 (Qf := fun z => vx_MQ below (PostU D (kkW q0 q cA d t0 tq u) (kkW q0 q cA z.2.1 t0 tq z.2.2) s.heap.size (some (.int z.1))) XN _ s 4 24 (va_A (kkW q0 q cA d t0 tq u) s.heap.size)) C (fun z pc H locs ls cells slots hbo hd hc hs h => end_z C.1 hr hbo hc hs h hd) _ _ _ _ _ hf _ _ _ h (lv_sub hl [0, 1, 2, 3] rfl)
end
