theorem dL_law_0 : decode cL_law 0 = .ok (.new 11, 3) := by decide +kernel
theorem dL_law_3 : decode cL_law 3 = .ok (.dup, 1) := by decide +kernel
theorem dL_law_4 : decode cL_law 4 = .ok (.invokespecial 221, 3) := by decide +kernel
theorem dL_law_7 : decode cL_law 7 = .ok (.astore_n 1, 1) := by decide +kernel
theorem dL_law_8 : decode cL_law 8 = .ok (.new 11, 3) := by decide +kernel
theorem dL_law_11 : decode cL_law 11 = .ok (.dup, 1) := by decide +kernel
theorem dL_law_12 : decode cL_law 12 = .ok (.invokespecial 221, 3) := by decide +kernel
theorem dL_law_15 : decode cL_law 15 = .ok (.astore_n 2, 1) := by decide +kernel
theorem dL_law_16 : decode cL_law 16 = .ok (.bipush 48, 2) := by decide +kernel
theorem dL_law_18 : decode cL_law 18 = .ok (.newarray .int, 2) := by decide +kernel
theorem dL_law_20 : decode cL_law 20 = .ok (.astore_n 3, 1) := by decide +kernel
theorem dL_law_21 : decode cL_law 21 = .ok (.bipush 48, 2) := by decide +kernel
theorem dL_law_23 : decode cL_law 23 = .ok (.newarray .int, 2) := by decide +kernel
theorem dL_law_25 : decode cL_law 25 = .ok (.astore 4, 2) := by decide +kernel
theorem dL_law_27 : decode cL_law 27 = .ok (.aload_n 1, 1) := by decide +kernel
theorem dL_law_28 : decode cL_law 28 = .ok (.invokevirtual 130, 3) := by decide +kernel
theorem dL_law_31 : decode cL_law 31 = .ok (.ifCond .ne 33, 3) := by decide +kernel
theorem dL_law_34 : decode cL_law 34 = .ok (.aload_n 1, 1) := by decide +kernel
theorem dL_law_35 : decode cL_law 35 = .ok (.invokevirtual 133, 3) := by decide +kernel
theorem dL_law_38 : decode cL_law 38 = .ok (.ifCond .ne 26, 3) := by decide +kernel
theorem dL_law_41 : decode cL_law 41 = .ok (.aload_n 1, 1) := by decide +kernel
theorem dL_law_42 : decode cL_law 42 = .ok (.bipush 7, 2) := by decide +kernel
theorem dL_law_44 : decode cL_law 44 = .ok (.invokestatic 158, 3) := by decide +kernel
theorem dL_law_47 : decode cL_law 47 = .ok (.ifCond .ne 17, 3) := by decide +kernel
theorem dL_law_50 : decode cL_law 50 = .ok (.aload_n 1, 1) := by decide +kernel
theorem dL_law_51 : decode cL_law 51 = .ok (.iconst 0, 1) := by decide +kernel
theorem dL_law_52 : decode cL_law 52 = .ok (.invokestatic 136, 3) := by decide +kernel
theorem dL_law_55 : decode cL_law 55 = .ok (.ldc 25, 2) := by decide +kernel
theorem dL_law_57 : decode cL_law 57 = .ok (.if_icmp .ne 7, 3) := by decide +kernel
theorem dL_law_60 : decode cL_law 60 = .ok (.iconst 1, 1) := by decide +kernel
theorem dL_law_61 : decode cL_law 61 = .ok (.goto 4, 3) := by decide +kernel
theorem dL_law_64 : decode cL_law 64 = .ok (.iconst 0, 1) := by decide +kernel
theorem dL_law_65 : decode cL_law 65 = .ok (.istore 5, 2) := by decide +kernel
theorem dL_law_67 : decode cL_law 67 = .ok (.iconst 0, 1) := by decide +kernel
theorem dL_law_68 : decode cL_law 68 = .ok (.istore 6, 2) := by decide +kernel
theorem dL_law_70 : decode cL_law 70 = .ok (.iload 6, 2) := by decide +kernel
theorem dL_law_72 : decode cL_law 72 = .ok (.bipush 70, 2) := by decide +kernel
theorem dL_law_74 : decode cL_law 74 = .ok (.if_icmp .ge 241, 3) := by decide +kernel
theorem dL_law_77 : decode cL_law 77 = .ok (.iload 5, 2) := by decide +kernel
theorem dL_law_79 : decode cL_law 79 = .ok (.ifCond .eq 236, 3) := by decide +kernel
theorem dL_law_82 : decode cL_law 82 = .ok (.aload_n 0, 1) := by decide +kernel
theorem dL_law_83 : decode cL_law 83 = .ok (.iconst 2, 1) := by decide +kernel
theorem dL_law_84 : decode cL_law 84 = .ok (.iload 6, 2) := by decide +kernel
theorem dL_law_86 : decode cL_law 86 = .ok (.imul, 1) := by decide +kernel
theorem dL_law_87 : decode cL_law 87 = .ok (.invokestatic 222, 3) := by decide +kernel
theorem dL_law_90 : decode cL_law 90 = .ok (.istore 7, 2) := by decide +kernel
theorem dL_law_92 : decode cL_law 92 = .ok (.aload_n 0, 1) := by decide +kernel
theorem dL_law_93 : decode cL_law 93 = .ok (.iconst 2, 1) := by decide +kernel
theorem dL_law_94 : decode cL_law 94 = .ok (.iload 6, 2) := by decide +kernel
theorem dL_law_96 : decode cL_law 96 = .ok (.imul, 1) := by decide +kernel
theorem dL_law_97 : decode cL_law 97 = .ok (.iconst 1, 1) := by decide +kernel
theorem dL_law_98 : decode cL_law 98 = .ok (.iadd, 1) := by decide +kernel
theorem dL_law_99 : decode cL_law 99 = .ok (.invokestatic 222, 3) := by decide +kernel
theorem dL_law_102 : decode cL_law 102 = .ok (.istore 8, 2) := by decide +kernel
theorem dL_law_104 : decode cL_law 104 = .ok (.iload 6, 2) := by decide +kernel
theorem dL_law_106 : decode cL_law 106 = .ok (.iconst 3, 1) := by decide +kernel
theorem dL_law_107 : decode cL_law 107 = .ok (.if_icmp .ge 17, 3) := by decide +kernel
theorem dL_law_110 : decode cL_law 110 = .ok (.aload_n 1, 1) := by decide +kernel
theorem dL_law_111 : decode cL_law 111 = .ok (.aload_n 2, 1) := by decide +kernel
theorem dL_law_112 : decode cL_law 112 = .ok (.aload_n 3, 1) := by decide +kernel
theorem dL_law_113 : decode cL_law 113 = .ok (.aload 4, 2) := by decide +kernel
theorem dL_law_115 : decode cL_law 115 = .ok (.iconst 0, 1) := by decide +kernel
theorem dL_law_116 : decode cL_law 116 = .ok (.iload 8, 2) := by decide +kernel
theorem dL_law_118 : decode cL_law 118 = .ok (.invokestatic 226, 3) := by decide +kernel
theorem dL_law_121 : decode cL_law 121 = .ok (.goto 15, 3) := by decide +kernel
theorem dL_law_124 : decode cL_law 124 = .ok (.aload_n 1, 1) := by decide +kernel
theorem dL_law_125 : decode cL_law 125 = .ok (.aload_n 2, 1) := by decide +kernel
theorem dL_law_126 : decode cL_law 126 = .ok (.aload_n 3, 1) := by decide +kernel
theorem dL_law_127 : decode cL_law 127 = .ok (.aload 4, 2) := by decide +kernel
theorem dL_law_129 : decode cL_law 129 = .ok (.iload 7, 2) := by decide +kernel
theorem dL_law_131 : decode cL_law 131 = .ok (.iload 8, 2) := by decide +kernel
theorem dL_law_133 : decode cL_law 133 = .ok (.invokestatic 226, 3) := by decide +kernel
theorem dL_law_136 : decode cL_law 136 = .ok (.istore 5, 2) := by decide +kernel
theorem dL_law_138 : decode cL_law 138 = .ok (.aload_n 1, 1) := by decide +kernel
theorem dL_law_139 : decode cL_law 139 = .ok (.invokestatic 230, 3) := by decide +kernel
theorem dL_law_142 : decode cL_law 142 = .ok (.lstore 9, 2) := by decide +kernel
theorem dL_law_144 : decode cL_law 144 = .ok (.iload 5, 2) := by decide +kernel
theorem dL_law_146 : decode cL_law 146 = .ok (.ifCond .eq 77, 3) := by decide +kernel
theorem dL_law_149 : decode cL_law 149 = .ok (.lload 9, 2) := by decide +kernel
theorem dL_law_151 : decode cL_law 151 = .ok (.aload_n 2, 1) := by decide +kernel
theorem dL_law_152 : decode cL_law 152 = .ok (.invokestatic 230, 3) := by decide +kernel
theorem dL_law_155 : decode cL_law 155 = .ok (.lcmp, 1) := by decide +kernel
theorem dL_law_156 : decode cL_law 156 = .ok (.ifCond .ne 67, 3) := by decide +kernel
theorem dL_law_159 : decode cL_law 159 = .ok (.aload_n 1, 1) := by decide +kernel
theorem dL_law_160 : decode cL_law 160 = .ok (.bipush 8, 2) := by decide +kernel
theorem dL_law_162 : decode cL_law 162 = .ok (.iconst 0, 1) := by decide +kernel
theorem dL_law_163 : decode cL_law 163 = .ok (.iconst 0, 1) := by decide +kernel
theorem dL_law_164 : decode cL_law 164 = .ok (.invokestatic 167, 3) := by decide +kernel
theorem dL_law_167 : decode cL_law 167 = .ok (.ldc 25, 2) := by decide +kernel
theorem dL_law_169 : decode cL_law 169 = .ok (.if_icmp .ne 54, 3) := by decide +kernel
theorem dL_law_172 : decode cL_law 172 = .ok (.aload_n 1, 1) := by decide +kernel
theorem dL_law_173 : decode cL_law 173 = .ok (.iconst (-1), 1) := by decide +kernel
theorem dL_law_174 : decode cL_law 174 = .ok (.iconst 0, 1) := by decide +kernel
theorem dL_law_175 : decode cL_law 175 = .ok (.iconst 0, 1) := by decide +kernel
theorem dL_law_176 : decode cL_law 176 = .ok (.invokestatic 206, 3) := by decide +kernel
theorem dL_law_179 : decode cL_law 179 = .ok (.ldc 25, 2) := by decide +kernel
theorem dL_law_181 : decode cL_law 181 = .ok (.if_icmp .ne 42, 3) := by decide +kernel
theorem dL_law_184 : decode cL_law 184 = .ok (.aload_n 1, 1) := by decide +kernel
theorem dL_law_185 : decode cL_law 185 = .ok (.iconst 0, 1) := by decide +kernel
theorem dL_law_186 : decode cL_law 186 = .ok (.iconst 0, 1) := by decide +kernel
theorem dL_law_187 : decode cL_law 187 = .ok (.iconst 0, 1) := by decide +kernel
theorem dL_law_188 : decode cL_law 188 = .ok (.iconst 0, 1) := by decide +kernel
theorem dL_law_189 : decode cL_law 189 = .ok (.iconst 1, 1) := by decide +kernel
theorem dL_law_190 : decode cL_law 190 = .ok (.invokestatic 212, 3) := by decide +kernel
theorem dL_law_193 : decode cL_law 193 = .ok (.ldc 28, 2) := by decide +kernel
theorem dL_law_195 : decode cL_law 195 = .ok (.if_icmp .ne 28, 3) := by decide +kernel
theorem dL_law_198 : decode cL_law 198 = .ok (.aload_n 1, 1) := by decide +kernel
theorem dL_law_199 : decode cL_law 199 = .ok (.bipush 6, 2) := by decide +kernel
theorem dL_law_201 : decode cL_law 201 = .ok (.invokestatic 204, 3) := by decide +kernel
theorem dL_law_204 : decode cL_law 204 = .ok (.ldc 25, 2) := by decide +kernel
theorem dL_law_206 : decode cL_law 206 = .ok (.if_icmp .ne 17, 3) := by decide +kernel
theorem dL_law_209 : decode cL_law 209 = .ok (.aload_n 1, 1) := by decide +kernel
theorem dL_law_210 : decode cL_law 210 = .ok (.invokestatic 230, 3) := by decide +kernel
theorem dL_law_213 : decode cL_law 213 = .ok (.lload 9, 2) := by decide +kernel
theorem dL_law_215 : decode cL_law 215 = .ok (.lcmp, 1) := by decide +kernel
theorem dL_law_216 : decode cL_law 216 = .ok (.ifCond .ne 7, 3) := by decide +kernel
theorem dL_law_219 : decode cL_law 219 = .ok (.iconst 1, 1) := by decide +kernel
theorem dL_law_220 : decode cL_law 220 = .ok (.goto 4, 3) := by decide +kernel
theorem dL_law_223 : decode cL_law 223 = .ok (.iconst 0, 1) := by decide +kernel
theorem dL_law_224 : decode cL_law 224 = .ok (.istore 5, 2) := by decide +kernel
theorem dL_law_226 : decode cL_law 226 = .ok (.iload 5, 2) := by decide +kernel
theorem dL_law_228 : decode cL_law 228 = .ok (.ifCond .eq 81, 3) := by decide +kernel
theorem dL_law_231 : decode cL_law 231 = .ok (.iload 6, 2) := by decide +kernel
theorem dL_law_233 : decode cL_law 233 = .ok (.iconst 4, 1) := by decide +kernel
theorem dL_law_234 : decode cL_law 234 = .ok (.irem, 1) := by decide +kernel
theorem dL_law_235 : decode cL_law 235 = .ok (.iconst 3, 1) := by decide +kernel
theorem dL_law_236 : decode cL_law 236 = .ok (.if_icmp .ne 73, 3) := by decide +kernel
theorem dL_law_239 : decode cL_law 239 = .ok (.aload_n 1, 1) := by decide +kernel
theorem dL_law_240 : decode cL_law 240 = .ok (.invokestatic 234, 3) := by decide +kernel
theorem dL_law_243 : decode cL_law 243 = .ok (.istore 5, 2) := by decide +kernel
theorem dL_law_245 : decode cL_law 245 = .ok (.iconst 0, 1) := by decide +kernel
theorem dL_law_246 : decode cL_law 246 = .ok (.istore 11, 2) := by decide +kernel
theorem dL_law_248 : decode cL_law 248 = .ok (.iload 11, 2) := by decide +kernel
theorem dL_law_250 : decode cL_law 250 = .ok (.aload_n 1, 1) := by decide +kernel
theorem dL_law_251 : decode cL_law 251 = .ok (.invokevirtual 133, 3) := by decide +kernel
theorem dL_law_254 : decode cL_law 254 = .ok (.if_icmp .ge 55, 3) := by decide +kernel
theorem dL_law_257 : decode cL_law 257 = .ok (.iload 5, 2) := by decide +kernel
theorem dL_law_259 : decode cL_law 259 = .ok (.ifCond .eq 50, 3) := by decide +kernel
theorem dL_law_262 : decode cL_law 262 = .ok (.aload_n 1, 1) := by decide +kernel
theorem dL_law_263 : decode cL_law 263 = .ok (.aload_n 3, 1) := by decide +kernel
theorem dL_law_264 : decode cL_law 264 = .ok (.aload 4, 2) := by decide +kernel
theorem dL_law_266 : decode cL_law 266 = .ok (.iload 11, 2) := by decide +kernel
theorem dL_law_268 : decode cL_law 268 = .ok (.invokestatic 238, 3) := by decide +kernel
theorem dL_law_271 : decode cL_law 271 = .ok (.ifCond .eq 29, 3) := by decide +kernel
theorem dL_law_274 : decode cL_law 274 = .ok (.aload_n 1, 1) := by decide +kernel
theorem dL_law_275 : decode cL_law 275 = .ok (.aload_n 3, 1) := by decide +kernel
theorem dL_law_276 : decode cL_law 276 = .ok (.aload 4, 2) := by decide +kernel
theorem dL_law_278 : decode cL_law 278 = .ok (.iload 11, 2) := by decide +kernel
theorem dL_law_280 : decode cL_law 280 = .ok (.invokestatic 242, 3) := by decide +kernel
theorem dL_law_283 : decode cL_law 283 = .ok (.ifCond .eq 17, 3) := by decide +kernel
theorem dL_law_286 : decode cL_law 286 = .ok (.aload_n 1, 1) := by decide +kernel
theorem dL_law_287 : decode cL_law 287 = .ok (.aload_n 3, 1) := by decide +kernel
theorem dL_law_288 : decode cL_law 288 = .ok (.iload 11, 2) := by decide +kernel
theorem dL_law_290 : decode cL_law 290 = .ok (.invokestatic 245, 3) := by decide +kernel
theorem dL_law_293 : decode cL_law 293 = .ok (.ifCond .eq 7, 3) := by decide +kernel
theorem dL_law_296 : decode cL_law 296 = .ok (.iconst 1, 1) := by decide +kernel
theorem dL_law_297 : decode cL_law 297 = .ok (.goto 4, 3) := by decide +kernel
theorem dL_law_300 : decode cL_law 300 = .ok (.iconst 0, 1) := by decide +kernel
theorem dL_law_301 : decode cL_law 301 = .ok (.istore 5, 2) := by decide +kernel
theorem dL_law_303 : decode cL_law 303 = .ok (.iinc 11 1, 3) := by decide +kernel
theorem dL_law_306 : decode cL_law 306 = .ok (.goto (-58), 3) := by decide +kernel
theorem dL_law_309 : decode cL_law 309 = .ok (.iinc 6 1, 3) := by decide +kernel
theorem dL_law_312 : decode cL_law 312 = .ok (.goto (-242), 3) := by decide +kernel
theorem dL_law_315 : decode cL_law 315 = .ok (.iload 5, 2) := by decide +kernel
theorem dL_law_317 : decode cL_law 317 = .ok (.ireturn, 1) := by decide +kernel
/-! The law's own: the script's places, the main loop -/
def atF (xs : Nat → Int32) (L : Nat) (i : Int32) : Int32 := if Int32.ofNat L ≤ i then 1831385571 * (i + 1) + 1237708913 else xs i.toNatClampNeg
abbrev rm_L_at : Room := { frames := 0, cells := 0, slots := 0, locals := 0 }
section
variable {p : Program} {l : Launch} {e : Env} {R : Room} {s : State} {m : MethodId} {args : Array Value} {below : List Frame} {meth : Method} {c : Code} {H : Heap} {locs : List Loc} {cells slots : Nat} {Q : State → Prop}
variable {cc : ByteArray} {nL : Nat} {D : va_G} {cA : Nat → ClassId} {A : Nat → Prop} {ws : va_W} {pc : Nat} {ls : Array Slot} {rest : List Value}
def PreT (D : va_G) (cA : Nat → ClassId) (b L : Nat) (xs : Nat → Int32) (sz : Nat) (As : List Value) : Array Value → State → Prop := va_Pc As (fun U => U.heap.size = sz ∧ va_X b L xs U U.heap ∧ b < U.heap.size ∧ KG D cA U)
theorem PreT.blind {b L : Nat} {xs : Nat → Int32} {sz : Nat} {As : List Value} : FrameBlind (PreT D cA b L xs sz As) := fun a U g mk h => ⟨h.1, h.2.1, va_X.moved (u := U) (U := U.calling g mk a) (Vm.Alike.refl _) h.2.2.1, h.2.2.2.1, KG.same (s := U) (U := U.calling g mk a) rfl h.2.2.2.2⟩
set_option maxHeartbeats 400000 in
set_option maxRecDepth 100000 in
theorem k_L_at {b L : Nat} {xs : Nat → Int32} {i : Int32} (hL : L ≤ 260) (hi : 0 ≤ i) : ∀ (l : Launch) (sz : Nat), Met l yL_at (mws yL_at cL_at 2 (some .int)) rm_L_at (PreT D cA b L xs sz [.ref b, .int i]) (PostR (some (.int (atF xs L i)))) 0 0 (fun q => sz ≤ q) := by
  intro l sz
  refine Met.ofW (cc := cL_at) (maxL := 2) (ret := some .int) (by decide) rfl ?_
  intro p e s m args below meth c s₁ B hml hv
  obtain ⟨rfl, hsz, hscr, hbl, hK0⟩ := hv
  subst hsz
  have hts := atoms_spec (ws := mws yL_at cL_at 2 (some .int)) B.pre
  have hown : s.vm.findClass yL_at.cls = some m.cls := findClass_of_methodNamed B.named
  have hl := lv_entry [.ref b, .int i] (n := 2) (Nat.le_of_ble_eq_true rfl)
  rw [lg_entry_eq]
  generalize (lg_sl [.ref b, .int i] ++ List.replicate (2 - (lg_sl [.ref b, .int i]).length) Slot.unset).toArray = ls at hl ⊢
  have C : Cx p s m _ meth c cL_at 2 RL D cA := ⟨B.exec, B.bytes, hml, hown, fun w hw => hts w (List.mem_cons_of_mem _ hw), hK0, B.notSynchronized⟩
  have hr := B.returns
  obtain ⟨hx, hb, hml, hown, hts, hK, hlk⟩ := id C
  replace hl : lv_has ls 2 [(0, .ref b), (1, .int i)] := hl
  have hbA : ¬ (fun q => s.heap.size ≤ q) b := Nat.not_le.mpr hbl
  have h : SR D s.heap [] s.heap [] := ⟨fun k q h => by simp at h, ⟨fun i j p q h => by simp at h, fun k q h => by simp at h⟩, va_S.rf⟩
  refine lv_iload_n (pc := 0) hx hb dL_at_0 rfl (lv_at hl 1 rfl) ?_
  refine lv_aload_n (pc := 1) hx hb dL_at_1 rfl (lv_at hl 0 rfl) ?_
  refine va_slen (pc := 2) hx hb hscr hbl hbA h.2.2 dL_at_2 ?_
  refine lv_icmp_ge (pc := 3) (tgt := 12) hx hb dL_at_3 (by decide) (fun c9 => ?_) (fun c9 => ?_)
  · rw [atF, if_pos c9]
    refine lv_ldc (pc := 12) (v := 1831385571) hx hb hown (hts _ kc_L_7) dL_at_12 ?_
    refine lv_iload_n (pc := 14) hx hb dL_at_14 rfl (lv_at hl 1 rfl) ?_
    refine lv_iconst (pc := 15) (v := 1) hx hb dL_at_15 (by decide) ?_
    refine lv_iadd (pc := 16) hx hb dL_at_16 ?_
    refine lv_imul (pc := 17) hx hb dL_at_17 ?_
    refine lv_ldc (pc := 18) (v := 1237708913) hx hb hown (hts _ kc_L_8) dL_at_18 ?_
    refine lv_iadd (pc := 20) hx hb dL_at_20 ?_
    exact ret_iR (pc := 21) C hr h dL_at_21
  · rw [atF, if_neg c9]
    have hin : vp_in i L := by
      intro hq
      rcases hq with hq | hq
      · exact absurd (Int32.lt_iff_toInt_lt.mp hq) (Int.not_lt.mpr (Int32.le_iff_toInt_le.mp hi))
      · refine c9 (Int32.le_iff_toInt_le.mpr ?_)
        have h1 : (Int32.ofNat L).toInt = L := Int32.toInt_ofNat_of_lt (by omega)
        have h2 : (0 : Int) ≤ i.toInt := Int32.le_iff_toInt_le.mp hi
        have h3 : (i.toNatClampNeg : Int) = i.toInt := by
          show (i.toInt.toNat : Int) = i.toInt
          omega
        rw [h1]
        omega
    refine lv_aload_n (pc := 6) hx hb dL_at_6 rfl (lv_at hl 0 rfl) ?_
    refine lv_iload_n (pc := 7) hx hb dL_at_7 rfl (lv_at hl 1 rfl) ?_
    refine va_sld (pc := 8) hx hb hscr hbl hbA h.2.2 hin dL_at_8 ?_
    refine lv_goto (pc := 9) (tgt := 21) hx hb dL_at_9 (by decide) ?_
    exact ret_iR (pc := 21) C hr h dL_at_21
theorem call_at {b L idx : Nat} {xs : Nat → Int32} {i : Int32} {st0 : List Value} (hL : L ≤ 260) (X : LCx p l s m args meth c cc nL D cA A) (h : St D A s.heap ws H locs) (hscr : va_X b L xs s s.heap) (hbl : b < s.heap.size) (hbA : ¬ A b) (hi : 0 ≤ i) (F : CWs RL idx yL_at cL_at 2 (some .int) 2)
    (hst : st0 = .int i :: .ref b :: rest) (hsz : ls.size = nL) (hW : (rest.map fun v => v.category).sum ≤ 8) (hdg : decode cc pc = .ok (.invokestatic idx, 3))
    (hR : rm_L_at.frames + 1 ≤ R.frames ∧ 8 + (2 + 11) + rm_L_at.locals ≤ R.locals) (hfit : cells + 0 ≤ R.cells ∧ slots + 0 ≤ R.slots)
    (kk : ∀ (H1 : Heap) (locs1 : List Loc), St D A s.heap ws H1 locs1 → W p l e R s m args below meth c H1 locs1 (cells + 0) (slots + 0) Q (F0 m (pc + 3) ls (.int (atF xs L i) :: rest))) : W p l e R s m args below meth c H locs cells slots Q (F0 m pc ls st0) := by
  obtain ⟨C, hl0, hXA, hN⟩ := X
  refine run_R (v := some (.int (atF xs L i))) (rest := rest) (va_runS (As := [.ref b, .int i]) (rest := rest) ⟨C.1, C.2.1, C.2.2.1, C.2.2.2.1, C.2.2.2.2.1⟩ (k_L_at hL hi l H.size) (F.use C.2.2.2.2.1 rfl rfl hR) ⟨PreT.blind, fun U hU hW => ⟨rfl, by rw [hU], ?_, ?_, KG.warm hW C.2.2.2.2.2.1⟩⟩ rfl rfl hsz hst (lv_room hW) hdg hfit) h kk
  · rw [hU]
    exact (hscr.kept (h.2.2.1.2.1 b hbl hbA)).moved hW.alike
  · rw [hU]
    exact Nat.lt_of_lt_of_le hbl h.2.2.1.1
end
section
variable {p : Program} {l : Launch} {e : Env} {s : State} {m : MethodId} {args : Array Value} {below : List Frame} {meth : Method} {c : Code} {D : va_G} {cA : Nat → ClassId} {A : Nat → Prop} {q0 t0 : Nat → Nat} {ab aw sb : Nat} {Q : State → Prop}
noncomputable def f_L_law_248 (xs : Nat → Int32) (L : Nat) (r70 : Dk → Dk → (Nat → Int32) → (Nat → Int32) → Int32 → Int32 → Option (Int32)) : Nat → Dk → Dk → (Nat → Int32) → (Nat → Int32) → Int32 → Int32 → Int32 → Option (Int32)
  | 0, _, _, _, _, _, _, _ => none
  | n248 + 1, d, u, b, w, x5, x6, x11 => ((gn_envelopes d).bind fun z1 => (if z1 ≤ x11 then (r70 d u b w x5 (x6 + (1 : Int32))) else (if x5 = 0 then (r70 d u b w x5 (x6 + (1 : Int32))) else ((f_L_envelope d b w x11).bind fun z2 => (if z2 = 0 then ((f_L_law_248 xs L r70 n248) d u b w (0 : Int32) x6 (x11 + (1 : Int32))) else ((f_L_history d b w x11).bind fun z3 => (if z3 = 0 then ((f_L_law_248 xs L r70 n248) d u b w (0 : Int32) x6 (x11 + (1 : Int32))) else ((f_L_counts b w d x11).bind fun z4 => (if z4.2.1 = d.1 then (if z4.1 = 0 then ((f_L_law_248 xs L r70 n248) z4.2 u b w (0 : Int32) x6 (x11 + (1 : Int32))) else ((f_L_law_248 xs L r70 n248) z4.2 u b w (1 : Int32) x6 (x11 + (1 : Int32)))) else none)))))))))
set_option maxHeartbeats 1000000 in
set_option maxRecDepth 100000 in
theorem jl_law_248 {xs : Nat → Int32} {L : Nat} (X : LCx p l s m args meth c cL_law 12 D cA A) (hE : ∀ (d u : Dk) (b w : Nat → Int32) (q tq : Nat → Nat → Nat) (H : Heap) (locs : List Loc) (ls : Array Slot) (cells slots : Nat), cells ≤ 628788 → slots ≤ 7215333 → St D A s.heap (aW q0 q cA d t0 tq u ab aw b w) H locs → W p l e room_1 s m args below meth c H locs cells slots Q (F0 m 317 ls [.int 1])) (hscr : va_X sb L xs s s.heap) (hbl : sb < s.heap.size) (hbA : ¬ A sb) (hL : L ≤ 260) (n70 : Nat) (r70 : Dk → Dk → (Nat → Int32) → (Nat → Int32) → Int32 → Int32 → Option (Int32)) (hr70 : ∀ (q tq : Nat → Nat → Nat) (d : Dk) (u : Dk) (b : (Nat → Int32)) (w : (Nat → Int32)) (x5 : Int32) (x6 : Int32), r70 d u b w x5 x6 = some 1 → ∀ (cells slots : Nat) (H : Heap) (locs : List Loc) (ls : Array Slot), (cells + (n70 * 2269) ≤ 628788) → (slots + (n70 * 14186) ≤ 7215333) → St D A s.heap (aW q0 q cA d t0 tq u ab aw b w) H locs → lv_has ls 12 [(0, .ref (sb)), (1, .ref (q0 0)), (2, .ref (t0 0)), (3, .ref (ab)), (4, .ref (aw)), (5, .int x5), (6, .int x6)] → W p l e room_1 s m args below meth c H locs cells slots Q (F0 m 70 ls [])) : ∀ (n248 : Nat) (q tq : Nat → Nat → Nat) (d : Dk) (u : Dk) (b : (Nat → Int32)) (w : (Nat → Int32)) (x5 : Int32) (x6 : Int32) (x11 : Int32), f_L_law_248 xs L r70 n248 d u b w x5 x6 x11 = some 1 → ∀ (cells slots : Nat) (H : Heap) (locs : List Loc) (ls : Array Slot), (cells + (0 + n248 * 7 + n70 * 2269) ≤ 628788) → (slots + (0 + n248 * 42 + n70 * 14186) ≤ 7215333) → St D A s.heap (aW q0 q cA d t0 tq u ab aw b w) H locs → lv_has ls 12 [(0, .ref (sb)), (1, .ref (q0 0)), (2, .ref (t0 0)), (3, .ref (ab)), (4, .ref (aw)), (5, .int x5), (6, .int x6), (11, .int x11)] → W p l e room_1 s m args below meth c H locs cells slots Q (F0 m 248 ls []) := by
  obtain ⟨C, hl0, hXA, hN⟩ := id X
  obtain ⟨hx, hb, hml, hown, hts, hK, hlk⟩ := id C
  intro n248
  induction n248 with
  | zero => intro q tq d u b w x5 x6 x11 hf; rw [f_L_law_248] at hf; cases hf
  | succ n248 ih =>
    intro q tq d u b w x5 x6 x11 hf cells slots H locs ls hc hs h hl
    rw [f_L_law_248] at hf
    refine lv_iload (pc := 248) hx hb dL_law_248 (lv_at hl 7 rfl) ?_
    refine lv_aload_n (pc := 250) hx hb dL_law_250 rfl (lv_at hl 1 rfl) ?_
    obtain ⟨z1, hc1, hf⟩ := bdS hf
    obtain ⟨hn1, hv1⟩ := gn_envelopes_s hc1
    refine call_VRp (pc := 251) (rest := [.int x11]) (As := []) C h (k_X4_envelopes hn1 (q0 := q0) (q := q) d.2.1 d.2.2 hv1) cw_L_133 (kW_c0 q0 q cA d) rfl (aW_o ..) rfl rfl hl.1 (Nat.le_of_ble_eq_true rfl) dL_law_251 ⟨(Nat.le_of_ble_eq_true rfl), (Nat.le_of_ble_eq_true rfl)⟩ rfl rfl ⟨show cells + 0 ≤ 628788 from by omega, show slots + 0 ≤ 7215333 from by omega⟩ (fun H locs h => ?_)
    refine W.eq (g2 := F0 m 254 ls [.int z1, .int x11]) rfl ?_
    refine (show W p l e room_1 s m args below meth c H locs (cells) (slots) Q _ from ?_)
    refine lv_icmp_ge (pc := 254) (tgt := 309) hx hb dL_law_254 (by decide) (fun c9 => ?_) (fun c9 => ?_)
    · have hf := ifT c9 hf
      refine lv_iinc (pc := 309) (v := (x6 + (1 : Int32))) (lv' := [(6, .int (x6 + (1 : Int32))), (0, .ref (sb)), (1, .ref (q0 0)), (2, .ref (t0 0)), (3, .ref (ab)), (4, .ref (aw)), (5, .int x5), (11, .int x11)]) hx hb dL_law_309 hl (k := 6) rfl rfl (by decide) rfl (fun ls hl => ?_)
      refine lv_goto (pc := 312) (tgt := 70) hx hb dL_law_312 (by decide) ?_
      exact hr70 _ _ _ _ _ _ _ _ hf _ _ _ _ _ (by omega) (by omega) h (lv_sub hl [1, 2, 3, 4, 5, 6, 0] rfl)
    · have hf := ifF c9 hf
      refine lv_iload (pc := 257) hx hb dL_law_257 (lv_at hl 5 rfl) ?_
      refine lv_if_eq (pc := 259) (tgt := 309) hx hb dL_law_259 (by decide) (fun c9 => ?_) (fun c9 => ?_)
      · have hf := ifT c9 hf
        refine lv_iinc (pc := 309) (v := (x6 + (1 : Int32))) (lv' := [(6, .int (x6 + (1 : Int32))), (0, .ref (sb)), (1, .ref (q0 0)), (2, .ref (t0 0)), (3, .ref (ab)), (4, .ref (aw)), (5, .int x5), (11, .int x11)]) hx hb dL_law_309 hl (k := 6) rfl rfl (by decide) rfl (fun ls hl => ?_)
        refine lv_goto (pc := 312) (tgt := 70) hx hb dL_law_312 (by decide) ?_
        exact hr70 _ _ _ _ _ _ _ _ hf _ _ _ _ _ (by omega) (by omega) h (lv_sub hl [1, 2, 3, 4, 5, 6, 0] rfl)
      · have hf := ifF c9 hf
        refine lv_aload_n (pc := 262) hx hb dL_law_262 rfl (lv_at hl 1 rfl) ?_
        refine lv_aload_n (pc := 263) hx hb dL_law_263 rfl (lv_at hl 3 rfl) ?_
        refine lv_aload (pc := 264) hx hb dL_law_264 (lv_at hl 4 rfl) ?_
        refine lv_iload (pc := 266) hx hb dL_law_266 (lv_at hl 7 rfl) ?_
        obtain ⟨z2, hc2, hf⟩ := bdS hf
        refine call_K (pc := 268) (As := [.ref (q0 0), .ref (ab), .ref (aw), .int x11]) (rest := []) (ws' := (aW q0 q cA d t0 tq u ab aw b w)) X h (k_L_envelope d b w x11 hc2) cw_L_238 (aW_k q0 q cA d t0 tq u ab aw b w) (aW_k q0 q cA d t0 tq u ab aw b w).symm rfl rfl rfl hl.1 (Nat.le_of_ble_eq_true rfl) dL_law_268 ⟨(Nat.le_of_ble_eq_true rfl), (Nat.le_of_ble_eq_true rfl)⟩ rfl rfl ⟨show cells + 2 ≤ 628788 from by omega, show slots + 12 ≤ 7215333 from by omega⟩ (fun H locs h => ?_)
        refine W.eq (g2 := F0 m 271 ls [.int z2]) rfl ?_
        refine (show W p l e room_1 s m args below meth c H locs (cells + 2) (slots + 12) Q _ from ?_)
        refine lv_if_eq (pc := 271) (tgt := 300) hx hb dL_law_271 (by decide) (fun c9 => ?_) (fun c9 => ?_)
        · have hf := ifT c9 hf
          refine lv_iconst (pc := 300) (v := 0) hx hb dL_law_300 (by decide) ?_
          refine lv_istore (pc := 301) (lv' := [(5, .int (0 : Int32)), (0, .ref (sb)), (1, .ref (q0 0)), (2, .ref (t0 0)), (3, .ref (ab)), (4, .ref (aw)), (6, .int x6), (11, .int x11)]) hx hb dL_law_301 hl (by decide) rfl (fun ls hl => ?_)
          refine lv_iinc (pc := 303) (v := (x11 + (1 : Int32))) (lv' := [(11, .int (x11 + (1 : Int32))), (5, .int (0 : Int32)), (0, .ref (sb)), (1, .ref (q0 0)), (2, .ref (t0 0)), (3, .ref (ab)), (4, .ref (aw)), (6, .int x6)]) hx hb dL_law_303 hl (k := 7) rfl rfl (by decide) rfl (fun ls hl => ?_)
          refine lv_goto (pc := 306) (tgt := 248) hx hb dL_law_306 (by decide) ?_
          exact ih _ _ _ _ _ _ _ _ _ hf _ _ _ _ _ (by omega) (by omega) h (lv_sub hl [2, 3, 4, 5, 6, 1, 7, 0] rfl)
        · have hf := ifF c9 hf
          refine lv_aload_n (pc := 274) hx hb dL_law_274 rfl (lv_at hl 1 rfl) ?_
          refine lv_aload_n (pc := 275) hx hb dL_law_275 rfl (lv_at hl 3 rfl) ?_
          refine lv_aload (pc := 276) hx hb dL_law_276 (lv_at hl 4 rfl) ?_
          refine lv_iload (pc := 278) hx hb dL_law_278 (lv_at hl 7 rfl) ?_
          obtain ⟨z3, hc3, hf⟩ := bdS hf
          refine call_K (pc := 280) (As := [.ref (q0 0), .ref (ab), .ref (aw), .int x11]) (rest := []) (ws' := (aW q0 q cA d t0 tq u ab aw b w)) X h (k_L_history d b w x11 hc3) cw_L_242 (aW_k q0 q cA d t0 tq u ab aw b w) (aW_k q0 q cA d t0 tq u ab aw b w).symm rfl rfl rfl hl.1 (Nat.le_of_ble_eq_true rfl) dL_law_280 ⟨(Nat.le_of_ble_eq_true rfl), (Nat.le_of_ble_eq_true rfl)⟩ rfl rfl ⟨show cells + 2 + 5 ≤ 628788 from by omega, show slots + 12 + 30 ≤ 7215333 from by omega⟩ (fun H locs h => ?_)
          refine W.eq (g2 := F0 m 283 ls [.int z3]) rfl ?_
          refine (show W p l e room_1 s m args below meth c H locs (cells + 7) (slots + 42) Q _ from ?_)
          refine lv_if_eq (pc := 283) (tgt := 300) hx hb dL_law_283 (by decide) (fun c9 => ?_) (fun c9 => ?_)
          · have hf := ifT c9 hf
            refine lv_iconst (pc := 300) (v := 0) hx hb dL_law_300 (by decide) ?_
            refine lv_istore (pc := 301) (lv' := [(5, .int (0 : Int32)), (0, .ref (sb)), (1, .ref (q0 0)), (2, .ref (t0 0)), (3, .ref (ab)), (4, .ref (aw)), (6, .int x6), (11, .int x11)]) hx hb dL_law_301 hl (by decide) rfl (fun ls hl => ?_)
            refine lv_iinc (pc := 303) (v := (x11 + (1 : Int32))) (lv' := [(11, .int (x11 + (1 : Int32))), (5, .int (0 : Int32)), (0, .ref (sb)), (1, .ref (q0 0)), (2, .ref (t0 0)), (3, .ref (ab)), (4, .ref (aw)), (6, .int x6)]) hx hb dL_law_303 hl (k := 7) rfl rfl (by decide) rfl (fun ls hl => ?_)
            refine lv_goto (pc := 306) (tgt := 248) hx hb dL_law_306 (by decide) ?_
            exact ih _ _ _ _ _ _ _ _ _ hf _ _ _ _ _ (by omega) (by omega) h (lv_sub hl [2, 3, 4, 5, 6, 1, 7, 0] rfl)
          · have hf := ifF c9 hf
            refine lv_aload_n (pc := 286) hx hb dL_law_286 rfl (lv_at hl 1 rfl) ?_
            refine lv_aload_n (pc := 287) hx hb dL_law_287 rfl (lv_at hl 3 rfl) ?_
            refine lv_iload (pc := 288) hx hb dL_law_288 (lv_at hl 7 rfl) ?_
            obtain ⟨z4, hc4, hf⟩ := bdS hf
            obtain ⟨hg4, hf⟩ := ifS hf
            refine call_K (pc := 290) (As := [.ref (q0 0), .ref (ab), .int x11]) (rest := []) (ws' := (aW q0 q cA z4.2 t0 tq u ab aw b w)) X h (k_L_counts d b w x11 hc4) cw_L_245 (aW_k q0 q cA d t0 tq u ab aw b w) (aW_k q0 q cA z4.2 t0 tq u ab aw b w).symm (kbW_fst _ _ _ _ _ _ _ _ _ hg4) rfl rfl hl.1 (Nat.le_of_ble_eq_true rfl) dL_law_290 ⟨(Nat.le_of_ble_eq_true rfl), (Nat.le_of_ble_eq_true rfl)⟩ rfl rfl ⟨show cells + 7 + 0 ≤ 628788 from by omega, show slots + 42 + 0 ≤ 7215333 from by omega⟩ (fun H locs h => ?_)
            refine W.eq (g2 := F0 m 293 ls [.int z4.1]) rfl ?_
            refine (show W p l e room_1 s m args below meth c H locs (cells + 7) (slots + 42) Q _ from ?_)
            refine lv_if_eq (pc := 293) (tgt := 300) hx hb dL_law_293 (by decide) (fun c9 => ?_) (fun c9 => ?_)
            · have hf := ifT c9 hf
              refine lv_iconst (pc := 300) (v := 0) hx hb dL_law_300 (by decide) ?_
              refine lv_istore (pc := 301) (lv' := [(5, .int (0 : Int32)), (0, .ref (sb)), (1, .ref (q0 0)), (2, .ref (t0 0)), (3, .ref (ab)), (4, .ref (aw)), (6, .int x6), (11, .int x11)]) hx hb dL_law_301 hl (by decide) rfl (fun ls hl => ?_)
              refine lv_iinc (pc := 303) (v := (x11 + (1 : Int32))) (lv' := [(11, .int (x11 + (1 : Int32))), (5, .int (0 : Int32)), (0, .ref (sb)), (1, .ref (q0 0)), (2, .ref (t0 0)), (3, .ref (ab)), (4, .ref (aw)), (6, .int x6)]) hx hb dL_law_303 hl (k := 7) rfl rfl (by decide) rfl (fun ls hl => ?_)
              refine lv_goto (pc := 306) (tgt := 248) hx hb dL_law_306 (by decide) ?_
              exact ih _ _ _ _ _ _ _ _ _ hf _ _ _ _ _ (by omega) (by omega) h (lv_sub hl [2, 3, 4, 5, 6, 1, 7, 0] rfl)
            · have hf := ifF c9 hf
              refine lv_iconst (pc := 296) (v := 1) hx hb dL_law_296 (by decide) ?_
              refine lv_goto (pc := 297) (tgt := 301) hx hb dL_law_297 (by decide) ?_
              refine lv_istore (pc := 301) (lv' := [(5, .int (1 : Int32)), (0, .ref (sb)), (1, .ref (q0 0)), (2, .ref (t0 0)), (3, .ref (ab)), (4, .ref (aw)), (6, .int x6), (11, .int x11)]) hx hb dL_law_301 hl (by decide) rfl (fun ls hl => ?_)
              refine lv_iinc (pc := 303) (v := (x11 + (1 : Int32))) (lv' := [(11, .int (x11 + (1 : Int32))), (5, .int (1 : Int32)), (0, .ref (sb)), (1, .ref (q0 0)), (2, .ref (t0 0)), (3, .ref (ab)), (4, .ref (aw)), (6, .int x6)]) hx hb dL_law_303 hl (k := 7) rfl rfl (by decide) rfl (fun ls hl => ?_)
              refine lv_goto (pc := 306) (tgt := 248) hx hb dL_law_306 (by decide) ?_
              exact ih _ _ _ _ _ _ _ _ _ hf _ _ _ _ _ (by omega) (by omega) h (lv_sub hl [2, 3, 4, 5, 6, 1, 7, 0] rfl)
noncomputable def f_L_law_224 (xs : Nat → Int32) (L : Nat) (r70 : Dk → Dk → (Nat → Int32) → (Nat → Int32) → Int32 → Int32 → Option (Int32)) (d : Dk) (u : Dk) (b : (Nat → Int32)) (w : (Nat → Int32)) (x6 : Int32) (s0 : Int32) : Option (Int32) := (if s0 = 0 then (r70 d u b w s0 (x6 + (1 : Int32))) else (if (x6 - x6 / (4 : Int32) * (4 : Int32)) = (3 : Int32) then ((f_L_people d).bind fun z1 => (f_L_law_248 xs L r70 FU d u b w z1 x6 (0 : Int32))) else (r70 d u b w s0 (x6 + (1 : Int32)))))
set_option maxHeartbeats 1000000 in
set_option maxRecDepth 100000 in
theorem jl_law_224 {xs : Nat → Int32} {L : Nat} (X : LCx p l s m args meth c cL_law 12 D cA A) (hE : ∀ (d u : Dk) (b w : Nat → Int32) (q tq : Nat → Nat → Nat) (H : Heap) (locs : List Loc) (ls : Array Slot) (cells slots : Nat), cells ≤ 628788 → slots ≤ 7215333 → St D A s.heap (aW q0 q cA d t0 tq u ab aw b w) H locs → W p l e room_1 s m args below meth c H locs cells slots Q (F0 m 317 ls [.int 1])) (hscr : va_X sb L xs s s.heap) (hbl : sb < s.heap.size) (hbA : ¬ A sb) (hL : L ≤ 260) (n70 : Nat) (r70 : Dk → Dk → (Nat → Int32) → (Nat → Int32) → Int32 → Int32 → Option (Int32)) (hr70 : ∀ (q tq : Nat → Nat → Nat) (d : Dk) (u : Dk) (b : (Nat → Int32)) (w : (Nat → Int32)) (x5 : Int32) (x6 : Int32), r70 d u b w x5 x6 = some 1 → ∀ (cells slots : Nat) (H : Heap) (locs : List Loc) (ls : Array Slot), (cells + (n70 * 2269) ≤ 628788) → (slots + (n70 * 14186) ≤ 7215333) → St D A s.heap (aW q0 q cA d t0 tq u ab aw b w) H locs → lv_has ls 12 [(0, .ref (sb)), (1, .ref (q0 0)), (2, .ref (t0 0)), (3, .ref (ab)), (4, .ref (aw)), (5, .int x5), (6, .int x6)] → W p l e room_1 s m args below meth c H locs cells slots Q (F0 m 70 ls [])) (q tq : Nat → Nat → Nat) (d : Dk) (u : Dk) (b : (Nat → Int32)) (w : (Nat → Int32)) (x6 : Int32) (s0 : Int32) (hf : f_L_law_224 xs L r70 d u b w x6 s0 = some 1) : ∀ (cells slots : Nat) (H : Heap) (locs : List Loc) (ls : Array Slot), (cells + (2103 + n70 * 2269) ≤ 628788) → (slots + (12618 + n70 * 14186) ≤ 7215333) → St D A s.heap (aW q0 q cA d t0 tq u ab aw b w) H locs → lv_has ls 12 [(0, .ref (sb)), (1, .ref (q0 0)), (2, .ref (t0 0)), (3, .ref (ab)), (4, .ref (aw)), (6, .int x6)] → W p l e room_1 s m args below meth c H locs cells slots Q (F0 m 224 ls [.int s0]) := by
  obtain ⟨C, hl0, hXA, hN⟩ := id X
  obtain ⟨hx, hb, hml, hown, hts, hK, hlk⟩ := id C
  intro cells slots H locs ls hc hs h hl
  rw [f_L_law_224] at hf
  refine lv_istore (pc := 224) (lv' := [(5, .int s0), (0, .ref (sb)), (1, .ref (q0 0)), (2, .ref (t0 0)), (3, .ref (ab)), (4, .ref (aw)), (6, .int x6)]) hx hb dL_law_224 hl (by decide) rfl (fun ls hl => ?_)
  refine lv_iload (pc := 226) hx hb dL_law_226 (lv_at hl 0 rfl) ?_
  refine lv_if_eq (pc := 228) (tgt := 309) hx hb dL_law_228 (by decide) (fun c9 => ?_) (fun c9 => ?_)
  · have hf := ifT c9 hf
    refine lv_iinc (pc := 309) (v := (x6 + (1 : Int32))) (lv' := [(6, .int (x6 + (1 : Int32))), (5, .int s0), (0, .ref (sb)), (1, .ref (q0 0)), (2, .ref (t0 0)), (3, .ref (ab)), (4, .ref (aw))]) hx hb dL_law_309 hl (k := 6) rfl rfl (by decide) rfl (fun ls hl => ?_)
    refine lv_goto (pc := 312) (tgt := 70) hx hb dL_law_312 (by decide) ?_
    exact hr70 _ _ _ _ _ _ _ _ hf _ _ _ _ _ (by omega) (by omega) h (lv_sub hl [2, 3, 4, 5, 6, 1, 0] rfl)
  · have hf := ifF c9 hf
    refine lv_iload (pc := 231) hx hb dL_law_231 (lv_at hl 6 rfl) ?_
    refine lv_iconst (pc := 233) (v := 4) hx hb dL_law_233 (by decide) ?_
    refine lv_irem (pc := 234) hx hb dL_law_234 (by decide) ?_
    refine lv_iconst (pc := 235) (v := 3) hx hb dL_law_235 (by decide) ?_
    refine lv_icmp_ne (pc := 236) (tgt := 309) hx hb dL_law_236 (by decide) (fun c9 => ?_) (fun c9 => ?_)
    · have hf := ifF c9 hf
      refine lv_iinc (pc := 309) (v := (x6 + (1 : Int32))) (lv' := [(6, .int (x6 + (1 : Int32))), (5, .int s0), (0, .ref (sb)), (1, .ref (q0 0)), (2, .ref (t0 0)), (3, .ref (ab)), (4, .ref (aw))]) hx hb dL_law_309 hl (k := 6) rfl rfl (by decide) rfl (fun ls hl => ?_)
      refine lv_goto (pc := 312) (tgt := 70) hx hb dL_law_312 (by decide) ?_
      exact hr70 _ _ _ _ _ _ _ _ hf _ _ _ _ _ (by omega) (by omega) h (lv_sub hl [2, 3, 4, 5, 6, 1, 0] rfl)
    · have hf := ifT c9 hf
      refine lv_aload_n (pc := 239) hx hb dL_law_239 rfl (lv_at hl 2 rfl) ?_
      obtain ⟨z1, hc1, hf⟩ := bdS hf
      refine call_K (pc := 240) (As := [.ref (q0 0)]) (rest := []) (ws' := (aW q0 q cA d t0 tq u ab aw b w)) X h (k_L_people d hc1) cw_L_234 (aW_o q0 q cA d t0 tq u ab aw b w) (aW_o q0 q cA d t0 tq u ab aw b w).symm rfl rfl rfl hl.1 (Nat.le_of_ble_eq_true rfl) dL_law_240 ⟨(Nat.le_of_ble_eq_true rfl), (Nat.le_of_ble_eq_true rfl)⟩ rfl rfl ⟨show cells + 3 ≤ 628788 from by omega, show slots + 18 ≤ 7215333 from by omega⟩ (fun H locs h => ?_)
      refine W.eq (g2 := F0 m 243 ls [.int z1]) rfl ?_
      refine (show W p l e room_1 s m args below meth c H locs (cells + 3) (slots + 18) Q _ from ?_)
      refine lv_istore (pc := 243) (lv' := [(5, .int z1), (0, .ref (sb)), (1, .ref (q0 0)), (2, .ref (t0 0)), (3, .ref (ab)), (4, .ref (aw)), (6, .int x6)]) hx hb dL_law_243 hl (by decide) rfl (fun ls hl => ?_)
      refine lv_iconst (pc := 245) (v := 0) hx hb dL_law_245 (by decide) ?_
      refine lv_istore (pc := 246) (lv' := [(11, .int (0 : Int32)), (5, .int z1), (0, .ref (sb)), (1, .ref (q0 0)), (2, .ref (t0 0)), (3, .ref (ab)), (4, .ref (aw)), (6, .int x6)]) hx hb dL_law_246 hl (by decide) rfl (fun ls hl => ?_)
      have hFU : (FU : Nat) = 300 := rfl; exact jl_law_248 X hE hscr hbl hbA hL n70 _ (hr70) FU _ _ _ _ _ _ _ _ _ hf _ _ _ _ _ (by rw [hFU]; omega) (by rw [hFU]; omega) h (lv_sub hl [2, 3, 4, 5, 6, 1, 7, 0] rfl)
noncomputable def f_L_law_223 (xs : Nat → Int32) (L : Nat) (r70 : Dk → Dk → (Nat → Int32) → (Nat → Int32) → Int32 → Int32 → Option (Int32)) (d : Dk) (u : Dk) (b : (Nat → Int32)) (w : (Nat → Int32)) (x6 : Int32) : Option (Int32) := (f_L_law_224 xs L r70 d u b w x6 (0 : Int32))
set_option maxHeartbeats 1000000 in
set_option maxRecDepth 100000 in
theorem jl_law_223 {xs : Nat → Int32} {L : Nat} (X : LCx p l s m args meth c cL_law 12 D cA A) (hE : ∀ (d u : Dk) (b w : Nat → Int32) (q tq : Nat → Nat → Nat) (H : Heap) (locs : List Loc) (ls : Array Slot) (cells slots : Nat), cells ≤ 628788 → slots ≤ 7215333 → St D A s.heap (aW q0 q cA d t0 tq u ab aw b w) H locs → W p l e room_1 s m args below meth c H locs cells slots Q (F0 m 317 ls [.int 1])) (hscr : va_X sb L xs s s.heap) (hbl : sb < s.heap.size) (hbA : ¬ A sb) (hL : L ≤ 260) (n70 : Nat) (r70 : Dk → Dk → (Nat → Int32) → (Nat → Int32) → Int32 → Int32 → Option (Int32)) (hr70 : ∀ (q tq : Nat → Nat → Nat) (d : Dk) (u : Dk) (b : (Nat → Int32)) (w : (Nat → Int32)) (x5 : Int32) (x6 : Int32), r70 d u b w x5 x6 = some 1 → ∀ (cells slots : Nat) (H : Heap) (locs : List Loc) (ls : Array Slot), (cells + (n70 * 2269) ≤ 628788) → (slots + (n70 * 14186) ≤ 7215333) → St D A s.heap (aW q0 q cA d t0 tq u ab aw b w) H locs → lv_has ls 12 [(0, .ref (sb)), (1, .ref (q0 0)), (2, .ref (t0 0)), (3, .ref (ab)), (4, .ref (aw)), (5, .int x5), (6, .int x6)] → W p l e room_1 s m args below meth c H locs cells slots Q (F0 m 70 ls [])) (q tq : Nat → Nat → Nat) (d : Dk) (u : Dk) (b : (Nat → Int32)) (w : (Nat → Int32)) (x6 : Int32) (hf : f_L_law_223 xs L r70 d u b w x6 = some 1) : ∀ (cells slots : Nat) (H : Heap) (locs : List Loc) (ls : Array Slot), (cells + (2103 + n70 * 2269) ≤ 628788) → (slots + (12618 + n70 * 14186) ≤ 7215333) → St D A s.heap (aW q0 q cA d t0 tq u ab aw b w) H locs → lv_has ls 12 [(0, .ref (sb)), (1, .ref (q0 0)), (2, .ref (t0 0)), (3, .ref (ab)), (4, .ref (aw)), (6, .int x6)] → W p l e room_1 s m args below meth c H locs cells slots Q (F0 m 223 ls []) := by
  obtain ⟨C, hl0, hXA, hN⟩ := id X
  obtain ⟨hx, hb, hml, hown, hts, hK, hlk⟩ := id C
  intro cells slots H locs ls hc hs h hl
  rw [f_L_law_223] at hf
  refine lv_iconst (pc := 223) (v := 0) hx hb dL_law_223 (by decide) ?_
  exact jl_law_224 X hE hscr hbl hbA hL n70 _ (hr70)  _ _ _ _ _ _ _ _ hf _ _ _ _ _ (by omega) (by omega) h (lv_sub hl [0, 1, 2, 3, 4, 5] rfl)
noncomputable def f_L_law_136 (xs : Nat → Int32) (L : Nat) (r70 : Dk → Dk → (Nat → Int32) → (Nat → Int32) → Int32 → Int32 → Option (Int32)) (d : Dk) (u : Dk) (b : (Nat → Int32)) (w : (Nat → Int32)) (x6 : Int32) (s0 : Int32) : Option (Int32) := ((f_L_print d).bind fun z1 => (if s0 = 0 then (f_L_law_223 xs L r70 d u b w x6) else ((f_L_print u).bind fun z2 => (if (lg_cmp z1 z2) = 0 then ((gm_whyNot d (8 : Int32) (0 : Int32) (0 : Int32)).bind fun z3 => (if z3 = (-1000001 : Int32) then ((gm_sign d (-1 : Int32) (0 : Int32) (0 : Int32)).bind fun z4 => (if z4.1 = (-1000001 : Int32) then ((gm_delegate z4.2 (0 : Int32) (0 : Int32) (0 : Int32) (0 : Int32) (1 : Int32)).bind fun z5 => (if z5.1 = (-1000002 : Int32) then ((gm_send z5.2 (6 : Int32)).bind fun z6 => (if z6.1 = (-1000001 : Int32) then ((f_L_print z6.2).bind fun z7 => (if (lg_cmp z7 z1) = 0 then (f_L_law_224 xs L r70 z6.2 u b w x6 (1 : Int32)) else (f_L_law_223 xs L r70 z6.2 u b w x6))) else (f_L_law_223 xs L r70 z6.2 u b w x6))) else (f_L_law_223 xs L r70 z5.2 u b w x6))) else (f_L_law_223 xs L r70 z4.2 u b w x6))) else (f_L_law_223 xs L r70 d u b w x6))) else (f_L_law_223 xs L r70 d u b w x6)))))
set_option maxHeartbeats 1000000 in
set_option maxRecDepth 100000 in
theorem jl_law_136 {xs : Nat → Int32} {L : Nat} (X : LCx p l s m args meth c cL_law 12 D cA A) (hE : ∀ (d u : Dk) (b w : Nat → Int32) (q tq : Nat → Nat → Nat) (H : Heap) (locs : List Loc) (ls : Array Slot) (cells slots : Nat), cells ≤ 628788 → slots ≤ 7215333 → St D A s.heap (aW q0 q cA d t0 tq u ab aw b w) H locs → W p l e room_1 s m args below meth c H locs cells slots Q (F0 m 317 ls [.int 1])) (hscr : va_X sb L xs s s.heap) (hbl : sb < s.heap.size) (hbA : ¬ A sb) (hL : L ≤ 260) (n70 : Nat) (r70 : Dk → Dk → (Nat → Int32) → (Nat → Int32) → Int32 → Int32 → Option (Int32)) (hr70 : ∀ (q tq : Nat → Nat → Nat) (d : Dk) (u : Dk) (b : (Nat → Int32)) (w : (Nat → Int32)) (x5 : Int32) (x6 : Int32), r70 d u b w x5 x6 = some 1 → ∀ (cells slots : Nat) (H : Heap) (locs : List Loc) (ls : Array Slot), (cells + (n70 * 2269) ≤ 628788) → (slots + (n70 * 14186) ≤ 7215333) → St D A s.heap (aW q0 q cA d t0 tq u ab aw b w) H locs → lv_has ls 12 [(0, .ref (sb)), (1, .ref (q0 0)), (2, .ref (t0 0)), (3, .ref (ab)), (4, .ref (aw)), (5, .int x5), (6, .int x6)] → W p l e room_1 s m args below meth c H locs cells slots Q (F0 m 70 ls [])) (q tq : Nat → Nat → Nat) (d : Dk) (u : Dk) (b : (Nat → Int32)) (w : (Nat → Int32)) (x6 : Int32) (s0 : Int32) (hf : f_L_law_136 xs L r70 d u b w x6 s0 = some 1) : ∀ (cells slots : Nat) (H : Heap) (locs : List Loc) (ls : Array Slot), (cells + (2107 + n70 * 2269) ≤ 628788) → (slots + (12642 + n70 * 14186) ≤ 7215333) → St D A s.heap (aW q0 q cA d t0 tq u ab aw b w) H locs → lv_has ls 12 [(0, .ref (sb)), (1, .ref (q0 0)), (2, .ref (t0 0)), (3, .ref (ab)), (4, .ref (aw)), (6, .int x6)] → W p l e room_1 s m args below meth c H locs cells slots Q (F0 m 136 ls [.int s0]) := by
  obtain ⟨C, hl0, hXA, hN⟩ := id X
  obtain ⟨hx, hb, hml, hown, hts, hK, hlk⟩ := id C
  intro cells slots H locs ls hc hs h hl
  rw [f_L_law_136] at hf
  refine lv_istore (pc := 136) (lv' := [(5, .int s0), (0, .ref (sb)), (1, .ref (q0 0)), (2, .ref (t0 0)), (3, .ref (ab)), (4, .ref (aw)), (6, .int x6)]) hx hb dL_law_136 hl (by decide) rfl (fun ls hl => ?_)
  refine lv_aload_n (pc := 138) hx hb dL_law_138 rfl (lv_at hl 2 rfl) ?_
  obtain ⟨z1, hc1, hf⟩ := bdS hf
  refine call_K (pc := 139) (As := [.ref (q0 0)]) (rest := []) (ws' := (aW q0 q cA d t0 tq u ab aw b w)) X h (k_L_print d hc1) cw_L_230 (aW_o q0 q cA d t0 tq u ab aw b w) (aW_o q0 q cA d t0 tq u ab aw b w).symm rfl rfl rfl hl.1 (Nat.le_of_ble_eq_true rfl) dL_law_139 ⟨(Nat.le_of_ble_eq_true rfl), (Nat.le_of_ble_eq_true rfl)⟩ rfl rfl ⟨show cells + 0 ≤ 628788 from by omega, show slots + 0 ≤ 7215333 from by omega⟩ (fun H locs h => ?_)
  refine W.eq (g2 := F0 m 142 ls [.long z1]) rfl ?_
  refine (show W p l e room_1 s m args below meth c H locs (cells) (slots) Q _ from ?_)
  refine lv_lstore (pc := 142) (lv' := [(9, .long z1), (5, .int s0), (0, .ref (sb)), (1, .ref (q0 0)), (2, .ref (t0 0)), (3, .ref (ab)), (4, .ref (aw)), (6, .int x6)]) hx hb dL_law_142 hl (by decide) rfl (fun ls hl => ?_)
  refine lv_iload (pc := 144) hx hb dL_law_144 (lv_at hl 1 rfl) ?_
  refine lv_if_eq (pc := 146) (tgt := 223) hx hb dL_law_146 (by decide) (fun c9 => ?_) (fun c9 => ?_)
  · have hf := ifT c9 hf
    exact jl_law_223 X hE hscr hbl hbA hL n70 _ (hr70)  _ _ _ _ _ _ _ hf _ _ _ _ _ (by omega) (by omega) h (lv_sub hl [2, 3, 4, 5, 6, 7] rfl)
  · have hf := ifF c9 hf
    refine lv_lload (pc := 149) hx hb dL_law_149 (lv_at hl 0 rfl) ?_
    refine lv_aload_n (pc := 151) hx hb dL_law_151 rfl (lv_at hl 4 rfl) ?_
    obtain ⟨z2, hc2, hf⟩ := bdS hf
    refine call_K (pc := 152) (As := [.ref (t0 0)]) (rest := [.long z1]) (ws' := (aW q0 q cA d t0 tq u ab aw b w)) X h (k_L_print u hc2) cw_L_230 (aW_t q0 q cA d t0 tq u ab aw b w) (aW_t q0 q cA d t0 tq u ab aw b w).symm rfl rfl rfl hl.1 (Nat.le_of_ble_eq_true rfl) dL_law_152 ⟨(Nat.le_of_ble_eq_true rfl), (Nat.le_of_ble_eq_true rfl)⟩ rfl rfl ⟨show cells + 0 ≤ 628788 from by omega, show slots + 0 ≤ 7215333 from by omega⟩ (fun H locs h => ?_)
    refine W.eq (g2 := F0 m 155 ls [.long z2, .long z1]) rfl ?_
    refine (show W p l e room_1 s m args below meth c H locs (cells) (slots) Q _ from ?_)
    refine W.lcmp (pc := 155) hx hb dL_law_155 ?_
    refine lv_if_ne (pc := 156) (tgt := 223) hx hb dL_law_156 (by decide) (fun c9 => ?_) (fun c9 => ?_)
    · have hf := ifF c9 hf
      exact jl_law_223 X hE hscr hbl hbA hL n70 _ (hr70)  _ _ _ _ _ _ _ hf _ _ _ _ _ (by omega) (by omega) h (lv_sub hl [2, 3, 4, 5, 6, 7] rfl)
    · have hf := ifT c9 hf
      refine lv_aload_n (pc := 159) hx hb dL_law_159 rfl (lv_at hl 3 rfl) ?_
      refine lv_bipush (pc := 160) (v := 8) hx hb dL_law_160 (by decide) ?_
      refine lv_iconst (pc := 162) (v := 0) hx hb dL_law_162 (by decide) ?_
      refine lv_iconst (pc := 163) (v := 0) hx hb dL_law_163 (by decide) ?_
      obtain ⟨z3, hc3, hf⟩ := bdS hf
      refine call_H (pc := 164) (As := [.ref (q0 0), .int (8 : Int32), .int (0 : Int32), .int (0 : Int32)]) (rest := []) (ws' := (aW q0 q cA d t0 tq u ab aw b w)) X h (vm_whyNot d (8 : Int32) (0 : Int32) (0 : Int32) hc3) cx_L_167 (aW_o q0 q cA d t0 tq u ab aw b w) (aW_o q0 q cA d t0 tq u ab aw b w).symm rfl rfl rfl hl.1 (Nat.le_of_ble_eq_true rfl) dL_law_164 ⟨(Nat.le_of_ble_eq_true rfl), (Nat.le_of_ble_eq_true rfl)⟩ rfl rfl ⟨show cells + 1 ≤ 628788 from by omega, show slots + 6 ≤ 7215333 from by omega⟩ (fun H locs h => ?_)
      refine W.eq (g2 := F0 m 167 ls [.int z3]) rfl ?_
      refine (show W p l e room_1 s m args below meth c H locs (cells + 1) (slots + 6) Q _ from ?_)
      refine lv_ldc (pc := 167) (v := -1000001) hx hb hown (hts _ kc_L_25) dL_law_167 ?_
      refine lv_icmp_ne (pc := 169) (tgt := 223) hx hb dL_law_169 (by decide) (fun c9 => ?_) (fun c9 => ?_)
      · have hf := ifF c9 hf
        exact jl_law_223 X hE hscr hbl hbA hL n70 _ (hr70)  _ _ _ _ _ _ _ hf _ _ _ _ _ (by omega) (by omega) h (lv_sub hl [2, 3, 4, 5, 6, 7] rfl)
      · have hf := ifT c9 hf
        refine lv_aload_n (pc := 172) hx hb dL_law_172 rfl (lv_at hl 3 rfl) ?_
        refine lv_iconst (pc := 173) (v := -1) hx hb dL_law_173 (by decide) ?_
        refine lv_iconst (pc := 174) (v := 0) hx hb dL_law_174 (by decide) ?_
        refine lv_iconst (pc := 175) (v := 0) hx hb dL_law_175 (by decide) ?_
        obtain ⟨z4, hc4, hf⟩ := bdS hf
        refine call_H (pc := 176) (As := [.ref (q0 0), .int (-1 : Int32), .int (0 : Int32), .int (0 : Int32)]) (rest := []) (ws' := (aW q0 q cA z4.2 t0 tq u ab aw b w)) X h (vm_sign d (-1 : Int32) (0 : Int32) (0 : Int32) hc4) cx_L_206 (aW_o q0 q cA d t0 tq u ab aw b w) (aW_o q0 q cA z4.2 t0 tq u ab aw b w).symm (kW_fst _ _ _ _ _ (nm_sign hc4)) rfl rfl hl.1 (Nat.le_of_ble_eq_true rfl) dL_law_176 ⟨(Nat.le_of_ble_eq_true rfl), (Nat.le_of_ble_eq_true rfl)⟩ rfl rfl ⟨show cells + 1 + 1 ≤ 628788 from by omega, show slots + 6 + 6 ≤ 7215333 from by omega⟩ (fun H locs h => ?_)
        refine W.eq (g2 := F0 m 179 ls [.int z4.1]) rfl ?_
        refine (show W p l e room_1 s m args below meth c H locs (cells + 2) (slots + 12) Q _ from ?_)
        refine lv_ldc (pc := 179) (v := -1000001) hx hb hown (hts _ kc_L_25) dL_law_179 ?_
        refine lv_icmp_ne (pc := 181) (tgt := 223) hx hb dL_law_181 (by decide) (fun c9 => ?_) (fun c9 => ?_)
        · have hf := ifF c9 hf
          exact jl_law_223 X hE hscr hbl hbA hL n70 _ (hr70)  _ _ _ _ _ _ _ hf _ _ _ _ _ (by omega) (by omega) h (lv_sub hl [2, 3, 4, 5, 6, 7] rfl)
        · have hf := ifT c9 hf
          refine lv_aload_n (pc := 184) hx hb dL_law_184 rfl (lv_at hl 3 rfl) ?_
          refine lv_iconst (pc := 185) (v := 0) hx hb dL_law_185 (by decide) ?_
          refine lv_iconst (pc := 186) (v := 0) hx hb dL_law_186 (by decide) ?_
          refine lv_iconst (pc := 187) (v := 0) hx hb dL_law_187 (by decide) ?_
          refine lv_iconst (pc := 188) (v := 0) hx hb dL_law_188 (by decide) ?_
          refine lv_iconst (pc := 189) (v := 1) hx hb dL_law_189 (by decide) ?_
          obtain ⟨z5, hc5, hf⟩ := bdS hf
          refine call_H (pc := 190) (As := [.ref (q0 0), .int (0 : Int32), .int (0 : Int32), .int (0 : Int32), .int (0 : Int32), .int (1 : Int32)]) (rest := []) (ws' := (aW q0 q cA z5.2 t0 tq u ab aw b w)) X h (vm_delegate z4.2 (0 : Int32) (0 : Int32) (0 : Int32) (0 : Int32) (1 : Int32) hc5) cx_L_212 (aW_o q0 q cA z4.2 t0 tq u ab aw b w) (aW_o q0 q cA z5.2 t0 tq u ab aw b w).symm (kW_fst _ _ _ _ _ (nm_delegate hc5)) rfl rfl hl.1 (Nat.le_of_ble_eq_true rfl) dL_law_190 ⟨(Nat.le_of_ble_eq_true rfl), (Nat.le_of_ble_eq_true rfl)⟩ rfl rfl ⟨show cells + 2 + 1 ≤ 628788 from by omega, show slots + 12 + 6 ≤ 7215333 from by omega⟩ (fun H locs h => ?_)
          refine W.eq (g2 := F0 m 193 ls [.int z5.1]) rfl ?_
          refine (show W p l e room_1 s m args below meth c H locs (cells + 3) (slots + 18) Q _ from ?_)
          refine lv_ldc (pc := 193) (v := -1000002) hx hb hown (hts _ kc_L_28) dL_law_193 ?_
          refine lv_icmp_ne (pc := 195) (tgt := 223) hx hb dL_law_195 (by decide) (fun c9 => ?_) (fun c9 => ?_)
          · have hf := ifF c9 hf
            exact jl_law_223 X hE hscr hbl hbA hL n70 _ (hr70)  _ _ _ _ _ _ _ hf _ _ _ _ _ (by omega) (by omega) h (lv_sub hl [2, 3, 4, 5, 6, 7] rfl)
          · have hf := ifT c9 hf
            refine lv_aload_n (pc := 198) hx hb dL_law_198 rfl (lv_at hl 3 rfl) ?_
            refine lv_bipush (pc := 199) (v := 6) hx hb dL_law_199 (by decide) ?_
            obtain ⟨z6, hc6, hf⟩ := bdS hf
            refine call_H (pc := 201) (As := [.ref (q0 0), .int (6 : Int32)]) (rest := []) (ws' := (aW q0 q cA z6.2 t0 tq u ab aw b w)) X h (vm_send z5.2 (6 : Int32) hc6) cx_L_204 (aW_o q0 q cA z5.2 t0 tq u ab aw b w) (aW_o q0 q cA z6.2 t0 tq u ab aw b w).symm (kW_fst _ _ _ _ _ (nm_send hc6)) rfl rfl hl.1 (Nat.le_of_ble_eq_true rfl) dL_law_201 ⟨(Nat.le_of_ble_eq_true rfl), (Nat.le_of_ble_eq_true rfl)⟩ rfl rfl ⟨show cells + 3 + 1 ≤ 628788 from by omega, show slots + 18 + 6 ≤ 7215333 from by omega⟩ (fun H locs h => ?_)
            refine W.eq (g2 := F0 m 204 ls [.int z6.1]) rfl ?_
            refine (show W p l e room_1 s m args below meth c H locs (cells + 4) (slots + 24) Q _ from ?_)
            refine lv_ldc (pc := 204) (v := -1000001) hx hb hown (hts _ kc_L_25) dL_law_204 ?_
            refine lv_icmp_ne (pc := 206) (tgt := 223) hx hb dL_law_206 (by decide) (fun c9 => ?_) (fun c9 => ?_)
            · have hf := ifF c9 hf
              exact jl_law_223 X hE hscr hbl hbA hL n70 _ (hr70)  _ _ _ _ _ _ _ hf _ _ _ _ _ (by omega) (by omega) h (lv_sub hl [2, 3, 4, 5, 6, 7] rfl)
            · have hf := ifT c9 hf
              refine lv_aload_n (pc := 209) hx hb dL_law_209 rfl (lv_at hl 3 rfl) ?_
              obtain ⟨z7, hc7, hf⟩ := bdS hf
              refine call_K (pc := 210) (As := [.ref (q0 0)]) (rest := []) (ws' := (aW q0 q cA z6.2 t0 tq u ab aw b w)) X h (k_L_print z6.2 hc7) cw_L_230 (aW_o q0 q cA z6.2 t0 tq u ab aw b w) (aW_o q0 q cA z6.2 t0 tq u ab aw b w).symm rfl rfl rfl hl.1 (Nat.le_of_ble_eq_true rfl) dL_law_210 ⟨(Nat.le_of_ble_eq_true rfl), (Nat.le_of_ble_eq_true rfl)⟩ rfl rfl ⟨show cells + 4 + 0 ≤ 628788 from by omega, show slots + 24 + 0 ≤ 7215333 from by omega⟩ (fun H locs h => ?_)
              refine W.eq (g2 := F0 m 213 ls [.long z7]) rfl ?_
              refine (show W p l e room_1 s m args below meth c H locs (cells + 4) (slots + 24) Q _ from ?_)
              refine lv_lload (pc := 213) hx hb dL_law_213 (lv_at hl 0 rfl) ?_
              refine W.lcmp (pc := 215) hx hb dL_law_215 ?_
              refine lv_if_ne (pc := 216) (tgt := 223) hx hb dL_law_216 (by decide) (fun c9 => ?_) (fun c9 => ?_)
              · have hf := ifF c9 hf
                exact jl_law_223 X hE hscr hbl hbA hL n70 _ (hr70)  _ _ _ _ _ _ _ hf _ _ _ _ _ (by omega) (by omega) h (lv_sub hl [2, 3, 4, 5, 6, 7] rfl)
              · have hf := ifT c9 hf
                refine lv_iconst (pc := 219) (v := 1) hx hb dL_law_219 (by decide) ?_
                refine lv_goto (pc := 220) (tgt := 224) hx hb dL_law_220 (by decide) ?_
                exact jl_law_224 X hE hscr hbl hbA hL n70 _ (hr70)  _ _ _ _ _ _ _ _ hf _ _ _ _ _ (by omega) (by omega) h (lv_sub hl [2, 3, 4, 5, 6, 7] rfl)
noncomputable def f_L_law_70 (xs : Nat → Int32) (L : Nat) : Nat → Dk → Dk → (Nat → Int32) → (Nat → Int32) → Int32 → Int32 → Option (Int32)
  | 0, _, _, _, _, _, _ => none
  | n70 + 1, d, u, b, w, x5, x6 => (if (70 : Int32) ≤ x6 then (some x5) else (if x5 = 0 then (some x5) else (if 0 ≤ ((2 : Int32) * x6) then (if 0 ≤ (((2 : Int32) * x6) + (1 : Int32)) then (if (3 : Int32) ≤ x6 then ((f_L_acts d u b w (atF xs L ((2 : Int32) * x6)) (atF xs L (((2 : Int32) * x6) + (1 : Int32)))).bind fun z3 => (f_L_law_136 xs L (f_L_law_70 xs L n70) z3.2.1 z3.2.2.1 z3.2.2.2.1 z3.2.2.2.2 x6 z3.1)) else ((f_L_acts d u b w (0 : Int32) (atF xs L (((2 : Int32) * x6) + (1 : Int32)))).bind fun z3 => (f_L_law_136 xs L (f_L_law_70 xs L n70) z3.2.1 z3.2.2.1 z3.2.2.2.1 z3.2.2.2.2 x6 z3.1))) else none) else none)))
set_option maxHeartbeats 1000000 in
set_option maxRecDepth 100000 in
theorem jl_law_70 {xs : Nat → Int32} {L : Nat} (X : LCx p l s m args meth c cL_law 12 D cA A) (hE : ∀ (d u : Dk) (b w : Nat → Int32) (q tq : Nat → Nat → Nat) (H : Heap) (locs : List Loc) (ls : Array Slot) (cells slots : Nat), cells ≤ 628788 → slots ≤ 7215333 → St D A s.heap (aW q0 q cA d t0 tq u ab aw b w) H locs → W p l e room_1 s m args below meth c H locs cells slots Q (F0 m 317 ls [.int 1])) (hscr : va_X sb L xs s s.heap) (hbl : sb < s.heap.size) (hbA : ¬ A sb) (hL : L ≤ 260) : ∀ (n70 : Nat) (q tq : Nat → Nat → Nat) (d : Dk) (u : Dk) (b : (Nat → Int32)) (w : (Nat → Int32)) (x5 : Int32) (x6 : Int32), f_L_law_70 xs L n70 d u b w x5 x6 = some 1 → ∀ (cells slots : Nat) (H : Heap) (locs : List Loc) (ls : Array Slot), (cells + (n70 * 2269) ≤ 628788) → (slots + (n70 * 14186) ≤ 7215333) → St D A s.heap (aW q0 q cA d t0 tq u ab aw b w) H locs → lv_has ls 12 [(0, .ref (sb)), (1, .ref (q0 0)), (2, .ref (t0 0)), (3, .ref (ab)), (4, .ref (aw)), (5, .int x5), (6, .int x6)] → W p l e room_1 s m args below meth c H locs cells slots Q (F0 m 70 ls []) := by
  obtain ⟨C, hl0, hXA, hN⟩ := id X
  obtain ⟨hx, hb, hml, hown, hts, hK, hlk⟩ := id C
  intro n70
  induction n70 with
  | zero => intro q tq d u b w x5 x6 hf; rw [f_L_law_70] at hf; cases hf
  | succ n70 ih =>
    intro q tq d u b w x5 x6 hf cells slots H locs ls hc hs h hl
    rw [f_L_law_70] at hf
    refine lv_iload (pc := 70) hx hb dL_law_70 (lv_at hl 6 rfl) ?_
    refine lv_bipush (pc := 72) (v := 70) hx hb dL_law_72 (by decide) ?_
    refine lv_icmp_ge (pc := 74) (tgt := 315) hx hb dL_law_74 (by decide) (fun c9 => ?_) (fun c9 => ?_)
    · have hf := ifT c9 hf
      refine lv_iload (pc := 315) hx hb dL_law_315 (lv_at hl 5 rfl) ?_
      have hv1 : x5 = 1 := Option.some.inj hf
      have hW1 := hE _ _ _ _ _ _ H locs ls _ _ (show cells ≤ 628788 from by omega) (show slots ≤ 7215333 from by omega) h
      rw [← hv1] at hW1
      exact hW1
    · have hf := ifF c9 hf
      refine lv_iload (pc := 77) hx hb dL_law_77 (lv_at hl 5 rfl) ?_
      refine lv_if_eq (pc := 79) (tgt := 315) hx hb dL_law_79 (by decide) (fun c9 => ?_) (fun c9 => ?_)
      · have hf := ifT c9 hf
        refine lv_iload (pc := 315) hx hb dL_law_315 (lv_at hl 5 rfl) ?_
        have hv1 : x5 = 1 := Option.some.inj hf
        have hW1 := hE _ _ _ _ _ _ H locs ls _ _ (show cells ≤ 628788 from by omega) (show slots ≤ 7215333 from by omega) h
        rw [← hv1] at hW1
        exact hW1
      · have hf := ifF c9 hf
        refine lv_aload_n (pc := 82) hx hb dL_law_82 rfl (lv_at hl 0 rfl) ?_
        refine lv_iconst (pc := 83) (v := 2) hx hb dL_law_83 (by decide) ?_
        refine lv_iload (pc := 84) hx hb dL_law_84 (lv_at hl 6 rfl) ?_
        refine lv_imul (pc := 86) hx hb dL_law_86 ?_
        obtain ⟨hat, hf⟩ := ifS hf
        refine call_at (pc := 87) (rest := []) hL X h hscr hbl hbA hat cw_L_222 rfl hl.1 (Nat.le_of_ble_eq_true rfl) dL_law_87 ⟨(Nat.le_of_ble_eq_true rfl), (Nat.le_of_ble_eq_true rfl)⟩ ⟨show cells + 0 ≤ 628788 from by omega, show slots + 0 ≤ 7215333 from by omega⟩ (fun H locs h => ?_)
        refine W.eq (g2 := F0 m 90 ls [.int (atF xs L ((2 : Int32) * x6))]) rfl ?_
        refine (show W p l e room_1 s m args below meth c H locs (cells) (slots) Q _ from ?_)
        refine lv_istore (pc := 90) (lv' := [(7, .int (atF xs L ((2 : Int32) * x6))), (0, .ref (sb)), (1, .ref (q0 0)), (2, .ref (t0 0)), (3, .ref (ab)), (4, .ref (aw)), (5, .int x5), (6, .int x6)]) hx hb dL_law_90 hl (by decide) rfl (fun ls hl => ?_)
        refine lv_aload_n (pc := 92) hx hb dL_law_92 rfl (lv_at hl 1 rfl) ?_
        refine lv_iconst (pc := 93) (v := 2) hx hb dL_law_93 (by decide) ?_
        refine lv_iload (pc := 94) hx hb dL_law_94 (lv_at hl 7 rfl) ?_
        refine lv_imul (pc := 96) hx hb dL_law_96 ?_
        refine lv_iconst (pc := 97) (v := 1) hx hb dL_law_97 (by decide) ?_
        refine lv_iadd (pc := 98) hx hb dL_law_98 ?_
        obtain ⟨hat, hf⟩ := ifS hf
        refine call_at (pc := 99) (rest := []) hL X h hscr hbl hbA hat cw_L_222 rfl hl.1 (Nat.le_of_ble_eq_true rfl) dL_law_99 ⟨(Nat.le_of_ble_eq_true rfl), (Nat.le_of_ble_eq_true rfl)⟩ ⟨show cells + 0 ≤ 628788 from by omega, show slots + 0 ≤ 7215333 from by omega⟩ (fun H locs h => ?_)
        refine W.eq (g2 := F0 m 102 ls [.int (atF xs L (((2 : Int32) * x6) + (1 : Int32)))]) rfl ?_
        refine (show W p l e room_1 s m args below meth c H locs (cells) (slots) Q _ from ?_)
        refine lv_istore (pc := 102) (lv' := [(8, .int (atF xs L (((2 : Int32) * x6) + (1 : Int32)))), (7, .int (atF xs L ((2 : Int32) * x6))), (0, .ref (sb)), (1, .ref (q0 0)), (2, .ref (t0 0)), (3, .ref (ab)), (4, .ref (aw)), (5, .int x5), (6, .int x6)]) hx hb dL_law_102 hl (by decide) rfl (fun ls hl => ?_)
        refine lv_iload (pc := 104) hx hb dL_law_104 (lv_at hl 8 rfl) ?_
        refine lv_iconst (pc := 106) (v := 3) hx hb dL_law_106 (by decide) ?_
        refine lv_icmp_ge (pc := 107) (tgt := 124) hx hb dL_law_107 (by decide) (fun c9 => ?_) (fun c9 => ?_)
        · have hf := ifT c9 hf
          refine lv_aload_n (pc := 124) hx hb dL_law_124 rfl (lv_at hl 3 rfl) ?_
          refine lv_aload_n (pc := 125) hx hb dL_law_125 rfl (lv_at hl 4 rfl) ?_
          refine lv_aload_n (pc := 126) hx hb dL_law_126 rfl (lv_at hl 5 rfl) ?_
          refine lv_aload (pc := 127) hx hb dL_law_127 (lv_at hl 6 rfl) ?_
          refine lv_iload (pc := 129) hx hb dL_law_129 (lv_at hl 1 rfl) ?_
          refine lv_iload (pc := 131) hx hb dL_law_131 (lv_at hl 0 rfl) ?_
          obtain ⟨z3, hc3, hf⟩ := bdS hf
          refine call_EK (pc := 133) (As := [.ref (q0 0), .ref (t0 0), .ref (ab), .ref (aw), .int (atF xs L ((2 : Int32) * x6)), .int (atF xs L (((2 : Int32) * x6) + (1 : Int32)))]) (rest := []) X h (k_L_acts d u b w (atF xs L ((2 : Int32) * x6)) (atF xs L (((2 : Int32) * x6) + (1 : Int32))) hc3) cw_L_226 (aW_self q0 q cA d t0 tq u ab aw b w) rfl rfl hl.1 (Nat.le_of_ble_eq_true rfl) dL_law_133 ⟨(Nat.le_of_ble_eq_true rfl), (Nat.le_of_ble_eq_true rfl)⟩ rfl rfl ⟨show cells + 81 ≤ 628788 from by omega, show slots + 772 ≤ 7215333 from by omega⟩ (fun e4 H locs h => ?_)
          replace h := St_perm (aW_self q0 e4.1 cA z3.2.1 t0 e4.2 z3.2.2.1 ab aw z3.2.2.2.1 z3.2.2.2.2).symm h
          refine W.eq (g2 := F0 m 136 ls [.int z3.1]) rfl ?_
          refine (show W p l e room_1 s m args below meth c H locs (cells + 81) (slots + 772) Q _ from ?_)
          exact jl_law_136 X hE hscr hbl hbA hL n70 _ (ih)  _ _ _ _ _ _ _ _ hf _ _ _ _ _ (by omega) (by omega) h (lv_sub hl [2, 3, 4, 5, 6, 8] rfl)
        · have hf := ifF c9 hf
          refine lv_aload_n (pc := 110) hx hb dL_law_110 rfl (lv_at hl 3 rfl) ?_
          refine lv_aload_n (pc := 111) hx hb dL_law_111 rfl (lv_at hl 4 rfl) ?_
          refine lv_aload_n (pc := 112) hx hb dL_law_112 rfl (lv_at hl 5 rfl) ?_
          refine lv_aload (pc := 113) hx hb dL_law_113 (lv_at hl 6 rfl) ?_
          refine lv_iconst (pc := 115) (v := 0) hx hb dL_law_115 (by decide) ?_
          refine lv_iload (pc := 116) hx hb dL_law_116 (lv_at hl 0 rfl) ?_
          obtain ⟨z3, hc3, hf⟩ := bdS hf
          refine call_EK (pc := 118) (As := [.ref (q0 0), .ref (t0 0), .ref (ab), .ref (aw), .int (0 : Int32), .int (atF xs L (((2 : Int32) * x6) + (1 : Int32)))]) (rest := []) X h (k_L_acts d u b w (0 : Int32) (atF xs L (((2 : Int32) * x6) + (1 : Int32))) hc3) cw_L_226 (aW_self q0 q cA d t0 tq u ab aw b w) rfl rfl hl.1 (Nat.le_of_ble_eq_true rfl) dL_law_118 ⟨(Nat.le_of_ble_eq_true rfl), (Nat.le_of_ble_eq_true rfl)⟩ rfl rfl ⟨show cells + 81 ≤ 628788 from by omega, show slots + 772 ≤ 7215333 from by omega⟩ (fun e4 H locs h => ?_)
          replace h := St_perm (aW_self q0 e4.1 cA z3.2.1 t0 e4.2 z3.2.2.1 ab aw z3.2.2.2.1 z3.2.2.2.2).symm h
          refine W.eq (g2 := F0 m 121 ls [.int z3.1]) rfl ?_
          refine (show W p l e room_1 s m args below meth c H locs (cells + 81) (slots + 772) Q _ from ?_)
          refine lv_goto (pc := 121) (tgt := 136) hx hb dL_law_121 (by decide) ?_
          exact jl_law_136 X hE hscr hbl hbA hL n70 _ (ih)  _ _ _ _ _ _ _ _ hf _ _ _ _ _ (by omega) (by omega) h (lv_sub hl [2, 3, 4, 5, 6, 8] rfl)
end
