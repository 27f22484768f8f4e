section
variable {p : Program} {l : Launch} {e : Env} {R : Room} {s : State} {m : MethodId} {args : Array Value} {below : List Frame} {meth : Method} {c : Code} {Q : State → Prop}
variable {D : va_G} {cA : Nat → ClassId} {A : Nat → Prop} {q : Nat → Nat}
abbrev rm_J6_bitCount_0f7a4 : Room := { frames := 0, cells := 0, slots := 0, locals := 0 }
def f_J6_bitCount_0f7a4 (x0 : Int32) : Int32 := ((((((((x0 - (((x0.toUInt32 >>> ((1 : Int32).toUInt32 &&& Int32.toUInt32 31)).toInt32) &&& (1431655765 : Int32))) &&& (858993459 : Int32)) + ((((x0 - (((x0.toUInt32 >>> ((1 : Int32).toUInt32 &&& Int32.toUInt32 31)).toInt32) &&& (1431655765 : Int32))).toUInt32 >>> ((2 : Int32).toUInt32 &&& Int32.toUInt32 31)).toInt32) &&& (858993459 : Int32))) + (((((x0 - (((x0.toUInt32 >>> ((1 : Int32).toUInt32 &&& Int32.toUInt32 31)).toInt32) &&& (1431655765 : Int32))) &&& (858993459 : Int32)) + ((((x0 - (((x0.toUInt32 >>> ((1 : Int32).toUInt32 &&& Int32.toUInt32 31)).toInt32) &&& (1431655765 : Int32))).toUInt32 >>> ((2 : Int32).toUInt32 &&& Int32.toUInt32 31)).toInt32) &&& (858993459 : Int32))).toUInt32 >>> ((4 : Int32).toUInt32 &&& Int32.toUInt32 31)).toInt32)) &&& (252645135 : Int32)) + (((((((x0 - (((x0.toUInt32 >>> ((1 : Int32).toUInt32 &&& Int32.toUInt32 31)).toInt32) &&& (1431655765 : Int32))) &&& (858993459 : Int32)) + ((((x0 - (((x0.toUInt32 >>> ((1 : Int32).toUInt32 &&& Int32.toUInt32 31)).toInt32) &&& (1431655765 : Int32))).toUInt32 >>> ((2 : Int32).toUInt32 &&& Int32.toUInt32 31)).toInt32) &&& (858993459 : Int32))) + (((((x0 - (((x0.toUInt32 >>> ((1 : Int32).toUInt32 &&& Int32.toUInt32 31)).toInt32) &&& (1431655765 : Int32))) &&& (858993459 : Int32)) + ((((x0 - (((x0.toUInt32 >>> ((1 : Int32).toUInt32 &&& Int32.toUInt32 31)).toInt32) &&& (1431655765 : Int32))).toUInt32 >>> ((2 : Int32).toUInt32 &&& Int32.toUInt32 31)).toInt32) &&& (858993459 : Int32))).toUInt32 >>> ((4 : Int32).toUInt32 &&& Int32.toUInt32 31)).toInt32)) &&& (252645135 : Int32)).toUInt32 >>> ((8 : Int32).toUInt32 &&& Int32.toUInt32 31)).toInt32)) + ((((((((x0 - (((x0.toUInt32 >>> ((1 : Int32).toUInt32 &&& Int32.toUInt32 31)).toInt32) &&& (1431655765 : Int32))) &&& (858993459 : Int32)) + ((((x0 - (((x0.toUInt32 >>> ((1 : Int32).toUInt32 &&& Int32.toUInt32 31)).toInt32) &&& (1431655765 : Int32))).toUInt32 >>> ((2 : Int32).toUInt32 &&& Int32.toUInt32 31)).toInt32) &&& (858993459 : Int32))) + (((((x0 - (((x0.toUInt32 >>> ((1 : Int32).toUInt32 &&& Int32.toUInt32 31)).toInt32) &&& (1431655765 : Int32))) &&& (858993459 : Int32)) + ((((x0 - (((x0.toUInt32 >>> ((1 : Int32).toUInt32 &&& Int32.toUInt32 31)).toInt32) &&& (1431655765 : Int32))).toUInt32 >>> ((2 : Int32).toUInt32 &&& Int32.toUInt32 31)).toInt32) &&& (858993459 : Int32))).toUInt32 >>> ((4 : Int32).toUInt32 &&& Int32.toUInt32 31)).toInt32)) &&& (252645135 : Int32)) + (((((((x0 - (((x0.toUInt32 >>> ((1 : Int32).toUInt32 &&& Int32.toUInt32 31)).toInt32) &&& (1431655765 : Int32))) &&& (858993459 : Int32)) + ((((x0 - (((x0.toUInt32 >>> ((1 : Int32).toUInt32 &&& Int32.toUInt32 31)).toInt32) &&& (1431655765 : Int32))).toUInt32 >>> ((2 : Int32).toUInt32 &&& Int32.toUInt32 31)).toInt32) &&& (858993459 : Int32))) + (((((x0 - (((x0.toUInt32 >>> ((1 : Int32).toUInt32 &&& Int32.toUInt32 31)).toInt32) &&& (1431655765 : Int32))) &&& (858993459 : Int32)) + ((((x0 - (((x0.toUInt32 >>> ((1 : Int32).toUInt32 &&& Int32.toUInt32 31)).toInt32) &&& (1431655765 : Int32))).toUInt32 >>> ((2 : Int32).toUInt32 &&& Int32.toUInt32 31)).toInt32) &&& (858993459 : Int32))).toUInt32 >>> ((4 : Int32).toUInt32 &&& Int32.toUInt32 31)).toInt32)) &&& (252645135 : Int32)).toUInt32 >>> ((8 : Int32).toUInt32 &&& Int32.toUInt32 31)).toInt32)).toUInt32 >>> ((16 : Int32).toUInt32 &&& Int32.toUInt32 31)).toInt32)) &&& (63 : Int32))
set_option maxHeartbeats 400000 in
set_option maxRecDepth 100000 in
theorem k_J6_bitCount_0f7a4 {cA : Nat → ClassId} {D : va_G} (x0 : Int32) {z : Int32} (hf : f_J6_bitCount_0f7a4 x0 = z) : CtR yJ6_bitCount_0f7a4 cJ6_bitCount_0f7a4 1 (some .int) rm_J6_bitCount_0f7a4 [.int x0] D cA [] (some (.int z)) 0 0 := by
  refine ctR_of (by decide) (Nat.le_of_ble_eq_true rfl) ?_
  intro p l e s m below meth c ls C hr hnm h hl
  have C : Cx p s m _ meth c cJ6_bitCount_0f7a4 1 RJ6 D cA := C
  obtain ⟨hx, hb, hml, hown, hts, hK, hlk⟩ := id C
  replace hl : lv_has ls 1 [(0, .int x0)] := hl
  rw [f_J6_bitCount_0f7a4] at hf
  refine lv_iload_n (pc := 0) hx hb dJ6_bitCount_0f7a4_0 rfl (lv_at hl 0 rfl) ?_
  refine lv_iload_n (pc := 1) hx hb dJ6_bitCount_0f7a4_1 rfl (lv_at hl 0 rfl) ?_
  refine lv_iconst (pc := 2) (v := 1) hx hb dJ6_bitCount_0f7a4_2 (by decide) ?_
  refine lv_iushr (pc := 3) (v := ((x0.toUInt32 >>> ((1 : Int32).toUInt32 &&& Int32.toUInt32 31)).toInt32)) hx hb dJ6_bitCount_0f7a4_3 rfl ?_
  refine lv_ldcw (pc := 4) (v := 1431655765) hx hb hown (hts _ kc_J6_265) dJ6_bitCount_0f7a4_4 ?_
  refine lv_iand (pc := 7) hx hb dJ6_bitCount_0f7a4_7 ?_
  refine lv_isub (pc := 8) hx hb dJ6_bitCount_0f7a4_8 ?_
  refine lv_istore_n (pc := 9) (lv' := [(0, .int (x0 - (((x0.toUInt32 >>> ((1 : Int32).toUInt32 &&& Int32.toUInt32 31)).toInt32) &&& (1431655765 : Int32))))]) hx hb dJ6_bitCount_0f7a4_9 rfl hl (by decide) rfl (fun ls hl => ?_)
  refine lv_iload_n (pc := 10) hx hb dJ6_bitCount_0f7a4_10 rfl (lv_at hl 0 rfl) ?_
  refine lv_ldcw (pc := 11) (v := 858993459) hx hb hown (hts _ kc_J6_266) dJ6_bitCount_0f7a4_11 ?_
  refine lv_iand (pc := 14) hx hb dJ6_bitCount_0f7a4_14 ?_
  refine lv_iload_n (pc := 15) hx hb dJ6_bitCount_0f7a4_15 rfl (lv_at hl 0 rfl) ?_
  refine lv_iconst (pc := 16) (v := 2) hx hb dJ6_bitCount_0f7a4_16 (by decide) ?_
  refine lv_iushr (pc := 17) (v := (((x0 - (((x0.toUInt32 >>> ((1 : Int32).toUInt32 &&& Int32.toUInt32 31)).toInt32) &&& (1431655765 : Int32))).toUInt32 >>> ((2 : Int32).toUInt32 &&& Int32.toUInt32 31)).toInt32)) hx hb dJ6_bitCount_0f7a4_17 rfl ?_
  refine lv_ldcw (pc := 18) (v := 858993459) hx hb hown (hts _ kc_J6_266) dJ6_bitCount_0f7a4_18 ?_
  refine lv_iand (pc := 21) hx hb dJ6_bitCount_0f7a4_21 ?_
  refine lv_iadd (pc := 22) hx hb dJ6_bitCount_0f7a4_22 ?_
  refine lv_istore_n (pc := 23) (lv' := [(0, .int (((x0 - (((x0.toUInt32 >>> ((1 : Int32).toUInt32 &&& Int32.toUInt32 31)).toInt32) &&& (1431655765 : Int32))) &&& (858993459 : Int32)) + ((((x0 - (((x0.toUInt32 >>> ((1 : Int32).toUInt32 &&& Int32.toUInt32 31)).toInt32) &&& (1431655765 : Int32))).toUInt32 >>> ((2 : Int32).toUInt32 &&& Int32.toUInt32 31)).toInt32) &&& (858993459 : Int32))))]) hx hb dJ6_bitCount_0f7a4_23 rfl hl (by decide) rfl (fun ls hl => ?_)
  refine lv_iload_n (pc := 24) hx hb dJ6_bitCount_0f7a4_24 rfl (lv_at hl 0 rfl) ?_
  refine lv_iload_n (pc := 25) hx hb dJ6_bitCount_0f7a4_25 rfl (lv_at hl 0 rfl) ?_
  refine lv_iconst (pc := 26) (v := 4) hx hb dJ6_bitCount_0f7a4_26 (by decide) ?_
  refine lv_iushr (pc := 27) (v := (((((x0 - (((x0.toUInt32 >>> ((1 : Int32).toUInt32 &&& Int32.toUInt32 31)).toInt32) &&& (1431655765 : Int32))) &&& (858993459 : Int32)) + ((((x0 - (((x0.toUInt32 >>> ((1 : Int32).toUInt32 &&& Int32.toUInt32 31)).toInt32) &&& (1431655765 : Int32))).toUInt32 >>> ((2 : Int32).toUInt32 &&& Int32.toUInt32 31)).toInt32) &&& (858993459 : Int32))).toUInt32 >>> ((4 : Int32).toUInt32 &&& Int32.toUInt32 31)).toInt32)) hx hb dJ6_bitCount_0f7a4_27 rfl ?_
  refine lv_iadd (pc := 28) hx hb dJ6_bitCount_0f7a4_28 ?_
  refine lv_ldcw (pc := 29) (v := 252645135) hx hb hown (hts _ kc_J6_267) dJ6_bitCount_0f7a4_29 ?_
  refine lv_iand (pc := 32) hx hb dJ6_bitCount_0f7a4_32 ?_
  refine lv_istore_n (pc := 33) (lv' := [(0, .int (((((x0 - (((x0.toUInt32 >>> ((1 : Int32).toUInt32 &&& Int32.toUInt32 31)).toInt32) &&& (1431655765 : Int32))) &&& (858993459 : Int32)) + ((((x0 - (((x0.toUInt32 >>> ((1 : Int32).toUInt32 &&& Int32.toUInt32 31)).toInt32) &&& (1431655765 : Int32))).toUInt32 >>> ((2 : Int32).toUInt32 &&& Int32.toUInt32 31)).toInt32) &&& (858993459 : Int32))) + (((((x0 - (((x0.toUInt32 >>> ((1 : Int32).toUInt32 &&& Int32.toUInt32 31)).toInt32) &&& (1431655765 : Int32))) &&& (858993459 : Int32)) + ((((x0 - (((x0.toUInt32 >>> ((1 : Int32).toUInt32 &&& Int32.toUInt32 31)).toInt32) &&& (1431655765 : Int32))).toUInt32 >>> ((2 : Int32).toUInt32 &&& Int32.toUInt32 31)).toInt32) &&& (858993459 : Int32))).toUInt32 >>> ((4 : Int32).toUInt32 &&& Int32.toUInt32 31)).toInt32)) &&& (252645135 : Int32)))]) hx hb dJ6_bitCount_0f7a4_33 rfl hl (by decide) rfl (fun ls hl => ?_)
  refine lv_iload_n (pc := 34) hx hb dJ6_bitCount_0f7a4_34 rfl (lv_at hl 0 rfl) ?_
  refine lv_iload_n (pc := 35) hx hb dJ6_bitCount_0f7a4_35 rfl (lv_at hl 0 rfl) ?_
  refine lv_bipush (pc := 36) (v := 8) hx hb dJ6_bitCount_0f7a4_36 (by decide) ?_
  refine lv_iushr (pc := 38) (v := (((((((x0 - (((x0.toUInt32 >>> ((1 : Int32).toUInt32 &&& Int32.toUInt32 31)).toInt32) &&& (1431655765 : Int32))) &&& (858993459 : Int32)) + ((((x0 - (((x0.toUInt32 >>> ((1 : Int32).toUInt32 &&& Int32.toUInt32 31)).toInt32) &&& (1431655765 : Int32))).toUInt32 >>> ((2 : Int32).toUInt32 &&& Int32.toUInt32 31)).toInt32) &&& (858993459 : Int32))) + (((((x0 - (((x0.toUInt32 >>> ((1 : Int32).toUInt32 &&& Int32.toUInt32 31)).toInt32) &&& (1431655765 : Int32))) &&& (858993459 : Int32)) + ((((x0 - (((x0.toUInt32 >>> ((1 : Int32).toUInt32 &&& Int32.toUInt32 31)).toInt32) &&& (1431655765 : Int32))).toUInt32 >>> ((2 : Int32).toUInt32 &&& Int32.toUInt32 31)).toInt32) &&& (858993459 : Int32))).toUInt32 >>> ((4 : Int32).toUInt32 &&& Int32.toUInt32 31)).toInt32)) &&& (252645135 : Int32)).toUInt32 >>> ((8 : Int32).toUInt32 &&& Int32.toUInt32 31)).toInt32)) hx hb dJ6_bitCount_0f7a4_38 rfl ?_
  refine lv_iadd (pc := 39) hx hb dJ6_bitCount_0f7a4_39 ?_
  refine lv_istore_n (pc := 40) (lv' := [(0, .int ((((((x0 - (((x0.toUInt32 >>> ((1 : Int32).toUInt32 &&& Int32.toUInt32 31)).toInt32) &&& (1431655765 : Int32))) &&& (858993459 : Int32)) + ((((x0 - (((x0.toUInt32 >>> ((1 : Int32).toUInt32 &&& Int32.toUInt32 31)).toInt32) &&& (1431655765 : Int32))).toUInt32 >>> ((2 : Int32).toUInt32 &&& Int32.toUInt32 31)).toInt32) &&& (858993459 : Int32))) + (((((x0 - (((x0.toUInt32 >>> ((1 : Int32).toUInt32 &&& Int32.toUInt32 31)).toInt32) &&& (1431655765 : Int32))) &&& (858993459 : Int32)) + ((((x0 - (((x0.toUInt32 >>> ((1 : Int32).toUInt32 &&& Int32.toUInt32 31)).toInt32) &&& (1431655765 : Int32))).toUInt32 >>> ((2 : Int32).toUInt32 &&& Int32.toUInt32 31)).toInt32) &&& (858993459 : Int32))).toUInt32 >>> ((4 : Int32).toUInt32 &&& Int32.toUInt32 31)).toInt32)) &&& (252645135 : Int32)) + (((((((x0 - (((x0.toUInt32 >>> ((1 : Int32).toUInt32 &&& Int32.toUInt32 31)).toInt32) &&& (1431655765 : Int32))) &&& (858993459 : Int32)) + ((((x0 - (((x0.toUInt32 >>> ((1 : Int32).toUInt32 &&& Int32.toUInt32 31)).toInt32) &&& (1431655765 : Int32))).toUInt32 >>> ((2 : Int32).toUInt32 &&& Int32.toUInt32 31)).toInt32) &&& (858993459 : Int32))) + (((((x0 - (((x0.toUInt32 >>> ((1 : Int32).toUInt32 &&& Int32.toUInt32 31)).toInt32) &&& (1431655765 : Int32))) &&& (858993459 : Int32)) + ((((x0 - (((x0.toUInt32 >>> ((1 : Int32).toUInt32 &&& Int32.toUInt32 31)).toInt32) &&& (1431655765 : Int32))).toUInt32 >>> ((2 : Int32).toUInt32 &&& Int32.toUInt32 31)).toInt32) &&& (858993459 : Int32))).toUInt32 >>> ((4 : Int32).toUInt32 &&& Int32.toUInt32 31)).toInt32)) &&& (252645135 : Int32)).toUInt32 >>> ((8 : Int32).toUInt32 &&& Int32.toUInt32 31)).toInt32)))]) hx hb dJ6_bitCount_0f7a4_40 rfl hl (by decide) rfl (fun ls hl => ?_)
  refine lv_iload_n (pc := 41) hx hb dJ6_bitCount_0f7a4_41 rfl (lv_at hl 0 rfl) ?_
  refine lv_iload_n (pc := 42) hx hb dJ6_bitCount_0f7a4_42 rfl (lv_at hl 0 rfl) ?_
  refine lv_bipush (pc := 43) (v := 16) hx hb dJ6_bitCount_0f7a4_43 (by decide) ?_
  refine lv_iushr (pc := 45) (v := ((((((((x0 - (((x0.toUInt32 >>> ((1 : Int32).toUInt32 &&& Int32.toUInt32 31)).toInt32) &&& (1431655765 : Int32))) &&& (858993459 : Int32)) + ((((x0 - (((x0.toUInt32 >>> ((1 : Int32).toUInt32 &&& Int32.toUInt32 31)).toInt32) &&& (1431655765 : Int32))).toUInt32 >>> ((2 : Int32).toUInt32 &&& Int32.toUInt32 31)).toInt32) &&& (858993459 : Int32))) + (((((x0 - (((x0.toUInt32 >>> ((1 : Int32).toUInt32 &&& Int32.toUInt32 31)).toInt32) &&& (1431655765 : Int32))) &&& (858993459 : Int32)) + ((((x0 - (((x0.toUInt32 >>> ((1 : Int32).toUInt32 &&& Int32.toUInt32 31)).toInt32) &&& (1431655765 : Int32))).toUInt32 >>> ((2 : Int32).toUInt32 &&& Int32.toUInt32 31)).toInt32) &&& (858993459 : Int32))).toUInt32 >>> ((4 : Int32).toUInt32 &&& Int32.toUInt32 31)).toInt32)) &&& (252645135 : Int32)) + (((((((x0 - (((x0.toUInt32 >>> ((1 : Int32).toUInt32 &&& Int32.toUInt32 31)).toInt32) &&& (1431655765 : Int32))) &&& (858993459 : Int32)) + ((((x0 - (((x0.toUInt32 >>> ((1 : Int32).toUInt32 &&& Int32.toUInt32 31)).toInt32) &&& (1431655765 : Int32))).toUInt32 >>> ((2 : Int32).toUInt32 &&& Int32.toUInt32 31)).toInt32) &&& (858993459 : Int32))) + (((((x0 - (((x0.toUInt32 >>> ((1 : Int32).toUInt32 &&& Int32.toUInt32 31)).toInt32) &&& (1431655765 : Int32))) &&& (858993459 : Int32)) + ((((x0 - (((x0.toUInt32 >>> ((1 : Int32).toUInt32 &&& Int32.toUInt32 31)).toInt32) &&& (1431655765 : Int32))).toUInt32 >>> ((2 : Int32).toUInt32 &&& Int32.toUInt32 31)).toInt32) &&& (858993459 : Int32))).toUInt32 >>> ((4 : Int32).toUInt32 &&& Int32.toUInt32 31)).toInt32)) &&& (252645135 : Int32)).toUInt32 >>> ((8 : Int32).toUInt32 &&& Int32.toUInt32 31)).toInt32)).toUInt32 >>> ((16 : Int32).toUInt32 &&& Int32.toUInt32 31)).toInt32)) hx hb dJ6_bitCount_0f7a4_45 rfl ?_
  refine lv_iadd (pc := 46) hx hb dJ6_bitCount_0f7a4_46 ?_
  refine lv_istore_n (pc := 47) (lv' := [(0, .int (((((((x0 - (((x0.toUInt32 >>> ((1 : Int32).toUInt32 &&& Int32.toUInt32 31)).toInt32) &&& (1431655765 : Int32))) &&& (858993459 : Int32)) + ((((x0 - (((x0.toUInt32 >>> ((1 : Int32).toUInt32 &&& Int32.toUInt32 31)).toInt32) &&& (1431655765 : Int32))).toUInt32 >>> ((2 : Int32).toUInt32 &&& Int32.toUInt32 31)).toInt32) &&& (858993459 : Int32))) + (((((x0 - (((x0.toUInt32 >>> ((1 : Int32).toUInt32 &&& Int32.toUInt32 31)).toInt32) &&& (1431655765 : Int32))) &&& (858993459 : Int32)) + ((((x0 - (((x0.toUInt32 >>> ((1 : Int32).toUInt32 &&& Int32.toUInt32 31)).toInt32) &&& (1431655765 : Int32))).toUInt32 >>> ((2 : Int32).toUInt32 &&& Int32.toUInt32 31)).toInt32) &&& (858993459 : Int32))).toUInt32 >>> ((4 : Int32).toUInt32 &&& Int32.toUInt32 31)).toInt32)) &&& (252645135 : Int32)) + (((((((x0 - (((x0.toUInt32 >>> ((1 : Int32).toUInt32 &&& Int32.toUInt32 31)).toInt32) &&& (1431655765 : Int32))) &&& (858993459 : Int32)) + ((((x0 - (((x0.toUInt32 >>> ((1 : Int32).toUInt32 &&& Int32.toUInt32 31)).toInt32) &&& (1431655765 : Int32))).toUInt32 >>> ((2 : Int32).toUInt32 &&& Int32.toUInt32 31)).toInt32) &&& (858993459 : Int32))) + (((((x0 - (((x0.toUInt32 >>> ((1 : Int32).toUInt32 &&& Int32.toUInt32 31)).toInt32) &&& (1431655765 : Int32))) &&& (858993459 : Int32)) + ((((x0 - (((x0.toUInt32 >>> ((1 : Int32).toUInt32 &&& Int32.toUInt32 31)).toInt32) &&& (1431655765 : Int32))).toUInt32 >>> ((2 : Int32).toUInt32 &&& Int32.toUInt32 31)).toInt32) &&& (858993459 : Int32))).toUInt32 >>> ((4 : Int32).toUInt32 &&& Int32.toUInt32 31)).toInt32)) &&& (252645135 : Int32)).toUInt32 >>> ((8 : Int32).toUInt32 &&& Int32.toUInt32 31)).toInt32)) + ((((((((x0 - (((x0.toUInt32 >>> ((1 : Int32).toUInt32 &&& Int32.toUInt32 31)).toInt32) &&& (1431655765 : Int32))) &&& (858993459 : Int32)) + ((((x0 - (((x0.toUInt32 >>> ((1 : Int32).toUInt32 &&& Int32.toUInt32 31)).toInt32) &&& (1431655765 : Int32))).toUInt32 >>> ((2 : Int32).toUInt32 &&& Int32.toUInt32 31)).toInt32) &&& (858993459 : Int32))) + (((((x0 - (((x0.toUInt32 >>> ((1 : Int32).toUInt32 &&& Int32.toUInt32 31)).toInt32) &&& (1431655765 : Int32))) &&& (858993459 : Int32)) + ((((x0 - (((x0.toUInt32 >>> ((1 : Int32).toUInt32 &&& Int32.toUInt32 31)).toInt32) &&& (1431655765 : Int32))).toUInt32 >>> ((2 : Int32).toUInt32 &&& Int32.toUInt32 31)).toInt32) &&& (858993459 : Int32))).toUInt32 >>> ((4 : Int32).toUInt32 &&& Int32.toUInt32 31)).toInt32)) &&& (252645135 : Int32)) + (((((((x0 - (((x0.toUInt32 >>> ((1 : Int32).toUInt32 &&& Int32.toUInt32 31)).toInt32) &&& (1431655765 : Int32))) &&& (858993459 : Int32)) + ((((x0 - (((x0.toUInt32 >>> ((1 : Int32).toUInt32 &&& Int32.toUInt32 31)).toInt32) &&& (1431655765 : Int32))).toUInt32 >>> ((2 : Int32).toUInt32 &&& Int32.toUInt32 31)).toInt32) &&& (858993459 : Int32))) + (((((x0 - (((x0.toUInt32 >>> ((1 : Int32).toUInt32 &&& Int32.toUInt32 31)).toInt32) &&& (1431655765 : Int32))) &&& (858993459 : Int32)) + ((((x0 - (((x0.toUInt32 >>> ((1 : Int32).toUInt32 &&& Int32.toUInt32 31)).toInt32) &&& (1431655765 : Int32))).toUInt32 >>> ((2 : Int32).toUInt32 &&& Int32.toUInt32 31)).toInt32) &&& (858993459 : Int32))).toUInt32 >>> ((4 : Int32).toUInt32 &&& Int32.toUInt32 31)).toInt32)) &&& (252645135 : Int32)).toUInt32 >>> ((8 : Int32).toUInt32 &&& Int32.toUInt32 31)).toInt32)).toUInt32 >>> ((16 : Int32).toUInt32 &&& Int32.toUInt32 31)).toInt32)))]) hx hb dJ6_bitCount_0f7a4_47 rfl hl (by decide) rfl (fun ls hl => ?_)
  refine lv_iload_n (pc := 48) hx hb dJ6_bitCount_0f7a4_48 rfl (lv_at hl 0 rfl) ?_
  refine lv_bipush (pc := 49) (v := 63) hx hb dJ6_bitCount_0f7a4_49 (by decide) ?_
  refine lv_iand (pc := 51) hx hb dJ6_bitCount_0f7a4_51 ?_
  have hf : ((((((((x0 - (((x0.toUInt32 >>> ((1 : Int32).toUInt32 &&& Int32.toUInt32 31)).toInt32) &&& (1431655765 : Int32))) &&& (858993459 : Int32)) + ((((x0 - (((x0.toUInt32 >>> ((1 : Int32).toUInt32 &&& Int32.toUInt32 31)).toInt32) &&& (1431655765 : Int32))).toUInt32 >>> ((2 : Int32).toUInt32 &&& Int32.toUInt32 31)).toInt32) &&& (858993459 : Int32))) + (((((x0 - (((x0.toUInt32 >>> ((1 : Int32).toUInt32 &&& Int32.toUInt32 31)).toInt32) &&& (1431655765 : Int32))) &&& (858993459 : Int32)) + ((((x0 - (((x0.toUInt32 >>> ((1 : Int32).toUInt32 &&& Int32.toUInt32 31)).toInt32) &&& (1431655765 : Int32))).toUInt32 >>> ((2 : Int32).toUInt32 &&& Int32.toUInt32 31)).toInt32) &&& (858993459 : Int32))).toUInt32 >>> ((4 : Int32).toUInt32 &&& Int32.toUInt32 31)).toInt32)) &&& (252645135 : Int32)) + (((((((x0 - (((x0.toUInt32 >>> ((1 : Int32).toUInt32 &&& Int32.toUInt32 31)).toInt32) &&& (1431655765 : Int32))) &&& (858993459 : Int32)) + ((((x0 - (((x0.toUInt32 >>> ((1 : Int32).toUInt32 &&& Int32.toUInt32 31)).toInt32) &&& (1431655765 : Int32))).toUInt32 >>> ((2 : Int32).toUInt32 &&& Int32.toUInt32 31)).toInt32) &&& (858993459 : Int32))) + (((((x0 - (((x0.toUInt32 >>> ((1 : Int32).toUInt32 &&& Int32.toUInt32 31)).toInt32) &&& (1431655765 : Int32))) &&& (858993459 : Int32)) + ((((x0 - (((x0.toUInt32 >>> ((1 : Int32).toUInt32 &&& Int32.toUInt32 31)).toInt32) &&& (1431655765 : Int32))).toUInt32 >>> ((2 : Int32).toUInt32 &&& Int32.toUInt32 31)).toInt32) &&& (858993459 : Int32))).toUInt32 >>> ((4 : Int32).toUInt32 &&& Int32.toUInt32 31)).toInt32)) &&& (252645135 : Int32)).toUInt32 >>> ((8 : Int32).toUInt32 &&& Int32.toUInt32 31)).toInt32)) + ((((((((x0 - (((x0.toUInt32 >>> ((1 : Int32).toUInt32 &&& Int32.toUInt32 31)).toInt32) &&& (1431655765 : Int32))) &&& (858993459 : Int32)) + ((((x0 - (((x0.toUInt32 >>> ((1 : Int32).toUInt32 &&& Int32.toUInt32 31)).toInt32) &&& (1431655765 : Int32))).toUInt32 >>> ((2 : Int32).toUInt32 &&& Int32.toUInt32 31)).toInt32) &&& (858993459 : Int32))) + (((((x0 - (((x0.toUInt32 >>> ((1 : Int32).toUInt32 &&& Int32.toUInt32 31)).toInt32) &&& (1431655765 : Int32))) &&& (858993459 : Int32)) + ((((x0 - (((x0.toUInt32 >>> ((1 : Int32).toUInt32 &&& Int32.toUInt32 31)).toInt32) &&& (1431655765 : Int32))).toUInt32 >>> ((2 : Int32).toUInt32 &&& Int32.toUInt32 31)).toInt32) &&& (858993459 : Int32))).toUInt32 >>> ((4 : Int32).toUInt32 &&& Int32.toUInt32 31)).toInt32)) &&& (252645135 : Int32)) + (((((((x0 - (((x0.toUInt32 >>> ((1 : Int32).toUInt32 &&& Int32.toUInt32 31)).toInt32) &&& (1431655765 : Int32))) &&& (858993459 : Int32)) + ((((x0 - (((x0.toUInt32 >>> ((1 : Int32).toUInt32 &&& Int32.toUInt32 31)).toInt32) &&& (1431655765 : Int32))).toUInt32 >>> ((2 : Int32).toUInt32 &&& Int32.toUInt32 31)).toInt32) &&& (858993459 : Int32))) + (((((x0 - (((x0.toUInt32 >>> ((1 : Int32).toUInt32 &&& Int32.toUInt32 31)).toInt32) &&& (1431655765 : Int32))) &&& (858993459 : Int32)) + ((((x0 - (((x0.toUInt32 >>> ((1 : Int32).toUInt32 &&& Int32.toUInt32 31)).toInt32) &&& (1431655765 : Int32))).toUInt32 >>> ((2 : Int32).toUInt32 &&& Int32.toUInt32 31)).toInt32) &&& (858993459 : Int32))).toUInt32 >>> ((4 : Int32).toUInt32 &&& Int32.toUInt32 31)).toInt32)) &&& (252645135 : Int32)).toUInt32 >>> ((8 : Int32).toUInt32 &&& Int32.toUInt32 31)).toInt32)).toUInt32 >>> ((16 : Int32).toUInt32 &&& Int32.toUInt32 31)).toInt32)) &&& (63 : Int32)) = z := hf
  subst hf
  exact ret_iR (pc := 52) C hr h dJ6_bitCount_0f7a4_52
abbrev rm_X3_otherOn : Room := { frames := 0, cells := 0, slots := 0, locals := 0 }
def f_X3_otherOn (σ : Nat → Nat → Int32) (x1 : Int32) : Int32 := (if x1 < (σ 1 0) then (-1 : Int32) else (if (σ 2 0) < x1 then (-1 : Int32) else (σ 0 0)))
set_option maxHeartbeats 400000 in
set_option maxRecDepth 100000 in
theorem k_X3_otherOn {q : Nat → Nat} {cA : Nat → ClassId} {D : va_G} (σ : Nat → Nat → Int32) (x1 : Int32) {z : Int32} (hf : f_X3_otherOn σ x1 = z) : CtR yX3_otherOn cX3_otherOn 2 (some .int) rm_X3_otherOn [.ref (q 0), .int x1] D cA (dW q cA σ) (some (.int z)) 0 0 := by
  refine ctR_of (by decide) (Nat.le_of_ble_eq_true rfl) ?_
  intro p l e s m below meth c ls C hr hnm h hl
  have C : Cx p s m _ meth c cX3_otherOn 2 RX3 D cA := C
  obtain ⟨hx, hb, hml, hown, hts, hK, hlk⟩ := id C
  replace hl : lv_has ls 2 [(0, .ref (q 0)), (1, .int x1)] := hl
  rw [f_X3_otherOn] at hf
  refine lv_aload_n (pc := 0) hx hb dX3_otherOn_0 rfl (lv_at hl 0 rfl) ?_
  refine g_get (pc := 1) (v := .int (σ 1 0)) C h.1 0 (dW_c0 _ _ _) fl_X3_15 rfl dX3_otherOn_1 ?_
  refine lv_iload_n (pc := 4) hx hb dX3_otherOn_4 rfl (lv_at hl 1 rfl) ?_
  refine lv_icmp_gt (pc := 5) (tgt := 23) hx hb dX3_otherOn_5 (by decide) (fun c9 => ?_) (fun c9 => ?_)
  · have hf := ifT c9 hf
    refine lv_iconst (pc := 23) (v := -1) hx hb dX3_otherOn_23 (by decide) ?_
    have hf : (-1 : Int32) = z := hf
    subst hf
    exact ret_iR (pc := 24) C hr h dX3_otherOn_24
  · have hf := ifF c9 hf
    refine lv_iload_n (pc := 8) hx hb dX3_otherOn_8 rfl (lv_at hl 1 rfl) ?_
    refine lv_aload_n (pc := 9) hx hb dX3_otherOn_9 rfl (lv_at hl 0 rfl) ?_
    refine g_get (pc := 10) (v := .int (σ 2 0)) C h.1 0 (dW_c0 _ _ _) fl_X3_18 rfl dX3_otherOn_10 ?_
    refine lv_icmp_gt (pc := 13) (tgt := 23) hx hb dX3_otherOn_13 (by decide) (fun c9 => ?_) (fun c9 => ?_)
    · have hf := ifT c9 hf
      refine lv_iconst (pc := 23) (v := -1) hx hb dX3_otherOn_23 (by decide) ?_
      have hf : (-1 : Int32) = z := hf
      subst hf
      exact ret_iR (pc := 24) C hr h dX3_otherOn_24
    · have hf := ifF c9 hf
      refine lv_aload_n (pc := 16) hx hb dX3_otherOn_16 rfl (lv_at hl 0 rfl) ?_
      refine g_get (pc := 17) (v := .int (σ 0 0)) C h.1 0 (dW_c0 _ _ _) fl_X3_9 rfl dX3_otherOn_17 ?_
      refine lv_goto (pc := 20) (tgt := 24) hx hb dX3_otherOn_20 (by decide) ?_
      have hf : (σ 0 0) = z := hf
      subst hf
      exact ret_iR (pc := 24) C hr h dX3_otherOn_24
abbrev rm_X1_add : Room := { frames := 1, cells := 0, slots := 0, locals := 22 }
def f_X1_add (σ : Nat → Nat → Int32) (x1 x2 x3 x4 : Int32) : (Nat → Nat → Int32) := (if (σ 4 0) < (49 : Int32) then (lt (va_up σ 0 (rs 49 (σ 0) (σ 4 0) x1)) fun t1 => (lt (va_up t1 1 (rs 49 (t1 1) (t1 4 0) x2)) fun t2 => (lt (va_up t2 2 (rs 49 (t2 2) (t2 4 0) x3)) fun t3 => (lt (va_up t3 3 (rs 49 (t3 3) (t3 4 0) x4)) fun t4 => (lt (va_up t4 4 (fun _ => ((t4 4 0) + (1 : Int32)))) fun t5 => t5))))) else σ)
set_option maxHeartbeats 400000 in
set_option maxRecDepth 100000 in
theorem k_X1_add {q : Nat → Nat} {cA : Nat → ClassId} {D : va_G} (σ : Nat → Nat → Int32) (x1 x2 x3 x4 : Int32) {z : (Nat → Nat → Int32)} (hf : f_X1_add σ x1 x2 x3 x4 = z) : CtU yX1_add cX1_add 5 none rm_X1_add [.ref (q 0), .int x1, .int x2, .int x3, .int x4] D cA (hW q cA σ) (hW q cA z) none 0 0 := by
  refine ctU_of (by decide) (Nat.le_of_ble_eq_true rfl) ?_
  intro p l e s m below meth c ls C hr hnm h hl
  have C : Cx p s m _ meth c cX1_add 5 RX1 D cA := C
  obtain ⟨hx, hb, hml, hown, hts, hK, hlk⟩ := id C
  replace hl : lv_has ls 5 [(0, .ref (q 0)), (1, .int x1), (2, .int x2), (3, .int x3), (4, .int x4)] := hl
  rw [f_X1_add] at hf
  refine lv_aload_n (pc := 0) hx hb dX1_add_0 rfl (lv_at hl 0 rfl) ?_
  refine g_get (pc := 1) (v := .int (σ 4 0)) C h.1 0 (hW_c0 _ _ _) fl_X1_29 rfl dX1_add_1 ?_
  refine lv_bipush (pc := 4) (v := 49) hx hb dX1_add_4 (by decide) ?_
  refine lv_icmp_lt (pc := 6) (tgt := 10) hx hb dX1_add_6 (by decide) (fun c9 => ?_) (fun c9 => ?_)
  · have hf := ifT c9 hf
    refine lv_aload_n (pc := 10) hx hb dX1_add_10 rfl (lv_at hl 0 rfl) ?_
    refine g_get (pc := 11) (v := .ref (q 1)) C h.1 0 (hW_c0 _ _ _) fl_X1_14 rfl dX1_add_11 ?_
    refine lv_aload_n (pc := 14) hx hb dX1_add_14 rfl (lv_at hl 0 rfl) ?_
    refine g_get (pc := 15) (v := .int (σ 4 0)) C h.1 0 (hW_c0 _ _ _) fl_X1_29 rfl dX1_add_15 ?_
    refine lv_iload_n (pc := 18) hx hb dX1_add_18 rfl (lv_at hl 1 rfl) ?_
    obtain ⟨t1, et1, hf⟩ := ltS hf
    refine call_rset (pc := 19) (rest := []) (ws' := (hW q cA t1)) C h (by decide) (by decide) (hW_c1 _ _ _) (hW_c5 _ _ _) ((hW_w5 _ _ _ _).trans (congrArg (hW q cA) et1.symm)) cw_X1_33 hl.1 (Nat.le_of_ble_eq_true rfl) dX1_add_19 ⟨Nat.le_of_ble_eq_true rfl, Nat.le_of_ble_eq_true rfl⟩ rfl rfl ⟨Nat.le_of_ble_eq_true rfl, Nat.le_of_ble_eq_true rfl⟩ (fun H locs h => ?_)
    refine lv_aload_n (pc := 22) hx hb dX1_add_22 rfl (lv_at hl 0 rfl) ?_
    refine g_get (pc := 23) (v := .ref (q 2)) C h.1 0 (hW_c0 _ _ _) fl_X1_20 rfl dX1_add_23 ?_
    refine lv_aload_n (pc := 26) hx hb dX1_add_26 rfl (lv_at hl 0 rfl) ?_
    refine g_get (pc := 27) (v := .int (t1 4 0)) C h.1 0 (hW_c0 _ _ _) fl_X1_29 rfl dX1_add_27 ?_
    refine lv_iload_n (pc := 30) hx hb dX1_add_30 rfl (lv_at hl 2 rfl) ?_
    obtain ⟨t2, et2, hf⟩ := ltS hf
    refine call_rset (pc := 31) (rest := []) (ws' := (hW q cA t2)) C h (by decide) (by decide) (hW_c2 _ _ _) (hW_c6 _ _ _) ((hW_w6 _ _ _ _).trans (congrArg (hW q cA) et2.symm)) cw_X1_33 hl.1 (Nat.le_of_ble_eq_true rfl) dX1_add_31 ⟨Nat.le_of_ble_eq_true rfl, Nat.le_of_ble_eq_true rfl⟩ rfl rfl ⟨Nat.le_of_ble_eq_true rfl, Nat.le_of_ble_eq_true rfl⟩ (fun H locs h => ?_)
    refine lv_aload_n (pc := 34) hx hb dX1_add_34 rfl (lv_at hl 0 rfl) ?_
    refine g_get (pc := 35) (v := .ref (q 3)) C h.1 0 (hW_c0 _ _ _) fl_X1_23 rfl dX1_add_35 ?_
    refine lv_aload_n (pc := 38) hx hb dX1_add_38 rfl (lv_at hl 0 rfl) ?_
    refine g_get (pc := 39) (v := .int (t2 4 0)) C h.1 0 (hW_c0 _ _ _) fl_X1_29 rfl dX1_add_39 ?_
    refine lv_iload_n (pc := 42) hx hb dX1_add_42 rfl (lv_at hl 3 rfl) ?_
    obtain ⟨t3, et3, hf⟩ := ltS hf
    refine call_rset (pc := 43) (rest := []) (ws' := (hW q cA t3)) C h (by decide) (by decide) (hW_c3 _ _ _) (hW_c7 _ _ _) ((hW_w7 _ _ _ _).trans (congrArg (hW q cA) et3.symm)) cw_X1_33 hl.1 (Nat.le_of_ble_eq_true rfl) dX1_add_43 ⟨Nat.le_of_ble_eq_true rfl, Nat.le_of_ble_eq_true rfl⟩ rfl rfl ⟨Nat.le_of_ble_eq_true rfl, Nat.le_of_ble_eq_true rfl⟩ (fun H locs h => ?_)
    refine lv_aload_n (pc := 46) hx hb dX1_add_46 rfl (lv_at hl 0 rfl) ?_
    refine g_get (pc := 47) (v := .ref (q 4)) C h.1 0 (hW_c0 _ _ _) fl_X1_26 rfl dX1_add_47 ?_
    refine lv_aload_n (pc := 50) hx hb dX1_add_50 rfl (lv_at hl 0 rfl) ?_
    refine g_get (pc := 51) (v := .int (t3 4 0)) C h.1 0 (hW_c0 _ _ _) fl_X1_29 rfl dX1_add_51 ?_
    refine lv_iload (pc := 54) hx hb dX1_add_54 (lv_at hl 4 rfl) ?_
    obtain ⟨t4, et4, hf⟩ := ltS hf
    refine call_rset (pc := 56) (rest := []) (ws' := (hW q cA t4)) C h (by decide) (by decide) (hW_c4 _ _ _) (hW_c8 _ _ _) ((hW_w8 _ _ _ _).trans (congrArg (hW q cA) et4.symm)) cw_X1_33 hl.1 (Nat.le_of_ble_eq_true rfl) dX1_add_56 ⟨Nat.le_of_ble_eq_true rfl, Nat.le_of_ble_eq_true rfl⟩ rfl rfl ⟨Nat.le_of_ble_eq_true rfl, Nat.le_of_ble_eq_true rfl⟩ (fun H locs h => ?_)
    refine lv_aload_n (pc := 59) hx hb dX1_add_59 rfl (lv_at hl 0 rfl) ?_
    refine lv_dup (pc := 60) hx hb dX1_add_60 rfl ?_
    refine g_get (pc := 61) (v := .int (t4 4 0)) C h.1 0 (hW_c0 _ _ _) fl_X1_29 rfl dX1_add_61 ?_
    refine lv_iconst (pc := 64) (v := 1) hx hb dX1_add_64 (by decide) ?_
    refine lv_iadd (pc := 65) hx hb dX1_add_65 ?_
    obtain ⟨t5, et5, hf⟩ := ltS hf
    refine g_puti (pc := 66) (v := ((t4 4 0) + (1 : Int32))) (ws' := (hW q cA t5)) C h 0 (hW_c0 _ _ _) fp_X1_29 (Nat.le_of_ble_eq_true rfl) ((hW_w0_4 _ _ _ _).trans (congrArg (hW q cA) et5.symm)) dX1_add_66 (fun H locs h => ?_)
    have hf : t5 = z := hf
    subst hf
    exact ret_vU (pc := 69) C hr h dX1_add_69
  · have hf := ifF c9 hf
    have hf : σ = z := hf
    subst hf
    exact ret_vU (pc := 9) C hr h dX1_add_9
abbrev rm_X1_sealBehind : Room := { frames := 1, cells := 0, slots := 0, locals := 21 }
def f_X1_sealBehind_4 : Nat → (Nat → Nat → Int32) → Int32 → Int32 → Int32 → Option (Int32 × Int32)
  | 0, _, _, _, _ => none
  | n + 1, σ, x1, x2, x3 => (if x1 ≤ x3 then some (x2, x3) else (f_X1_sealBehind_4 n σ x1 (((((((31 : Int32) * x2) + ((7 : Int32) * (rg 49 (σ 0) x3))) + ((11 : Int32) * ((rg 49 (σ 1) x3) + (1 : Int32)))) + ((13 : Int32) * ((rg 49 (σ 2) x3) + (1 : Int32)))) + ((17 : Int32) * (rg 49 (σ 3) x3))) - ((((((31 : Int32) * x2) + ((7 : Int32) * (rg 49 (σ 0) x3))) + ((11 : Int32) * ((rg 49 (σ 1) x3) + (1 : Int32)))) + ((13 : Int32) * ((rg 49 (σ 2) x3) + (1 : Int32)))) + ((17 : Int32) * (rg 49 (σ 3) x3))) / (65521 : Int32) * (65521 : Int32)) (x3 + (1 : Int32))))
def f_X1_sealBehind (σ : Nat → Nat → Int32) (x1 : Int32) : Option (Int32) := ((f_X1_sealBehind_4 FU σ x1 (1 : Int32) (0 : Int32)).bind fun z1 => (some z1.1))
set_option maxHeartbeats 400000 in
set_option maxRecDepth 100000 in
theorem l_X1_sealBehind_4 (C : Cx p s m args meth c cX1_sealBehind 4 RX1 D cA) : ∀ (n : Nat) (σ : Nat → Nat → Int32) (x1 x2 x3 : Int32) (z : Int32 × Int32), f_X1_sealBehind_4 n σ x1 x2 x3 = some z → ∀ (H : Heap) (locs : List Loc) (ls : Array Slot), SR D s.heap (hW q cA σ) H locs → lv_has ls 4 [(0, .ref (q 0)), (1, .int x1), (2, .int x2), (3, .int x3)] → (∀ (H : Heap) (locs : List Loc) (ls : Array Slot), SR D s.heap (hW q cA σ) H locs → lv_has ls 4 [(0, .ref (q 0)), (1, .int x1), (2, .int z.1), (3, .int z.2)] → W p l e rm_X1_sealBehind s m args below meth c H locs 0 0 Q (F0 m 77 ls [])) → W p l e rm_X1_sealBehind s m args below meth c H locs 0 0 Q (F0 m 4 ls []) := by
  obtain ⟨hx, hb, hml, hown, hts, hK, hlk⟩ := id C
  intro n
  induction n with
  | zero => intro σ x1 x2 x3 z hf; rw [f_X1_sealBehind_4] at hf; cases hf
  | succ n ih =>
    intro σ x1 x2 x3 z hf H locs ls h hl kk
    rw [f_X1_sealBehind_4] at hf
    refine lv_iload_n (pc := 4) hx hb dX1_sealBehind_4 rfl (lv_at hl 3 rfl) ?_
    refine lv_iload_n (pc := 5) hx hb dX1_sealBehind_5 rfl (lv_at hl 1 rfl) ?_
    refine lv_icmp_ge (pc := 6) (tgt := 77) hx hb dX1_sealBehind_6 (by decide) (fun c9 => ?_) (fun c9 => ?_)
    · have hf := ifT c9 hf
      have hf : some (x2, x3) = some z := hf
      cases hf
      exact kk _ _ _ h (lv_sub hl [0, 1, 2, 3] rfl)
    · have hf := ifF c9 hf
      refine lv_bipush (pc := 9) (v := 31) hx hb dX1_sealBehind_9 (by decide) ?_
      refine lv_iload_n (pc := 11) hx hb dX1_sealBehind_11 rfl (lv_at hl 2 rfl) ?_
      refine lv_imul (pc := 12) hx hb dX1_sealBehind_12 ?_
      refine lv_bipush (pc := 13) (v := 7) hx hb dX1_sealBehind_13 (by decide) ?_
      refine lv_aload_n (pc := 15) hx hb dX1_sealBehind_15 rfl (lv_at hl 0 rfl) ?_
      refine g_get (pc := 16) (v := .ref (q 1)) C h.1 0 (hW_c0 _ _ _) fl_X1_14 rfl dX1_sealBehind_16 ?_
      refine lv_iload_n (pc := 19) hx hb dX1_sealBehind_19 rfl (lv_at hl 3 rfl) ?_
      refine call_rgetR (pc := 20) (rest := [.int (7 : Int32), .int ((31 : Int32) * x2)]) C h (by decide) (by decide) (hW_c1 _ _ _) (hW_c5 _ _ _) cw_X1_37 hl.1 (Nat.le_of_ble_eq_true rfl) dX1_sealBehind_20 ⟨Nat.le_of_ble_eq_true rfl, Nat.le_of_ble_eq_true rfl⟩ rfl rfl ⟨Nat.le_of_ble_eq_true rfl, Nat.le_of_ble_eq_true rfl⟩ (fun H locs h => ?_)
      refine lv_imul (pc := 23) hx hb dX1_sealBehind_23 ?_
      refine lv_iadd (pc := 24) hx hb dX1_sealBehind_24 ?_
      refine lv_bipush (pc := 25) (v := 11) hx hb dX1_sealBehind_25 (by decide) ?_
      refine lv_aload_n (pc := 27) hx hb dX1_sealBehind_27 rfl (lv_at hl 0 rfl) ?_
      refine g_get (pc := 28) (v := .ref (q 2)) C h.1 0 (hW_c0 _ _ _) fl_X1_20 rfl dX1_sealBehind_28 ?_
      refine lv_iload_n (pc := 31) hx hb dX1_sealBehind_31 rfl (lv_at hl 3 rfl) ?_
      refine call_rgetR (pc := 32) (rest := [.int (11 : Int32), .int (((31 : Int32) * x2) + ((7 : Int32) * (rg 49 (σ 0) x3)))]) C h (by decide) (by decide) (hW_c2 _ _ _) (hW_c6 _ _ _) cw_X1_37 hl.1 (Nat.le_of_ble_eq_true rfl) dX1_sealBehind_32 ⟨Nat.le_of_ble_eq_true rfl, Nat.le_of_ble_eq_true rfl⟩ rfl rfl ⟨Nat.le_of_ble_eq_true rfl, Nat.le_of_ble_eq_true rfl⟩ (fun H locs h => ?_)
      refine lv_iconst (pc := 35) (v := 1) hx hb dX1_sealBehind_35 (by decide) ?_
      refine lv_iadd (pc := 36) hx hb dX1_sealBehind_36 ?_
      refine lv_imul (pc := 37) hx hb dX1_sealBehind_37 ?_
      refine lv_iadd (pc := 38) hx hb dX1_sealBehind_38 ?_
      refine lv_bipush (pc := 39) (v := 13) hx hb dX1_sealBehind_39 (by decide) ?_
      refine lv_aload_n (pc := 41) hx hb dX1_sealBehind_41 rfl (lv_at hl 0 rfl) ?_
      refine g_get (pc := 42) (v := .ref (q 3)) C h.1 0 (hW_c0 _ _ _) fl_X1_23 rfl dX1_sealBehind_42 ?_
      refine lv_iload_n (pc := 45) hx hb dX1_sealBehind_45 rfl (lv_at hl 3 rfl) ?_
      refine call_rgetR (pc := 46) (rest := [.int (13 : Int32), .int ((((31 : Int32) * x2) + ((7 : Int32) * (rg 49 (σ 0) x3))) + ((11 : Int32) * ((rg 49 (σ 1) x3) + (1 : Int32))))]) C h (by decide) (by decide) (hW_c3 _ _ _) (hW_c7 _ _ _) cw_X1_37 hl.1 (Nat.le_of_ble_eq_true rfl) dX1_sealBehind_46 ⟨Nat.le_of_ble_eq_true rfl, Nat.le_of_ble_eq_true rfl⟩ rfl rfl ⟨Nat.le_of_ble_eq_true rfl, Nat.le_of_ble_eq_true rfl⟩ (fun H locs h => ?_)
      refine lv_iconst (pc := 49) (v := 1) hx hb dX1_sealBehind_49 (by decide) ?_
      refine lv_iadd (pc := 50) hx hb dX1_sealBehind_50 ?_
      refine lv_imul (pc := 51) hx hb dX1_sealBehind_51 ?_
      refine lv_iadd (pc := 52) hx hb dX1_sealBehind_52 ?_
      refine lv_bipush (pc := 53) (v := 17) hx hb dX1_sealBehind_53 (by decide) ?_
      refine lv_aload_n (pc := 55) hx hb dX1_sealBehind_55 rfl (lv_at hl 0 rfl) ?_
      refine g_get (pc := 56) (v := .ref (q 4)) C h.1 0 (hW_c0 _ _ _) fl_X1_26 rfl dX1_sealBehind_56 ?_
      refine lv_iload_n (pc := 59) hx hb dX1_sealBehind_59 rfl (lv_at hl 3 rfl) ?_
      refine call_rgetR (pc := 60) (rest := [.int (17 : Int32), .int (((((31 : Int32) * x2) + ((7 : Int32) * (rg 49 (σ 0) x3))) + ((11 : Int32) * ((rg 49 (σ 1) x3) + (1 : Int32)))) + ((13 : Int32) * ((rg 49 (σ 2) x3) + (1 : Int32))))]) C h (by decide) (by decide) (hW_c4 _ _ _) (hW_c8 _ _ _) cw_X1_37 hl.1 (Nat.le_of_ble_eq_true rfl) dX1_sealBehind_60 ⟨Nat.le_of_ble_eq_true rfl, Nat.le_of_ble_eq_true rfl⟩ rfl rfl ⟨Nat.le_of_ble_eq_true rfl, Nat.le_of_ble_eq_true rfl⟩ (fun H locs h => ?_)
      refine lv_imul (pc := 63) hx hb dX1_sealBehind_63 ?_
      refine lv_iadd (pc := 64) hx hb dX1_sealBehind_64 ?_
      refine lv_istore_n (pc := 65) (lv' := [(2, .int ((((((31 : Int32) * x2) + ((7 : Int32) * (rg 49 (σ 0) x3))) + ((11 : Int32) * ((rg 49 (σ 1) x3) + (1 : Int32)))) + ((13 : Int32) * ((rg 49 (σ 2) x3) + (1 : Int32)))) + ((17 : Int32) * (rg 49 (σ 3) x3)))), (0, .ref (q 0)), (1, .int x1), (3, .int x3)]) hx hb dX1_sealBehind_65 rfl hl (by decide) rfl (fun ls hl => ?_)
      refine lv_iload_n (pc := 66) hx hb dX1_sealBehind_66 rfl (lv_at hl 0 rfl) ?_
      refine lv_ldc (pc := 67) (v := 65521) hx hb hown (hts _ kc_X1_41) dX1_sealBehind_67 ?_
      refine lv_irem (pc := 69) hx hb dX1_sealBehind_69 (by decide) ?_
      refine lv_istore_n (pc := 70) (lv' := [(2, .int (((((((31 : Int32) * x2) + ((7 : Int32) * (rg 49 (σ 0) x3))) + ((11 : Int32) * ((rg 49 (σ 1) x3) + (1 : Int32)))) + ((13 : Int32) * ((rg 49 (σ 2) x3) + (1 : Int32)))) + ((17 : Int32) * (rg 49 (σ 3) x3))) - ((((((31 : Int32) * x2) + ((7 : Int32) * (rg 49 (σ 0) x3))) + ((11 : Int32) * ((rg 49 (σ 1) x3) + (1 : Int32)))) + ((13 : Int32) * ((rg 49 (σ 2) x3) + (1 : Int32)))) + ((17 : Int32) * (rg 49 (σ 3) x3))) / (65521 : Int32) * (65521 : Int32))), (0, .ref (q 0)), (1, .int x1), (3, .int x3)]) hx hb dX1_sealBehind_70 rfl hl (by decide) rfl (fun ls hl => ?_)
      refine lv_iinc (pc := 71) (v := (x3 + (1 : Int32))) (lv' := [(3, .int (x3 + (1 : Int32))), (2, .int (((((((31 : Int32) * x2) + ((7 : Int32) * (rg 49 (σ 0) x3))) + ((11 : Int32) * ((rg 49 (σ 1) x3) + (1 : Int32)))) + ((13 : Int32) * ((rg 49 (σ 2) x3) + (1 : Int32)))) + ((17 : Int32) * (rg 49 (σ 3) x3))) - ((((((31 : Int32) * x2) + ((7 : Int32) * (rg 49 (σ 0) x3))) + ((11 : Int32) * ((rg 49 (σ 1) x3) + (1 : Int32)))) + ((13 : Int32) * ((rg 49 (σ 2) x3) + (1 : Int32)))) + ((17 : Int32) * (rg 49 (σ 3) x3))) / (65521 : Int32) * (65521 : Int32))), (0, .ref (q 0)), (1, .int x1)]) hx hb dX1_sealBehind_71 hl (k := 3) rfl rfl (by decide) rfl (fun ls hl => ?_)
      refine lv_goto (pc := 74) (tgt := 4) hx hb dX1_sealBehind_74 (by decide) ?_
      exact ih _ _ _ _ _ hf _ _ _ h (lv_sub hl [2, 3, 1, 0] rfl) kk
set_option maxHeartbeats 400000 in
set_option maxRecDepth 100000 in
theorem k_X1_sealBehind {q : Nat → Nat} {cA : Nat → ClassId} {D : va_G} (σ : Nat → Nat → Int32) (x1 : Int32) {z : Int32} (hf : f_X1_sealBehind σ x1 = some z) : CtR yX1_sealBehind cX1_sealBehind 4 (some .int) rm_X1_sealBehind [.ref (q 0), .int x1] D cA (hW q cA σ) (some (.int z)) 0 0 := by
  refine ctR_of (by decide) (Nat.le_of_ble_eq_true rfl) ?_
  intro p l e s m below meth c ls C hr hnm h hl
  have C : Cx p s m _ meth c cX1_sealBehind 4 RX1 D cA := C
  obtain ⟨hx, hb, hml, hown, hts, hK, hlk⟩ := id C
  replace hl : lv_has ls 4 [(0, .ref (q 0)), (1, .int x1)] := hl
  rw [f_X1_sealBehind] at hf
  refine lv_iconst (pc := 0) (v := 1) hx hb dX1_sealBehind_0 (by decide) ?_
  refine lv_istore_n (pc := 1) (lv' := [(2, .int (1 : Int32)), (0, .ref (q 0)), (1, .int x1)]) hx hb dX1_sealBehind_1 rfl hl (by decide) rfl (fun ls hl => ?_)
  refine lv_iconst (pc := 2) (v := 0) hx hb dX1_sealBehind_2 (by decide) ?_
  refine lv_istore_n (pc := 3) (lv' := [(3, .int (0 : Int32)), (2, .int (1 : Int32)), (0, .ref (q 0)), (1, .int x1)]) hx hb dX1_sealBehind_3 rfl hl (by decide) rfl (fun ls hl => ?_)
  obtain ⟨z1, hc1, hf⟩ := bdS hf
  refine l_X1_sealBehind_4 C _ _ _ _ _ _ hc1 _ _ _ h (lv_sub hl [2, 3, 1, 0] rfl) (fun H locs ls h hl => ?_)
  refine lv_iload_n (pc := 77) hx hb dX1_sealBehind_77 rfl (lv_at hl 2 rfl) ?_
  have hf : (some z1.1) = some z := hf
  cases hf
  exact ret_iR (pc := 78) C hr h dX1_sealBehind_78
abbrev rm_X1_isSigning : Room := { frames := 0, cells := 0, slots := 0, locals := 0 }
def f_X1_isSigning (x0 : Int32) : Int32 := (if x0 = (1 : Int32) then (1 : Int32) else (if x0 = (2 : Int32) then (1 : Int32) else (0 : Int32)))
set_option maxHeartbeats 400000 in
set_option maxRecDepth 100000 in
theorem k_X1_isSigning {cA : Nat → ClassId} {D : va_G} (x0 : Int32) {z : Int32} (hf : f_X1_isSigning x0 = z) : CtR yX1_isSigning cX1_isSigning 1 (some .boolean) rm_X1_isSigning [.int x0] D cA [] (some (.int z)) 0 0 := by
  refine ctR_of (by decide) (Nat.le_of_ble_eq_true rfl) ?_
  intro p l e s m below meth c ls C hr hnm h hl
  have C : Cx p s m _ meth c cX1_isSigning 1 RX1 D cA := C
  obtain ⟨hx, hb, hml, hown, hts, hK, hlk⟩ := id C
  replace hl : lv_has ls 1 [(0, .int x0)] := hl
  rw [f_X1_isSigning] at hf
  refine lv_iload_n (pc := 0) hx hb dX1_isSigning_0 rfl (lv_at hl 0 rfl) ?_
  refine lv_iconst (pc := 1) (v := 1) hx hb dX1_isSigning_1 (by decide) ?_
  refine lv_icmp_eq (pc := 2) (tgt := 10) hx hb dX1_isSigning_2 (by decide) (fun c9 => ?_) (fun c9 => ?_)
  · have hf := ifT c9 hf
    refine lv_iconst (pc := 10) (v := 1) hx hb dX1_isSigning_10 (by decide) ?_
    refine lv_goto (pc := 11) (tgt := 15) hx hb dX1_isSigning_11 (by decide) ?_
    have hf : (1 : Int32) = z := hf
    subst hf
    exact ret_zR (pc := 15) C hr nb1 h dX1_isSigning_15
  · have hf := ifF c9 hf
    refine lv_iload_n (pc := 5) hx hb dX1_isSigning_5 rfl (lv_at hl 0 rfl) ?_
    refine lv_iconst (pc := 6) (v := 2) hx hb dX1_isSigning_6 (by decide) ?_
    refine lv_icmp_ne (pc := 7) (tgt := 14) hx hb dX1_isSigning_7 (by decide) (fun c9 => ?_) (fun c9 => ?_)
    · have hf := ifF c9 hf
      refine lv_iconst (pc := 14) (v := 0) hx hb dX1_isSigning_14 (by decide) ?_
      have hf : (0 : Int32) = z := hf
      subst hf
      exact ret_zR (pc := 15) C hr nb0 h dX1_isSigning_15
    · have hf := ifT c9 hf
      refine lv_iconst (pc := 10) (v := 1) hx hb dX1_isSigning_10 (by decide) ?_
      refine lv_goto (pc := 11) (tgt := 15) hx hb dX1_isSigning_11 (by decide) ?_
      have hf : (1 : Int32) = z := hf
      subst hf
      exact ret_zR (pc := 15) C hr nb1 h dX1_isSigning_15
theorem nb_X1_isSigning {x0 : Int32} {z : Int32} (hf : f_X1_isSigning x0 = z) : narrow .boolean (.int z) = .int z := by
  rw [f_X1_isSigning] at hf
  by_cases c9 : x0 = (1 : Int32)
  · have hf := ifT c9 hf
    have hf : ((1 : Int32)) = z := hf
    subst hf
    exact nb1
  · have hf := ifF c9 hf
    by_cases c9 : x0 = (2 : Int32)
    · have hf := ifT c9 hf
      have hf : ((1 : Int32)) = z := hf
      subst hf
      exact nb1
    · have hf := ifF c9 hf
      have hf : ((0 : Int32)) = z := hf
      subst hf
      exact nb0
abbrev rm_X1_signedAfter : Room := { frames := 1, cells := 0, slots := 0, locals := 21 }
def f_X1_signedAfter_4 : Nat → (Nat → Nat → Int32) → Int32 → Int32 → Int32 → Option (Int32 × Int32)
  | 0, _, _, _, _ => none
  | n + 1, σ, x1, x2, x3 => (if x1 ≤ x3 then some (x2, x3) else (if (f_X1_isSigning (rg 49 (σ 0) x3)) = 0 then (f_X1_signedAfter_4 n σ x1 x2 (x3 + (1 : Int32))) else (f_X1_signedAfter_4 n σ x1 (x2 ||| ((1 : Int32) <<< ((rg 49 (σ 2) x3) &&& 31))) (x3 + (1 : Int32)))))
def f_X1_signedAfter (σ : Nat → Nat → Int32) (x1 : Int32) : Option (Int32) := ((f_X1_signedAfter_4 FU σ x1 (0 : Int32) (0 : Int32)).bind fun z1 => (some z1.1))
set_option maxHeartbeats 400000 in
set_option maxRecDepth 100000 in
theorem l_X1_signedAfter_4 (C : Cx p s m args meth c cX1_signedAfter 4 RX1 D cA) : ∀ (n : Nat) (σ : Nat → Nat → Int32) (x1 x2 x3 : Int32) (z : Int32 × Int32), f_X1_signedAfter_4 n σ x1 x2 x3 = some z → ∀ (H : Heap) (locs : List Loc) (ls : Array Slot), SR D s.heap (hW q cA σ) H locs → lv_has ls 4 [(0, .ref (q 0)), (1, .int x1), (2, .int x2), (3, .int x3)] → (∀ (H : Heap) (locs : List Loc) (ls : Array Slot), SR D s.heap (hW q cA σ) H locs → lv_has ls 4 [(0, .ref (q 0)), (1, .int x1), (2, .int z.1), (3, .int z.2)] → W p l e rm_X1_signedAfter s m args below meth c H locs 0 0 Q (F0 m 42 ls [])) → W p l e rm_X1_signedAfter s m args below meth c H locs 0 0 Q (F0 m 4 ls []) := by
  obtain ⟨hx, hb, hml, hown, hts, hK, hlk⟩ := id C
  intro n
  induction n with
  | zero => intro σ x1 x2 x3 z hf; rw [f_X1_signedAfter_4] at hf; cases hf
  | succ n ih =>
    intro σ x1 x2 x3 z hf H locs ls h hl kk
    rw [f_X1_signedAfter_4] at hf
    refine lv_iload_n (pc := 4) hx hb dX1_signedAfter_4 rfl (lv_at hl 3 rfl) ?_
    refine lv_iload_n (pc := 5) hx hb dX1_signedAfter_5 rfl (lv_at hl 1 rfl) ?_
    refine lv_icmp_ge (pc := 6) (tgt := 42) hx hb dX1_signedAfter_6 (by decide) (fun c9 => ?_) (fun c9 => ?_)
    · have hf := ifT c9 hf
      have hf : some (x2, x3) = some z := hf
      cases hf
      exact kk _ _ _ h (lv_sub hl [0, 1, 2, 3] rfl)
    · have hf := ifF c9 hf
      refine lv_aload_n (pc := 9) hx hb dX1_signedAfter_9 rfl (lv_at hl 0 rfl) ?_
      refine g_get (pc := 10) (v := .ref (q 1)) C h.1 0 (hW_c0 _ _ _) fl_X1_14 rfl dX1_signedAfter_10 ?_
      refine lv_iload_n (pc := 13) hx hb dX1_signedAfter_13 rfl (lv_at hl 3 rfl) ?_
      refine call_rgetR (pc := 14) (rest := []) C h (by decide) (by decide) (hW_c1 _ _ _) (hW_c5 _ _ _) cw_X1_37 hl.1 (Nat.le_of_ble_eq_true rfl) dX1_signedAfter_14 ⟨Nat.le_of_ble_eq_true rfl, Nat.le_of_ble_eq_true rfl⟩ rfl rfl ⟨Nat.le_of_ble_eq_true rfl, Nat.le_of_ble_eq_true rfl⟩ (fun H locs h => ?_)
      refine call_SRR (pc := 17) (As := [.int (rg 49 (σ 0) x3)]) (rest := []) (wc := []) C h (k_X1_isSigning (rg 49 (σ 0) x3) rfl) cw_X1_42 [] rfl rfl rfl rfl hl.1 (Nat.le_of_ble_eq_true rfl) dX1_signedAfter_17 ⟨Nat.le_of_ble_eq_true rfl, Nat.le_of_ble_eq_true rfl⟩ rfl rfl ⟨Nat.le_of_ble_eq_true rfl, Nat.le_of_ble_eq_true rfl⟩ (fun H locs h => ?_)
      refine W.eq (g2 := F0 m 20 ls [.int (f_X1_isSigning (rg 49 (σ 0) x3))]) rfl ?_
      refine lv_if_eq (pc := 20) (tgt := 36) hx hb dX1_signedAfter_20 (by decide) (fun c9 => ?_) (fun c9 => ?_)
      · have hf := ifT c9 hf
        refine lv_iinc (pc := 36) (v := (x3 + (1 : Int32))) (lv' := [(3, .int (x3 + (1 : Int32))), (0, .ref (q 0)), (1, .int x1), (2, .int x2)]) hx hb dX1_signedAfter_36 hl (k := 3) rfl rfl (by decide) rfl (fun ls hl => ?_)
        refine lv_goto (pc := 39) (tgt := 4) hx hb dX1_signedAfter_39 (by decide) ?_
        exact ih _ _ _ _ _ hf _ _ _ h (lv_sub hl [1, 2, 3, 0] rfl) kk
      · have hf := ifF c9 hf
        refine lv_iload_n (pc := 23) hx hb dX1_signedAfter_23 rfl (lv_at hl 2 rfl) ?_
        refine lv_iconst (pc := 24) (v := 1) hx hb dX1_signedAfter_24 (by decide) ?_
        refine lv_aload_n (pc := 25) hx hb dX1_signedAfter_25 rfl (lv_at hl 0 rfl) ?_
        refine g_get (pc := 26) (v := .ref (q 3)) C h.1 0 (hW_c0 _ _ _) fl_X1_23 rfl dX1_signedAfter_26 ?_
        refine lv_iload_n (pc := 29) hx hb dX1_signedAfter_29 rfl (lv_at hl 3 rfl) ?_
        refine call_rgetR (pc := 30) (rest := [.int (1 : Int32), .int x2]) C h (by decide) (by decide) (hW_c3 _ _ _) (hW_c7 _ _ _) cw_X1_37 hl.1 (Nat.le_of_ble_eq_true rfl) dX1_signedAfter_30 ⟨Nat.le_of_ble_eq_true rfl, Nat.le_of_ble_eq_true rfl⟩ rfl rfl ⟨Nat.le_of_ble_eq_true rfl, Nat.le_of_ble_eq_true rfl⟩ (fun H locs h => ?_)
        refine lv_ishl (pc := 33) hx hb dX1_signedAfter_33 ?_
        refine lv_ior (pc := 34) hx hb dX1_signedAfter_34 ?_
        refine lv_istore_n (pc := 35) (lv' := [(2, .int (x2 ||| ((1 : Int32) <<< ((rg 49 (σ 2) x3) &&& 31)))), (0, .ref (q 0)), (1, .int x1), (3, .int x3)]) hx hb dX1_signedAfter_35 rfl hl (by decide) rfl (fun ls hl => ?_)
        refine lv_iinc (pc := 36) (v := (x3 + (1 : Int32))) (lv' := [(3, .int (x3 + (1 : Int32))), (2, .int (x2 ||| ((1 : Int32) <<< ((rg 49 (σ 2) x3) &&& 31)))), (0, .ref (q 0)), (1, .int x1)]) hx hb dX1_signedAfter_36 hl (k := 3) rfl rfl (by decide) rfl (fun ls hl => ?_)
        refine lv_goto (pc := 39) (tgt := 4) hx hb dX1_signedAfter_39 (by decide) ?_
        exact ih _ _ _ _ _ hf _ _ _ h (lv_sub hl [2, 3, 1, 0] rfl) kk
set_option maxHeartbeats 400000 in
set_option maxRecDepth 100000 in
theorem k_X1_signedAfter {q : Nat → Nat} {cA : Nat → ClassId} {D : va_G} (σ : Nat → Nat → Int32) (x1 : Int32) {z : Int32} (hf : f_X1_signedAfter σ x1 = some z) : CtR yX1_signedAfter cX1_signedAfter 4 (some .int) rm_X1_signedAfter [.ref (q 0), .int x1] D cA (hW q cA σ) (some (.int z)) 0 0 := by
  refine ctR_of (by decide) (Nat.le_of_ble_eq_true rfl) ?_
  intro p l e s m below meth c ls C hr hnm h hl
  have C : Cx p s m _ meth c cX1_signedAfter 4 RX1 D cA := C
  obtain ⟨hx, hb, hml, hown, hts, hK, hlk⟩ := id C
  replace hl : lv_has ls 4 [(0, .ref (q 0)), (1, .int x1)] := hl
  rw [f_X1_signedAfter] at hf
  refine lv_iconst (pc := 0) (v := 0) hx hb dX1_signedAfter_0 (by decide) ?_
  refine lv_istore_n (pc := 1) (lv' := [(2, .int (0 : Int32)), (0, .ref (q 0)), (1, .int x1)]) hx hb dX1_signedAfter_1 rfl hl (by decide) rfl (fun ls hl => ?_)
  refine lv_iconst (pc := 2) (v := 0) hx hb dX1_signedAfter_2 (by decide) ?_
  refine lv_istore_n (pc := 3) (lv' := [(3, .int (0 : Int32)), (2, .int (0 : Int32)), (0, .ref (q 0)), (1, .int x1)]) hx hb dX1_signedAfter_3 rfl hl (by decide) rfl (fun ls hl => ?_)
  obtain ⟨z1, hc1, hf⟩ := bdS hf
  refine l_X1_signedAfter_4 C _ _ _ _ _ _ hc1 _ _ _ h (lv_sub hl [2, 3, 1, 0] rfl) (fun H locs ls h hl => ?_)
  refine lv_iload_n (pc := 42) hx hb dX1_signedAfter_42 rfl (lv_at hl 2 rfl) ?_
  have hf : (some z1.1) = some z := hf
  cases hf
  exact ret_iR (pc := 43) C hr h dX1_signedAfter_43
abbrev rm_X1_stateWith : Room := { frames := 0, cells := 0, slots := 0, locals := 0 }
def f_X1_stateWith (x0 x1 x2 : Int32) : Int32 := (if x0 = (0 : Int32) then (1 : Int32) else (if x0 = (1 : Int32) then (if x2 = 0 then x1 else (2 : Int32)) else (if x0 = (2 : Int32) then (if x2 = 0 then x1 else (2 : Int32)) else (if x0 = (3 : Int32) then (3 : Int32) else (if x0 = (4 : Int32) then (4 : Int32) else (if x0 = (5 : Int32) then (5 : Int32) else x1))))))
set_option maxHeartbeats 400000 in
set_option maxRecDepth 100000 in
theorem k_X1_stateWith {cA : Nat → ClassId} {D : va_G} (x0 x1 x2 : Int32) {z : Int32} (hf : f_X1_stateWith x0 x1 x2 = z) : CtR yX1_stateWith cX1_stateWith 3 (some .int) rm_X1_stateWith [.int x0, .int x1, .int x2] D cA [] (some (.int z)) 0 0 := by
  refine ctR_of (by decide) (Nat.le_of_ble_eq_true rfl) ?_
  intro p l e s m below meth c ls C hr hnm h hl
  have C : Cx p s m _ meth c cX1_stateWith 3 RX1 D cA := C
  obtain ⟨hx, hb, hml, hown, hts, hK, hlk⟩ := id C
  replace hl : lv_has ls 3 [(0, .int x0), (1, .int x1), (2, .int x2)] := hl
  rw [f_X1_stateWith] at hf
  refine lv_iload_n (pc := 0) hx hb dX1_stateWith_0 rfl (lv_at hl 0 rfl) ?_
  by_cases c9_0 : x0 = (0 : Int32)
  · have hf := ifT c9_0 hf
    refine lv_tableIn (pc := 1) (tgt := 40) (off := 39) hx hb dX1_stateWith_1 (by rw [c9_0]; decide) (by rw [c9_0]; decide) (by rw [c9_0]; rfl) (by decide) ?_
    refine lv_iconst (pc := 40) (v := 1) hx hb dX1_stateWith_40 (by decide) ?_
    have hf : (1 : Int32) = z := hf
    subst hf
    exact ret_iR (pc := 41) C hr h dX1_stateWith_41
  · have hf := ifF c9_0 hf
    by_cases c9_1 : x0 = (1 : Int32)
    · have hf := ifT c9_1 hf
      refine lv_tableIn (pc := 1) (tgt := 42) (off := 41) hx hb dX1_stateWith_1 (by rw [c9_1]; decide) (by rw [c9_1]; decide) (by rw [c9_1]; rfl) (by decide) ?_
      refine lv_iload_n (pc := 42) hx hb dX1_stateWith_42 rfl (lv_at hl 2 rfl) ?_
      refine lv_if_eq (pc := 43) (tgt := 50) hx hb dX1_stateWith_43 (by decide) (fun c9 => ?_) (fun c9 => ?_)
      · have hf := ifT c9 hf
        refine lv_iload_n (pc := 50) hx hb dX1_stateWith_50 rfl (lv_at hl 1 rfl) ?_
        have hf : x1 = z := hf
        subst hf
        exact ret_iR (pc := 51) C hr h dX1_stateWith_51
      · have hf := ifF c9 hf
        refine lv_iconst (pc := 46) (v := 2) hx hb dX1_stateWith_46 (by decide) ?_
        refine lv_goto (pc := 47) (tgt := 51) hx hb dX1_stateWith_47 (by decide) ?_
        have hf : (2 : Int32) = z := hf
        subst hf
        exact ret_iR (pc := 51) C hr h dX1_stateWith_51
    · have hf := ifF c9_1 hf
      by_cases c9_2 : x0 = (2 : Int32)
      · have hf := ifT c9_2 hf
        refine lv_tableIn (pc := 1) (tgt := 42) (off := 41) hx hb dX1_stateWith_1 (by rw [c9_2]; decide) (by rw [c9_2]; decide) (by rw [c9_2]; rfl) (by decide) ?_
        refine lv_iload_n (pc := 42) hx hb dX1_stateWith_42 rfl (lv_at hl 2 rfl) ?_
        refine lv_if_eq (pc := 43) (tgt := 50) hx hb dX1_stateWith_43 (by decide) (fun c9 => ?_) (fun c9 => ?_)
        · have hf := ifT c9 hf
          refine lv_iload_n (pc := 50) hx hb dX1_stateWith_50 rfl (lv_at hl 1 rfl) ?_
          have hf : x1 = z := hf
          subst hf
          exact ret_iR (pc := 51) C hr h dX1_stateWith_51
        · have hf := ifF c9 hf
          refine lv_iconst (pc := 46) (v := 2) hx hb dX1_stateWith_46 (by decide) ?_
          refine lv_goto (pc := 47) (tgt := 51) hx hb dX1_stateWith_47 (by decide) ?_
          have hf : (2 : Int32) = z := hf
          subst hf
          exact ret_iR (pc := 51) C hr h dX1_stateWith_51
      · have hf := ifF c9_2 hf
        by_cases c9_3 : x0 = (3 : Int32)
        · have hf := ifT c9_3 hf
          refine lv_tableIn (pc := 1) (tgt := 52) (off := 51) hx hb dX1_stateWith_1 (by rw [c9_3]; decide) (by rw [c9_3]; decide) (by rw [c9_3]; rfl) (by decide) ?_
          refine lv_iconst (pc := 52) (v := 3) hx hb dX1_stateWith_52 (by decide) ?_
          have hf : (3 : Int32) = z := hf
          subst hf
          exact ret_iR (pc := 53) C hr h dX1_stateWith_53
        · have hf := ifF c9_3 hf
          by_cases c9_4 : x0 = (4 : Int32)
          · have hf := ifT c9_4 hf
            refine lv_tableIn (pc := 1) (tgt := 54) (off := 53) hx hb dX1_stateWith_1 (by rw [c9_4]; decide) (by rw [c9_4]; decide) (by rw [c9_4]; rfl) (by decide) ?_
            refine lv_iconst (pc := 54) (v := 4) hx hb dX1_stateWith_54 (by decide) ?_
            have hf : (4 : Int32) = z := hf
            subst hf
            exact ret_iR (pc := 55) C hr h dX1_stateWith_55
          · have hf := ifF c9_4 hf
            by_cases c9_5 : x0 = (5 : Int32)
            · have hf := ifT c9_5 hf
              refine lv_tableIn (pc := 1) (tgt := 56) (off := 55) hx hb dX1_stateWith_1 (by rw [c9_5]; decide) (by rw [c9_5]; decide) (by rw [c9_5]; rfl) (by decide) ?_
              refine lv_iconst (pc := 56) (v := 5) hx hb dX1_stateWith_56 (by decide) ?_
              have hf : (5 : Int32) = z := hf
              subst hf
              exact ret_iR (pc := 57) C hr h dX1_stateWith_57
            · have hf := ifF c9_5 hf
              have ho := sw_out (x := x0) (n := 6) (by decide) (fun k hk => by
                have hk9 : k = 0 ∨ k = 1 ∨ k = 2 ∨ k = 3 ∨ k = 4 ∨ k = 5 := by omega
                rcases hk9 with rfl | rfl | rfl | rfl | rfl | rfl
                · exact c9_0
                · exact c9_1
                · exact c9_2
                · exact c9_3
                · exact c9_4
                · exact c9_5
                )
              refine lv_tableOut (pc := 1) (tgt := 58) hx hb dX1_stateWith_1 (by omega) (by decide) ?_
              refine lv_iload_n (pc := 58) hx hb dX1_stateWith_58 rfl (lv_at hl 1 rfl) ?_
              have hf : x1 = z := hf
              subst hf
              exact ret_iR (pc := 59) C hr h dX1_stateWith_59
abbrev rm_X1_stateAfter : Room := { frames := 1, cells := 0, slots := 0, locals := 22 }
def f_X1_stateAfter_8 : Nat → (Nat → Nat → Int32) → Int32 → Int32 → Int32 → Int32 → Int32 → Option (Int32 × Int32 × Int32)
  | 0, _, _, _, _, _, _ => none
  | n + 1, σ, x1, x2, x3, x4, x5 => (if x1 ≤ x5 then some (x3, x4, x5) else (if (f_X1_isSigning (rg 49 (σ 0) x5)) = 0 then (if x4 = x2 then (f_X1_stateAfter_8 n σ x1 x2 (f_X1_stateWith (rg 49 (σ 0) x5) x3 (1 : Int32)) x4 (x5 + (1 : Int32))) else (f_X1_stateAfter_8 n σ x1 x2 (f_X1_stateWith (rg 49 (σ 0) x5) x3 (0 : Int32)) x4 (x5 + (1 : Int32)))) else (if (x4 + (1 : Int32)) = x2 then (f_X1_stateAfter_8 n σ x1 x2 (f_X1_stateWith (rg 49 (σ 0) x5) x3 (1 : Int32)) (x4 + (1 : Int32)) (x5 + (1 : Int32))) else (f_X1_stateAfter_8 n σ x1 x2 (f_X1_stateWith (rg 49 (σ 0) x5) x3 (0 : Int32)) (x4 + (1 : Int32)) (x5 + (1 : Int32))))))
def f_X1_stateAfter (σ : Nat → Nat → Int32) (x1 x2 : Int32) : Option (Int32) := ((f_X1_stateAfter_8 FU σ x1 x2 (0 : Int32) (0 : Int32) (0 : Int32)).bind fun z1 => (some z1.1))
set_option maxHeartbeats 400000 in
set_option maxRecDepth 100000 in
theorem l_X1_stateAfter_8 (C : Cx p s m args meth c cX1_stateAfter 7 RX1 D cA) : ∀ (n : Nat) (σ : Nat → Nat → Int32) (x1 x2 x3 x4 x5 : Int32) (z : Int32 × Int32 × Int32), f_X1_stateAfter_8 n σ x1 x2 x3 x4 x5 = some z → ∀ (H : Heap) (locs : List Loc) (ls : Array Slot), SR D s.heap (hW q cA σ) H locs → lv_has ls 7 [(0, .ref (q 0)), (1, .int x1), (2, .int x2), (3, .int x3), (4, .int x4), (5, .int x5)] → (∀ (H : Heap) (locs : List Loc) (ls : Array Slot), SR D s.heap (hW q cA σ) H locs → lv_has ls 7 [(0, .ref (q 0)), (1, .int x1), (2, .int x2), (3, .int z.1), (4, .int z.2.1), (5, .int z.2.2)] → W p l e rm_X1_stateAfter s m args below meth c H locs 0 0 Q (F0 m 60 ls [])) → W p l e rm_X1_stateAfter s m args below meth c H locs 0 0 Q (F0 m 8 ls []) := by
  obtain ⟨hx, hb, hml, hown, hts, hK, hlk⟩ := id C
  intro n
  induction n with
  | zero => intro σ x1 x2 x3 x4 x5 z hf; rw [f_X1_stateAfter_8] at hf; cases hf
  | succ n ih =>
    intro σ x1 x2 x3 x4 x5 z hf H locs ls h hl kk
    rw [f_X1_stateAfter_8] at hf
    refine lv_iload (pc := 8) hx hb dX1_stateAfter_8 (lv_at hl 5 rfl) ?_
    refine lv_iload_n (pc := 10) hx hb dX1_stateAfter_10 rfl (lv_at hl 1 rfl) ?_
    refine lv_icmp_ge (pc := 11) (tgt := 60) hx hb dX1_stateAfter_11 (by decide) (fun c9 => ?_) (fun c9 => ?_)
    · have hf := ifT c9 hf
      have hf : some (x3, x4, x5) = some z := hf
      cases hf
      exact kk _ _ _ h (lv_sub hl [0, 1, 2, 3, 4, 5] rfl)
    · have hf := ifF c9 hf
      refine lv_aload_n (pc := 14) hx hb dX1_stateAfter_14 rfl (lv_at hl 0 rfl) ?_
      refine g_get (pc := 15) (v := .ref (q 1)) C h.1 0 (hW_c0 _ _ _) fl_X1_14 rfl dX1_stateAfter_15 ?_
      refine lv_iload (pc := 18) hx hb dX1_stateAfter_18 (lv_at hl 5 rfl) ?_
      refine call_rgetR (pc := 20) (rest := []) C h (by decide) (by decide) (hW_c1 _ _ _) (hW_c5 _ _ _) cw_X1_37 hl.1 (Nat.le_of_ble_eq_true rfl) dX1_stateAfter_20 ⟨Nat.le_of_ble_eq_true rfl, Nat.le_of_ble_eq_true rfl⟩ rfl rfl ⟨Nat.le_of_ble_eq_true rfl, Nat.le_of_ble_eq_true rfl⟩ (fun H locs h => ?_)
      refine lv_istore (pc := 23) (lv' := [(6, .int (rg 49 (σ 0) x5)), (0, .ref (q 0)), (1, .int x1), (2, .int x2), (3, .int x3), (4, .int x4), (5, .int x5)]) hx hb dX1_stateAfter_23 hl (by decide) rfl (fun ls hl => ?_)
      refine lv_iload (pc := 25) hx hb dX1_stateAfter_25 (lv_at hl 0 rfl) ?_
      refine call_SRR (pc := 27) (As := [.int (rg 49 (σ 0) x5)]) (rest := []) (wc := []) C h (k_X1_isSigning (rg 49 (σ 0) x5) rfl) cw_X1_42 [] rfl rfl rfl rfl hl.1 (Nat.le_of_ble_eq_true rfl) dX1_stateAfter_27 ⟨Nat.le_of_ble_eq_true rfl, Nat.le_of_ble_eq_true rfl⟩ rfl rfl ⟨Nat.le_of_ble_eq_true rfl, Nat.le_of_ble_eq_true rfl⟩ (fun H locs h => ?_)
      refine W.eq (g2 := F0 m 30 ls [.int (f_X1_isSigning (rg 49 (σ 0) x5))]) rfl ?_
      refine lv_if_eq (pc := 30) (tgt := 36) hx hb dX1_stateAfter_30 (by decide) (fun c9 => ?_) (fun c9 => ?_)
      · have hf := ifT c9 hf
        refine lv_iload (pc := 36) hx hb dX1_stateAfter_36 (lv_at hl 0 rfl) ?_
        refine lv_iload_n (pc := 38) hx hb dX1_stateAfter_38 rfl (lv_at hl 4 rfl) ?_
        refine lv_iload (pc := 39) hx hb dX1_stateAfter_39 (lv_at hl 5 rfl) ?_
        refine lv_iload_n (pc := 41) hx hb dX1_stateAfter_41 rfl (lv_at hl 3 rfl) ?_
        refine lv_icmp_ne (pc := 42) (tgt := 49) hx hb dX1_stateAfter_42 (by decide) (fun c9 => ?_) (fun c9 => ?_)
        · have hf := ifF c9 hf
          refine lv_iconst (pc := 49) (v := 0) hx hb dX1_stateAfter_49 (by decide) ?_
          refine call_SRR (pc := 50) (As := [.int (rg 49 (σ 0) x5), .int x3, .int (0 : Int32)]) (rest := []) (wc := []) C h (k_X1_stateWith (rg 49 (σ 0) x5) x3 (0 : Int32) rfl) cw_X1_46 [] rfl rfl rfl rfl hl.1 (Nat.le_of_ble_eq_true rfl) dX1_stateAfter_50 ⟨Nat.le_of_ble_eq_true rfl, Nat.le_of_ble_eq_true rfl⟩ rfl rfl ⟨Nat.le_of_ble_eq_true rfl, Nat.le_of_ble_eq_true rfl⟩ (fun H locs h => ?_)
          refine W.eq (g2 := F0 m 53 ls [.int (f_X1_stateWith (rg 49 (σ 0) x5) x3 (0 : Int32))]) rfl ?_
          refine lv_istore_n (pc := 53) (lv' := [(3, .int (f_X1_stateWith (rg 49 (σ 0) x5) x3 (0 : Int32))), (6, .int (rg 49 (σ 0) x5)), (0, .ref (q 0)), (1, .int x1), (2, .int x2), (4, .int x4), (5, .int x5)]) hx hb dX1_stateAfter_53 rfl hl (by decide) rfl (fun ls hl => ?_)
          refine lv_iinc (pc := 54) (v := (x5 + (1 : Int32))) (lv' := [(5, .int (x5 + (1 : Int32))), (3, .int (f_X1_stateWith (rg 49 (σ 0) x5) x3 (0 : Int32))), (6, .int (rg 49 (σ 0) x5)), (0, .ref (q 0)), (1, .int x1), (2, .int x2), (4, .int x4)]) hx hb dX1_stateAfter_54 hl (k := 6) rfl rfl (by decide) rfl (fun ls hl => ?_)
          refine lv_goto (pc := 57) (tgt := 8) hx hb dX1_stateAfter_57 (by decide) ?_
          exact ih _ _ _ _ _ _ _ hf _ _ _ h (lv_sub hl [3, 4, 5, 1, 6, 0] rfl) kk
        · have hf := ifT c9 hf
          refine lv_iconst (pc := 45) (v := 1) hx hb dX1_stateAfter_45 (by decide) ?_
          refine lv_goto (pc := 46) (tgt := 50) hx hb dX1_stateAfter_46 (by decide) ?_
          refine call_SRR (pc := 50) (As := [.int (rg 49 (σ 0) x5), .int x3, .int (1 : Int32)]) (rest := []) (wc := []) C h (k_X1_stateWith (rg 49 (σ 0) x5) x3 (1 : Int32) rfl) cw_X1_46 [] rfl rfl rfl rfl hl.1 (Nat.le_of_ble_eq_true rfl) dX1_stateAfter_50 ⟨Nat.le_of_ble_eq_true rfl, Nat.le_of_ble_eq_true rfl⟩ rfl rfl ⟨Nat.le_of_ble_eq_true rfl, Nat.le_of_ble_eq_true rfl⟩ (fun H locs h => ?_)
          refine W.eq (g2 := F0 m 53 ls [.int (f_X1_stateWith (rg 49 (σ 0) x5) x3 (1 : Int32))]) rfl ?_
          refine lv_istore_n (pc := 53) (lv' := [(3, .int (f_X1_stateWith (rg 49 (σ 0) x5) x3 (1 : Int32))), (6, .int (rg 49 (σ 0) x5)), (0, .ref (q 0)), (1, .int x1), (2, .int x2), (4, .int x4), (5, .int x5)]) hx hb dX1_stateAfter_53 rfl hl (by decide) rfl (fun ls hl => ?_)
          refine lv_iinc (pc := 54) (v := (x5 + (1 : Int32))) (lv' := [(5, .int (x5 + (1 : Int32))), (3, .int (f_X1_stateWith (rg 49 (σ 0) x5) x3 (1 : Int32))), (6, .int (rg 49 (σ 0) x5)), (0, .ref (q 0)), (1, .int x1), (2, .int x2), (4, .int x4)]) hx hb dX1_stateAfter_54 hl (k := 6) rfl rfl (by decide) rfl (fun ls hl => ?_)
          refine lv_goto (pc := 57) (tgt := 8) hx hb dX1_stateAfter_57 (by decide) ?_
          exact ih _ _ _ _ _ _ _ hf _ _ _ h (lv_sub hl [3, 4, 5, 1, 6, 0] rfl) kk
      · have hf := ifF c9 hf
        refine lv_iinc (pc := 33) (v := (x4 + (1 : Int32))) (lv' := [(4, .int (x4 + (1 : Int32))), (6, .int (rg 49 (σ 0) x5)), (0, .ref (q 0)), (1, .int x1), (2, .int x2), (3, .int x3), (5, .int x5)]) hx hb dX1_stateAfter_33 hl (k := 5) rfl rfl (by decide) rfl (fun ls hl => ?_)
        refine lv_iload (pc := 36) hx hb dX1_stateAfter_36 (lv_at hl 1 rfl) ?_
        refine lv_iload_n (pc := 38) hx hb dX1_stateAfter_38 rfl (lv_at hl 5 rfl) ?_
        refine lv_iload (pc := 39) hx hb dX1_stateAfter_39 (lv_at hl 0 rfl) ?_
        refine lv_iload_n (pc := 41) hx hb dX1_stateAfter_41 rfl (lv_at hl 4 rfl) ?_
        refine lv_icmp_ne (pc := 42) (tgt := 49) hx hb dX1_stateAfter_42 (by decide) (fun c9 => ?_) (fun c9 => ?_)
        · have hf := ifF c9 hf
          refine lv_iconst (pc := 49) (v := 0) hx hb dX1_stateAfter_49 (by decide) ?_
          refine call_SRR (pc := 50) (As := [.int (rg 49 (σ 0) x5), .int x3, .int (0 : Int32)]) (rest := []) (wc := []) C h (k_X1_stateWith (rg 49 (σ 0) x5) x3 (0 : Int32) rfl) cw_X1_46 [] rfl rfl rfl rfl hl.1 (Nat.le_of_ble_eq_true rfl) dX1_stateAfter_50 ⟨Nat.le_of_ble_eq_true rfl, Nat.le_of_ble_eq_true rfl⟩ rfl rfl ⟨Nat.le_of_ble_eq_true rfl, Nat.le_of_ble_eq_true rfl⟩ (fun H locs h => ?_)
          refine W.eq (g2 := F0 m 53 ls [.int (f_X1_stateWith (rg 49 (σ 0) x5) x3 (0 : Int32))]) rfl ?_
          refine lv_istore_n (pc := 53) (lv' := [(3, .int (f_X1_stateWith (rg 49 (σ 0) x5) x3 (0 : Int32))), (4, .int (x4 + (1 : Int32))), (6, .int (rg 49 (σ 0) x5)), (0, .ref (q 0)), (1, .int x1), (2, .int x2), (5, .int x5)]) hx hb dX1_stateAfter_53 rfl hl (by decide) rfl (fun ls hl => ?_)
          refine lv_iinc (pc := 54) (v := (x5 + (1 : Int32))) (lv' := [(5, .int (x5 + (1 : Int32))), (3, .int (f_X1_stateWith (rg 49 (σ 0) x5) x3 (0 : Int32))), (4, .int (x4 + (1 : Int32))), (6, .int (rg 49 (σ 0) x5)), (0, .ref (q 0)), (1, .int x1), (2, .int x2)]) hx hb dX1_stateAfter_54 hl (k := 6) rfl rfl (by decide) rfl (fun ls hl => ?_)
          refine lv_goto (pc := 57) (tgt := 8) hx hb dX1_stateAfter_57 (by decide) ?_
          exact ih _ _ _ _ _ _ _ hf _ _ _ h (lv_sub hl [4, 5, 6, 1, 2, 0] rfl) kk
        · have hf := ifT c9 hf
          refine lv_iconst (pc := 45) (v := 1) hx hb dX1_stateAfter_45 (by decide) ?_
          refine lv_goto (pc := 46) (tgt := 50) hx hb dX1_stateAfter_46 (by decide) ?_
          refine call_SRR (pc := 50) (As := [.int (rg 49 (σ 0) x5), .int x3, .int (1 : Int32)]) (rest := []) (wc := []) C h (k_X1_stateWith (rg 49 (σ 0) x5) x3 (1 : Int32) rfl) cw_X1_46 [] rfl rfl rfl rfl hl.1 (Nat.le_of_ble_eq_true rfl) dX1_stateAfter_50 ⟨Nat.le_of_ble_eq_true rfl, Nat.le_of_ble_eq_true rfl⟩ rfl rfl ⟨Nat.le_of_ble_eq_true rfl, Nat.le_of_ble_eq_true rfl⟩ (fun H locs h => ?_)
          refine W.eq (g2 := F0 m 53 ls [.int (f_X1_stateWith (rg 49 (σ 0) x5) x3 (1 : Int32))]) rfl ?_
          refine lv_istore_n (pc := 53) (lv' := [(3, .int (f_X1_stateWith (rg 49 (σ 0) x5) x3 (1 : Int32))), (4, .int (x4 + (1 : Int32))), (6, .int (rg 49 (σ 0) x5)), (0, .ref (q 0)), (1, .int x1), (2, .int x2), (5, .int x5)]) hx hb dX1_stateAfter_53 rfl hl (by decide) rfl (fun ls hl => ?_)
          refine lv_iinc (pc := 54) (v := (x5 + (1 : Int32))) (lv' := [(5, .int (x5 + (1 : Int32))), (3, .int (f_X1_stateWith (rg 49 (σ 0) x5) x3 (1 : Int32))), (4, .int (x4 + (1 : Int32))), (6, .int (rg 49 (σ 0) x5)), (0, .ref (q 0)), (1, .int x1), (2, .int x2)]) hx hb dX1_stateAfter_54 hl (k := 6) rfl rfl (by decide) rfl (fun ls hl => ?_)
          refine lv_goto (pc := 57) (tgt := 8) hx hb dX1_stateAfter_57 (by decide) ?_
          exact ih _ _ _ _ _ _ _ hf _ _ _ h (lv_sub hl [4, 5, 6, 1, 2, 0] rfl) kk
set_option maxHeartbeats 400000 in
set_option maxRecDepth 100000 in
theorem k_X1_stateAfter {q : Nat → Nat} {cA : Nat → ClassId} {D : va_G} (σ : Nat → Nat → Int32) (x1 x2 : Int32) {z : Int32} (hf : f_X1_stateAfter σ x1 x2 = some z) : CtR yX1_stateAfter cX1_stateAfter 7 (some .int) rm_X1_stateAfter [.ref (q 0), .int x1, .int x2] D cA (hW q cA σ) (some (.int z)) 0 0 := by
  refine ctR_of (by decide) (Nat.le_of_ble_eq_true rfl) ?_
  intro p l e s m below meth c ls C hr hnm h hl
  have C : Cx p s m _ meth c cX1_stateAfter 7 RX1 D cA := C
  obtain ⟨hx, hb, hml, hown, hts, hK, hlk⟩ := id C
  replace hl : lv_has ls 7 [(0, .ref (q 0)), (1, .int x1), (2, .int x2)] := hl
  rw [f_X1_stateAfter] at hf
  refine lv_iconst (pc := 0) (v := 0) hx hb dX1_stateAfter_0 (by decide) ?_
  refine lv_istore_n (pc := 1) (lv' := [(3, .int (0 : Int32)), (0, .ref (q 0)), (1, .int x1), (2, .int x2)]) hx hb dX1_stateAfter_1 rfl hl (by decide) rfl (fun ls hl => ?_)
  refine lv_iconst (pc := 2) (v := 0) hx hb dX1_stateAfter_2 (by decide) ?_
  refine lv_istore (pc := 3) (lv' := [(4, .int (0 : Int32)), (3, .int (0 : Int32)), (0, .ref (q 0)), (1, .int x1), (2, .int x2)]) hx hb dX1_stateAfter_3 hl (by decide) rfl (fun ls hl => ?_)
  refine lv_iconst (pc := 5) (v := 0) hx hb dX1_stateAfter_5 (by decide) ?_
  refine lv_istore (pc := 6) (lv' := [(5, .int (0 : Int32)), (4, .int (0 : Int32)), (3, .int (0 : Int32)), (0, .ref (q 0)), (1, .int x1), (2, .int x2)]) hx hb dX1_stateAfter_6 hl (by decide) rfl (fun ls hl => ?_)
  obtain ⟨z1, hc1, hf⟩ := bdS hf
  refine l_X1_stateAfter_8 C _ _ _ _ _ _ _ _ hc1 _ _ _ h (lv_sub hl [3, 4, 5, 2, 1, 0] rfl) (fun H locs ls h hl => ?_)
  refine lv_iload_n (pc := 60) hx hb dX1_stateAfter_60 rfl (lv_at hl 3 rfl) ?_
  have hf : (some z1.1) = some z := hf
  cases hf
  exact ret_iR (pc := 61) C hr h dX1_stateAfter_61
abbrev rm_X4_has : Room := { frames := 0, cells := 0, slots := 0, locals := 0 }
def f_X4_has (x0 x1 : Int32) : Int32 := (if ((x0 >>> (x1 &&& 31)) &&& (1 : Int32)) = 0 then (0 : Int32) else (1 : Int32))
set_option maxHeartbeats 400000 in
set_option maxRecDepth 100000 in
theorem k_X4_has {cA : Nat → ClassId} {D : va_G} (x0 x1 : Int32) {z : Int32} (hf : f_X4_has x0 x1 = z) : CtR yX4_has cX4_has 2 (some .boolean) rm_X4_has [.int x0, .int x1] D cA [] (some (.int z)) 0 0 := by
  refine ctR_of (by decide) (Nat.le_of_ble_eq_true rfl) ?_
  intro p l e s m below meth c ls C hr hnm h hl
  have C : Cx p s m _ meth c cX4_has 2 RX4 D cA := C
  obtain ⟨hx, hb, hml, hown, hts, hK, hlk⟩ := id C
  replace hl : lv_has ls 2 [(0, .int x0), (1, .int x1)] := hl
  rw [f_X4_has] at hf
  refine lv_iload_n (pc := 0) hx hb dX4_has_0 rfl (lv_at hl 0 rfl) ?_
  refine lv_iload_n (pc := 1) hx hb dX4_has_1 rfl (lv_at hl 1 rfl) ?_
  refine lv_ishr (pc := 2) hx hb dX4_has_2 ?_
  refine lv_iconst (pc := 3) (v := 1) hx hb dX4_has_3 (by decide) ?_
  refine lv_iand (pc := 4) hx hb dX4_has_4 ?_
  refine lv_if_eq (pc := 5) (tgt := 12) hx hb dX4_has_5 (by decide) (fun c9 => ?_) (fun c9 => ?_)
  · have hf := ifT c9 hf
    refine lv_iconst (pc := 12) (v := 0) hx hb dX4_has_12 (by decide) ?_
    have hf : (0 : Int32) = z := hf
    subst hf
    exact ret_zR (pc := 13) C hr nb0 h dX4_has_13
  · have hf := ifF c9 hf
    refine lv_iconst (pc := 8) (v := 1) hx hb dX4_has_8 (by decide) ?_
    refine lv_goto (pc := 9) (tgt := 13) hx hb dX4_has_9 (by decide) ?_
    have hf : (1 : Int32) = z := hf
    subst hf
    exact ret_zR (pc := 13) C hr nb1 h dX4_has_13
theorem nb_X4_has {x0 x1 : Int32} {z : Int32} (hf : f_X4_has x0 x1 = z) : narrow .boolean (.int z) = .int z := by
  rw [f_X4_has] at hf
  by_cases c9 : ((x0 >>> (x1 &&& 31)) &&& (1 : Int32)) = 0
  · have hf := ifT c9 hf
    have hf : ((0 : Int32)) = z := hf
    subst hf
    exact nb0
  · have hf := ifF c9 hf
    have hf : ((1 : Int32)) = z := hf
    subst hf
    exact nb1
abbrev rm_X0_allSlots : Room := { frames := 0, cells := 0, slots := 0, locals := 0 }
def f_X0_allSlots (σ : Nat → Nat → Int32) : Int32 := (((1 : Int32) <<< ((σ 10 0) &&& 31)) - (1 : Int32))
set_option maxHeartbeats 400000 in
set_option maxRecDepth 100000 in
theorem k_X0_allSlots {q : Nat → Nat} {cA : Nat → ClassId} {D : va_G} (σ : Nat → Nat → Int32) {z : Int32} (hf : f_X0_allSlots σ = z) : CtR yX0_allSlots cX0_allSlots 1 (some .int) rm_X0_allSlots [.ref (q 0)] D cA (eW q cA σ) (some (.int z)) 0 0 := by
  refine ctR_of (by decide) (Nat.le_of_ble_eq_true rfl) ?_
  intro p l e s m below meth c ls C hr hnm h hl
  have C : Cx p s m _ meth c cX0_allSlots 1 RX0 D cA := C
  obtain ⟨hx, hb, hml, hown, hts, hK, hlk⟩ := id C
  replace hl : lv_has ls 1 [(0, .ref (q 0))] := hl
  rw [f_X0_allSlots] at hf
  refine lv_iconst (pc := 0) (v := 1) hx hb dX0_allSlots_0 (by decide) ?_
  refine lv_aload_n (pc := 1) hx hb dX0_allSlots_1 rfl (lv_at hl 0 rfl) ?_
  refine g_get (pc := 2) (v := .int (σ 10 0)) C h.1 0 (eW_c0 _ _ _) fl_X0_43 rfl dX0_allSlots_2 ?_
  refine lv_ishl (pc := 5) hx hb dX0_allSlots_5 ?_
  refine lv_iconst (pc := 6) (v := 1) hx hb dX0_allSlots_6 (by decide) ?_
  refine lv_isub (pc := 7) hx hb dX0_allSlots_7 ?_
  have hf : (((1 : Int32) <<< ((σ 10 0) &&& 31)) - (1 : Int32)) = z := hf
  subst hf
  exact ret_iR (pc := 8) C hr h dX0_allSlots_8
abbrev rm_X0_append : Room := { frames := 1, cells := 0, slots := 0, locals := 22 }
def f_X0_append_5 : Nat → (Nat → Nat → Int32) → Int32 → Int32 → Int32 → Int32 → Option (Int32 × Int32)
  | 0, _, _, _, _, _ => none
  | n + 1, σ, x1, x2, x3, x4 => (if (σ 10 0) ≤ x4 then some (x3, x4) else (if (f_X4_has x2 x4) = 0 then (f_X0_append_5 n σ x1 x2 x3 (x4 + (1 : Int32))) else (f_X0_append_5 n σ x1 x2 (mx x3 ((rg 8 (σ 2) x4) + (1 : Int32))) (x4 + (1 : Int32)))))
def f_X0_append (σ : Nat → Nat → Int32) (x1 x2 : Int32) : Option ((Nat → Nat → Int32)) := ((f_X0_append_5 FU σ x1 x2 (0 : Int32) (0 : Int32)).bind fun z1 => (lt (va_up σ 0 (rs 8 (σ 0) (σ 10 0) x1)) fun t2 => (lt (va_up t2 1 (rs 8 (t2 1) (t2 10 0) x2)) fun t3 => (lt (va_up t3 2 (rs 8 (t3 2) (t3 10 0) z1.1)) fun t4 => (lt (va_up t4 10 (fun _ => ((t4 10 0) + (1 : Int32)))) fun t5 => (some t5))))))
set_option maxHeartbeats 400000 in
set_option maxRecDepth 100000 in
theorem l_X0_append_5 (C : Cx p s m args meth c cX0_append 5 RX0 D cA) : ∀ (n : Nat) (σ : Nat → Nat → Int32) (x1 x2 x3 x4 : Int32) (z : Int32 × Int32), f_X0_append_5 n σ x1 x2 x3 x4 = some z → ∀ (H : Heap) (locs : List Loc) (ls : Array Slot), St D A s.heap (eW q cA σ) H locs → lv_has ls 5 [(0, .ref (q 0)), (1, .int x1), (2, .int x2), (3, .int x3), (4, .int x4)] → (∀ (H : Heap) (locs : List Loc) (ls : Array Slot), St D A s.heap (eW q cA σ) H locs → lv_has ls 5 [(0, .ref (q 0)), (1, .int x1), (2, .int x2), (3, .int z.1), (4, .int z.2)] → W p l e rm_X0_append s m args below meth c H locs 0 0 Q (F0 m 45 ls [])) → W p l e rm_X0_append s m args below meth c H locs 0 0 Q (F0 m 5 ls []) := by
  obtain ⟨hx, hb, hml, hown, hts, hK, hlk⟩ := id C
  intro n
  induction n with
  | zero => intro σ x1 x2 x3 x4 z hf; rw [f_X0_append_5] at hf; cases hf
  | succ n ih =>
    intro σ x1 x2 x3 x4 z hf H locs ls h hl kk
    rw [f_X0_append_5] at hf
    refine lv_iload (pc := 5) hx hb dX0_append_5 (lv_at hl 4 rfl) ?_
    refine lv_aload_n (pc := 7) hx hb dX0_append_7 rfl (lv_at hl 0 rfl) ?_
    refine g_get (pc := 8) (v := .int (σ 10 0)) C h.1 0 (eW_c0 _ _ _) fl_X0_43 rfl dX0_append_8 ?_
    refine lv_icmp_ge (pc := 11) (tgt := 45) hx hb dX0_append_11 (by decide) (fun c9 => ?_) (fun c9 => ?_)
    · have hf := ifT c9 hf
      have hf : some (x3, x4) = some z := hf
      cases hf
      exact kk _ _ _ h (lv_sub hl [0, 1, 2, 3, 4] rfl)
    · have hf := ifF c9 hf
      refine lv_iload_n (pc := 14) hx hb dX0_append_14 rfl (lv_at hl 2 rfl) ?_
      refine lv_iload (pc := 15) hx hb dX0_append_15 (lv_at hl 4 rfl) ?_
      refine call_has (pc := 17) (rest := []) C h (k_X4_has x2 x4 rfl) hw_has hl.1 (Nat.le_of_ble_eq_true rfl) dX0_append_17 ⟨Nat.le_of_ble_eq_true rfl, Nat.le_of_ble_eq_true rfl⟩ rfl rfl ⟨Nat.le_of_ble_eq_true rfl, Nat.le_of_ble_eq_true rfl⟩ (fun H locs h => ?_)
      refine W.eq (g2 := F0 m 20 ls [.int (f_X4_has x2 x4)]) rfl ?_
      refine lv_if_eq (pc := 20) (tgt := 39) hx hb dX0_append_20 (by decide) (fun c9 => ?_) (fun c9 => ?_)
      · have hf := ifT c9 hf
        refine lv_iinc (pc := 39) (v := (x4 + (1 : Int32))) (lv' := [(4, .int (x4 + (1 : Int32))), (0, .ref (q 0)), (1, .int x1), (2, .int x2), (3, .int x3)]) hx hb dX0_append_39 hl (k := 4) rfl rfl (by decide) rfl (fun ls hl => ?_)
        refine lv_goto (pc := 42) (tgt := 5) hx hb dX0_append_42 (by decide) ?_
        exact ih _ _ _ _ _ _ hf _ _ _ h (lv_sub hl [1, 2, 3, 4, 0] rfl) kk
      · have hf := ifF c9 hf
        refine lv_iload_n (pc := 23) hx hb dX0_append_23 rfl (lv_at hl 3 rfl) ?_
        refine lv_aload_n (pc := 24) hx hb dX0_append_24 rfl (lv_at hl 0 rfl) ?_
        refine g_get (pc := 25) (v := .ref (q 3)) C h.1 0 (eW_c0 _ _ _) fl_X0_23 rfl dX0_append_25 ?_
        refine lv_iload (pc := 28) hx hb dX0_append_28 (lv_at hl 4 rfl) ?_
        refine call_rget (pc := 30) (rest := [.int x3]) C h (by decide) (by decide) (eW_c3 _ _ _) (eW_c8 _ _ _) cw_X0_50 hl.1 (Nat.le_of_ble_eq_true rfl) dX0_append_30 ⟨Nat.le_of_ble_eq_true rfl, Nat.le_of_ble_eq_true rfl⟩ rfl rfl ⟨Nat.le_of_ble_eq_true rfl, Nat.le_of_ble_eq_true rfl⟩ (fun H locs h => ?_)
        refine lv_iconst (pc := 33) (v := 1) hx hb dX0_append_33 (by decide) ?_
        refine lv_iadd (pc := 34) hx hb dX0_append_34 ?_
        refine g_mmax (pc := 35) (rest := []) C mw_max hl.1 (Nat.le_of_ble_eq_true rfl) (Nat.le_of_ble_eq_true rfl) (Nat.le_of_ble_eq_true rfl) (Nat.le_of_ble_eq_true rfl) dX0_append_35 ?_
        refine lv_istore_n (pc := 38) (lv' := [(3, .int (mx x3 ((rg 8 (σ 2) x4) + (1 : Int32)))), (0, .ref (q 0)), (1, .int x1), (2, .int x2), (4, .int x4)]) hx hb dX0_append_38 rfl hl (by decide) rfl (fun ls hl => ?_)
        refine lv_iinc (pc := 39) (v := (x4 + (1 : Int32))) (lv' := [(4, .int (x4 + (1 : Int32))), (3, .int (mx x3 ((rg 8 (σ 2) x4) + (1 : Int32)))), (0, .ref (q 0)), (1, .int x1), (2, .int x2)]) hx hb dX0_append_39 hl (k := 4) rfl rfl (by decide) rfl (fun ls hl => ?_)
        refine lv_goto (pc := 42) (tgt := 5) hx hb dX0_append_42 (by decide) ?_
        exact ih _ _ _ _ _ _ hf _ _ _ h (lv_sub hl [2, 3, 4, 1, 0] rfl) kk
set_option maxHeartbeats 400000 in
set_option maxRecDepth 100000 in
theorem k_X0_append {q : Nat → Nat} {cA : Nat → ClassId} {D : va_G} (σ : Nat → Nat → Int32) (x1 x2 : Int32) {z : (Nat → Nat → Int32)} (hf : f_X0_append σ x1 x2 = some z) : CtU yX0_append cX0_append 5 none rm_X0_append [.ref (q 0), .int x1, .int x2] D cA (eW q cA σ) (eW q cA z) none 0 0 := by
  refine ctU_of (by decide) (Nat.le_of_ble_eq_true rfl) ?_
  intro p l e s m below meth c ls C hr hnm h hl
  have C : Cx p s m _ meth c cX0_append 5 RX0 D cA := C
  obtain ⟨hx, hb, hml, hown, hts, hK, hlk⟩ := id C
  replace hl : lv_has ls 5 [(0, .ref (q 0)), (1, .int x1), (2, .int x2)] := hl
  rw [f_X0_append] at hf
  refine lv_iconst (pc := 0) (v := 0) hx hb dX0_append_0 (by decide) ?_
  refine lv_istore_n (pc := 1) (lv' := [(3, .int (0 : Int32)), (0, .ref (q 0)), (1, .int x1), (2, .int x2)]) hx hb dX0_append_1 rfl hl (by decide) rfl (fun ls hl => ?_)
  refine lv_iconst (pc := 2) (v := 0) hx hb dX0_append_2 (by decide) ?_
  refine lv_istore (pc := 3) (lv' := [(4, .int (0 : Int32)), (3, .int (0 : Int32)), (0, .ref (q 0)), (1, .int x1), (2, .int x2)]) hx hb dX0_append_3 hl (by decide) rfl (fun ls hl => ?_)
  obtain ⟨z1, hc1, hf⟩ := bdS hf
  refine l_X0_append_5 C _ _ _ _ _ _ _ hc1 _ _ _ h (lv_sub hl [2, 3, 4, 1, 0] rfl) (fun H locs ls h hl => ?_)
  refine lv_aload_n (pc := 45) hx hb dX0_append_45 rfl (lv_at hl 0 rfl) ?_
  refine g_get (pc := 46) (v := .ref (q 1)) C h.1 0 (eW_c0 _ _ _) fl_X0_14 rfl dX0_append_46 ?_
  refine lv_aload_n (pc := 49) hx hb dX0_append_49 rfl (lv_at hl 0 rfl) ?_
  refine g_get (pc := 50) (v := .int (σ 10 0)) C h.1 0 (eW_c0 _ _ _) fl_X0_43 rfl dX0_append_50 ?_
  refine lv_iload_n (pc := 53) hx hb dX0_append_53 rfl (lv_at hl 1 rfl) ?_
  obtain ⟨t2, et2, hf⟩ := ltS hf
  refine call_rset (pc := 54) (rest := []) (ws' := (eW q cA t2)) C h (by decide) (by decide) (eW_c1 _ _ _) (eW_c6 _ _ _) ((eW_w6 _ _ _ _).trans (congrArg (eW q cA) et2.symm)) cw_X0_60 hl.1 (Nat.le_of_ble_eq_true rfl) dX0_append_54 ⟨Nat.le_of_ble_eq_true rfl, Nat.le_of_ble_eq_true rfl⟩ rfl rfl ⟨Nat.le_of_ble_eq_true rfl, Nat.le_of_ble_eq_true rfl⟩ (fun H locs h => ?_)
  refine lv_aload_n (pc := 57) hx hb dX0_append_57 rfl (lv_at hl 0 rfl) ?_
  refine g_get (pc := 58) (v := .ref (q 2)) C h.1 0 (eW_c0 _ _ _) fl_X0_20 rfl dX0_append_58 ?_
  refine lv_aload_n (pc := 61) hx hb dX0_append_61 rfl (lv_at hl 0 rfl) ?_
  refine g_get (pc := 62) (v := .int (t2 10 0)) C h.1 0 (eW_c0 _ _ _) fl_X0_43 rfl dX0_append_62 ?_
  refine lv_iload_n (pc := 65) hx hb dX0_append_65 rfl (lv_at hl 2 rfl) ?_
  obtain ⟨t3, et3, hf⟩ := ltS hf
  refine call_rset (pc := 66) (rest := []) (ws' := (eW q cA t3)) C h (by decide) (by decide) (eW_c2 _ _ _) (eW_c7 _ _ _) ((eW_w7 _ _ _ _).trans (congrArg (eW q cA) et3.symm)) cw_X0_60 hl.1 (Nat.le_of_ble_eq_true rfl) dX0_append_66 ⟨Nat.le_of_ble_eq_true rfl, Nat.le_of_ble_eq_true rfl⟩ rfl rfl ⟨Nat.le_of_ble_eq_true rfl, Nat.le_of_ble_eq_true rfl⟩ (fun H locs h => ?_)
  refine lv_aload_n (pc := 69) hx hb dX0_append_69 rfl (lv_at hl 0 rfl) ?_
  refine g_get (pc := 70) (v := .ref (q 3)) C h.1 0 (eW_c0 _ _ _) fl_X0_23 rfl dX0_append_70 ?_
  refine lv_aload_n (pc := 73) hx hb dX0_append_73 rfl (lv_at hl 0 rfl) ?_
  refine g_get (pc := 74) (v := .int (t3 10 0)) C h.1 0 (eW_c0 _ _ _) fl_X0_43 rfl dX0_append_74 ?_
  refine lv_iload_n (pc := 77) hx hb dX0_append_77 rfl (lv_at hl 3 rfl) ?_
  obtain ⟨t4, et4, hf⟩ := ltS hf
  refine call_rset (pc := 78) (rest := []) (ws' := (eW q cA t4)) C h (by decide) (by decide) (eW_c3 _ _ _) (eW_c8 _ _ _) ((eW_w8 _ _ _ _).trans (congrArg (eW q cA) et4.symm)) cw_X0_60 hl.1 (Nat.le_of_ble_eq_true rfl) dX0_append_78 ⟨Nat.le_of_ble_eq_true rfl, Nat.le_of_ble_eq_true rfl⟩ rfl rfl ⟨Nat.le_of_ble_eq_true rfl, Nat.le_of_ble_eq_true rfl⟩ (fun H locs h => ?_)
  refine lv_aload_n (pc := 81) hx hb dX0_append_81 rfl (lv_at hl 0 rfl) ?_
  refine lv_dup (pc := 82) hx hb dX0_append_82 rfl ?_
  refine g_get (pc := 83) (v := .int (t4 10 0)) C h.1 0 (eW_c0 _ _ _) fl_X0_43 rfl dX0_append_83 ?_
  refine lv_iconst (pc := 86) (v := 1) hx hb dX0_append_86 (by decide) ?_
  refine lv_iadd (pc := 87) hx hb dX0_append_87 ?_
  obtain ⟨t5, et5, hf⟩ := ltS hf
  refine g_puti (pc := 88) (v := ((t4 10 0) + (1 : Int32))) (ws' := (eW q cA t5)) C h 0 (eW_c0 _ _ _) fp_X0_43 (Nat.le_of_ble_eq_true rfl) ((eW_w0_6 _ _ _ _).trans (congrArg (eW q cA) et5.symm)) dX0_append_88 (fun H locs h => ?_)
  have hf : (some t5) = some z := hf
  cases hf
  exact ret_vU (pc := 91) C hr h dX0_append_91
abbrev rm_X0_nextBehind : Room := { frames := 1, cells := 0, slots := 0, locals := 21 }
def f_X0_nextBehind_4 : Nat → (Nat → Nat → Int32) → Int32 → Int32 → Int32 → Option (Int32 × Int32)
  | 0, _, _, _, _ => none
  | n + 1, σ, x1, x2, x3 => (if (σ 10 0) ≤ x3 then some (x2, x3) else (if (f_X4_has x1 x3) = 0 then (if ((rg 8 (σ 1) x3) &&& (x1 ^^^ (-1 : Int32))) = 0 then (f_X0_nextBehind_4 n σ x1 (x2 ||| ((1 : Int32) <<< (x3 &&& 31))) (x3 + (1 : Int32))) else (f_X0_nextBehind_4 n σ x1 x2 (x3 + (1 : Int32)))) else (f_X0_nextBehind_4 n σ x1 x2 (x3 + (1 : Int32)))))
def f_X0_nextBehind (σ : Nat → Nat → Int32) (x1 : Int32) : Option (Int32) := ((f_X0_nextBehind_4 FU σ x1 (0 : Int32) (0 : Int32)).bind fun z1 => (some z1.1))
set_option maxHeartbeats 400000 in
set_option maxRecDepth 100000 in
theorem l_X0_nextBehind_4 (C : Cx p s m args meth c cX0_nextBehind 4 RX0 D cA) : ∀ (n : Nat) (σ : Nat → Nat → Int32) (x1 x2 x3 : Int32) (z : Int32 × Int32), f_X0_nextBehind_4 n σ x1 x2 x3 = some z → ∀ (H : Heap) (locs : List Loc) (ls : Array Slot), SR D s.heap (eW q cA σ) H locs → lv_has ls 4 [(0, .ref (q 0)), (1, .int x1), (2, .int x2), (3, .int x3)] → (∀ (H : Heap) (locs : List Loc) (ls : Array Slot), SR D s.heap (eW q cA σ) H locs → lv_has ls 4 [(0, .ref (q 0)), (1, .int x1), (2, .int z.1), (3, .int z.2)] → W p l e rm_X0_nextBehind s m args below meth c H locs 0 0 Q (F0 m 47 ls [])) → W p l e rm_X0_nextBehind s m args below meth c H locs 0 0 Q (F0 m 4 ls []) := by
  obtain ⟨hx, hb, hml, hown, hts, hK, hlk⟩ := id C
  intro n
  induction n with
  | zero => intro σ x1 x2 x3 z hf; rw [f_X0_nextBehind_4] at hf; cases hf
  | succ n ih =>
    intro σ x1 x2 x3 z hf H locs ls h hl kk
    rw [f_X0_nextBehind_4] at hf
    refine lv_iload_n (pc := 4) hx hb dX0_nextBehind_4 rfl (lv_at hl 3 rfl) ?_
    refine lv_aload_n (pc := 5) hx hb dX0_nextBehind_5 rfl (lv_at hl 0 rfl) ?_
    refine g_get (pc := 6) (v := .int (σ 10 0)) C h.1 0 (eW_c0 _ _ _) fl_X0_43 rfl dX0_nextBehind_6 ?_
    refine lv_icmp_ge (pc := 9) (tgt := 47) hx hb dX0_nextBehind_9 (by decide) (fun c9 => ?_) (fun c9 => ?_)
    · have hf := ifT c9 hf
      have hf : some (x2, x3) = some z := hf
      cases hf
      exact kk _ _ _ h (lv_sub hl [0, 1, 2, 3] rfl)
    · have hf := ifF c9 hf
      refine lv_iload_n (pc := 12) hx hb dX0_nextBehind_12 rfl (lv_at hl 1 rfl) ?_
      refine lv_iload_n (pc := 13) hx hb dX0_nextBehind_13 rfl (lv_at hl 3 rfl) ?_
      refine call_hasR (pc := 14) (rest := []) C h (k_X4_has x1 x3 rfl) hw_has hl.1 (Nat.le_of_ble_eq_true rfl) dX0_nextBehind_14 ⟨Nat.le_of_ble_eq_true rfl, Nat.le_of_ble_eq_true rfl⟩ rfl rfl ⟨Nat.le_of_ble_eq_true rfl, Nat.le_of_ble_eq_true rfl⟩ (fun H locs h => ?_)
      refine W.eq (g2 := F0 m 17 ls [.int (f_X4_has x1 x3)]) rfl ?_
      refine lv_if_ne (pc := 17) (tgt := 41) hx hb dX0_nextBehind_17 (by decide) (fun c9 => ?_) (fun c9 => ?_)
      · have hf := ifF c9 hf
        refine lv_iinc (pc := 41) (v := (x3 + (1 : Int32))) (lv' := [(3, .int (x3 + (1 : Int32))), (0, .ref (q 0)), (1, .int x1), (2, .int x2)]) hx hb dX0_nextBehind_41 hl (k := 3) rfl rfl (by decide) rfl (fun ls hl => ?_)
        refine lv_goto (pc := 44) (tgt := 4) hx hb dX0_nextBehind_44 (by decide) ?_
        exact ih _ _ _ _ _ hf _ _ _ h (lv_sub hl [1, 2, 3, 0] rfl) kk
      · have hf := ifT c9 hf
        refine lv_aload_n (pc := 20) hx hb dX0_nextBehind_20 rfl (lv_at hl 0 rfl) ?_
        refine g_get (pc := 21) (v := .ref (q 2)) C h.1 0 (eW_c0 _ _ _) fl_X0_20 rfl dX0_nextBehind_21 ?_
        refine lv_iload_n (pc := 24) hx hb dX0_nextBehind_24 rfl (lv_at hl 3 rfl) ?_
        refine call_rgetR (pc := 25) (rest := []) C h (by decide) (by decide) (eW_c2 _ _ _) (eW_c7 _ _ _) cw_X0_50 hl.1 (Nat.le_of_ble_eq_true rfl) dX0_nextBehind_25 ⟨Nat.le_of_ble_eq_true rfl, Nat.le_of_ble_eq_true rfl⟩ rfl rfl ⟨Nat.le_of_ble_eq_true rfl, Nat.le_of_ble_eq_true rfl⟩ (fun H locs h => ?_)
        refine lv_iload_n (pc := 28) hx hb dX0_nextBehind_28 rfl (lv_at hl 1 rfl) ?_
        refine lv_iconst (pc := 29) (v := -1) hx hb dX0_nextBehind_29 (by decide) ?_
        refine lv_ixor (pc := 30) hx hb dX0_nextBehind_30 ?_
        refine lv_iand (pc := 31) hx hb dX0_nextBehind_31 ?_
        refine lv_if_ne (pc := 32) (tgt := 41) hx hb dX0_nextBehind_32 (by decide) (fun c9 => ?_) (fun c9 => ?_)
        · have hf := ifF c9 hf
          refine lv_iinc (pc := 41) (v := (x3 + (1 : Int32))) (lv' := [(3, .int (x3 + (1 : Int32))), (0, .ref (q 0)), (1, .int x1), (2, .int x2)]) hx hb dX0_nextBehind_41 hl (k := 3) rfl rfl (by decide) rfl (fun ls hl => ?_)
          refine lv_goto (pc := 44) (tgt := 4) hx hb dX0_nextBehind_44 (by decide) ?_
          exact ih _ _ _ _ _ hf _ _ _ h (lv_sub hl [1, 2, 3, 0] rfl) kk
        · have hf := ifT c9 hf
          refine lv_iload_n (pc := 35) hx hb dX0_nextBehind_35 rfl (lv_at hl 2 rfl) ?_
          refine lv_iconst (pc := 36) (v := 1) hx hb dX0_nextBehind_36 (by decide) ?_
          refine lv_iload_n (pc := 37) hx hb dX0_nextBehind_37 rfl (lv_at hl 3 rfl) ?_
          refine lv_ishl (pc := 38) hx hb dX0_nextBehind_38 ?_
          refine lv_ior (pc := 39) hx hb dX0_nextBehind_39 ?_
          refine lv_istore_n (pc := 40) (lv' := [(2, .int (x2 ||| ((1 : Int32) <<< (x3 &&& 31)))), (0, .ref (q 0)), (1, .int x1), (3, .int x3)]) hx hb dX0_nextBehind_40 rfl hl (by decide) rfl (fun ls hl => ?_)
          refine lv_iinc (pc := 41) (v := (x3 + (1 : Int32))) (lv' := [(3, .int (x3 + (1 : Int32))), (2, .int (x2 ||| ((1 : Int32) <<< (x3 &&& 31)))), (0, .ref (q 0)), (1, .int x1)]) hx hb dX0_nextBehind_41 hl (k := 3) rfl rfl (by decide) rfl (fun ls hl => ?_)
          refine lv_goto (pc := 44) (tgt := 4) hx hb dX0_nextBehind_44 (by decide) ?_
          exact ih _ _ _ _ _ hf _ _ _ h (lv_sub hl [2, 3, 1, 0] rfl) kk
set_option maxHeartbeats 400000 in
set_option maxRecDepth 100000 in
theorem k_X0_nextBehind {q : Nat → Nat} {cA : Nat → ClassId} {D : va_G} (σ : Nat → Nat → Int32) (x1 : Int32) {z : Int32} (hf : f_X0_nextBehind σ x1 = some z) : CtR yX0_nextBehind cX0_nextBehind 4 (some .int) rm_X0_nextBehind [.ref (q 0), .int x1] D cA (eW q cA σ) (some (.int z)) 0 0 := by
  refine ctR_of (by decide) (Nat.le_of_ble_eq_true rfl) ?_
  intro p l e s m below meth c ls C hr hnm h hl
  have C : Cx p s m _ meth c cX0_nextBehind 4 RX0 D cA := C
  obtain ⟨hx, hb, hml, hown, hts, hK, hlk⟩ := id C
  replace hl : lv_has ls 4 [(0, .ref (q 0)), (1, .int x1)] := hl
  rw [f_X0_nextBehind] at hf
  refine lv_iconst (pc := 0) (v := 0) hx hb dX0_nextBehind_0 (by decide) ?_
  refine lv_istore_n (pc := 1) (lv' := [(2, .int (0 : Int32)), (0, .ref (q 0)), (1, .int x1)]) hx hb dX0_nextBehind_1 rfl hl (by decide) rfl (fun ls hl => ?_)
  refine lv_iconst (pc := 2) (v := 0) hx hb dX0_nextBehind_2 (by decide) ?_
  refine lv_istore_n (pc := 3) (lv' := [(3, .int (0 : Int32)), (2, .int (0 : Int32)), (0, .ref (q 0)), (1, .int x1)]) hx hb dX0_nextBehind_3 rfl hl (by decide) rfl (fun ls hl => ?_)
  obtain ⟨z1, hc1, hf⟩ := bdS hf
  refine l_X0_nextBehind_4 C _ _ _ _ _ _ hc1 _ _ _ h (lv_sub hl [2, 3, 1, 0] rfl) (fun H locs ls h hl => ?_)
  refine lv_iload_n (pc := 47) hx hb dX0_nextBehind_47 rfl (lv_at hl 2 rfl) ?_
  have hf : (some z1.1) = some z := hf
  cases hf
  exact ret_iR (pc := 48) C hr h dX0_nextBehind_48
abbrev rm_X0_aheadOf : Room := { frames := 1, cells := 0, slots := 0, locals := 21 }
def f_X0_aheadOf_13 : Nat → (Nat → Nat → Int32) → Int32 → Int32 → Int32 → Option (Int32 × Int32)
  | 0, _, _, _, _ => none
  | n + 1, σ, x1, x2, x3 => (if x3 < 0 then some (x2, x3) else (if (f_X4_has x2 x3) = 0 then (f_X0_aheadOf_13 n σ x1 x2 (x3 + (-1 : Int32))) else (f_X0_aheadOf_13 n σ x1 (x2 ||| (rg 8 (σ 1) x3)) (x3 + (-1 : Int32)))))
def f_X0_aheadOf (σ : Nat → Nat → Int32) (x1 : Int32) : Option (Int32) := ((f_X0_aheadOf_13 FU σ x1 (rg 8 (σ 1) x1) (x1 - (1 : Int32))).bind fun z1 => (some z1.1))
set_option maxHeartbeats 400000 in
set_option maxRecDepth 100000 in
theorem l_X0_aheadOf_13 (C : Cx p s m args meth c cX0_aheadOf 4 RX0 D cA) : ∀ (n : Nat) (σ : Nat → Nat → Int32) (x1 x2 x3 : Int32) (z : Int32 × Int32), f_X0_aheadOf_13 n σ x1 x2 x3 = some z → ∀ (H : Heap) (locs : List Loc) (ls : Array Slot), SR D s.heap (eW q cA σ) H locs → lv_has ls 4 [(0, .ref (q 0)), (1, .int x1), (2, .int x2), (3, .int x3)] → (∀ (H : Heap) (locs : List Loc) (ls : Array Slot), SR D s.heap (eW q cA σ) H locs → lv_has ls 4 [(0, .ref (q 0)), (1, .int x1), (2, .int z.1), (3, .int z.2)] → W p l e rm_X0_aheadOf s m args below meth c H locs 0 0 Q (F0 m 42 ls [])) → W p l e rm_X0_aheadOf s m args below meth c H locs 0 0 Q (F0 m 13 ls []) := by
  obtain ⟨hx, hb, hml, hown, hts, hK, hlk⟩ := id C
  intro n
  induction n with
  | zero => intro σ x1 x2 x3 z hf; rw [f_X0_aheadOf_13] at hf; cases hf
  | succ n ih =>
    intro σ x1 x2 x3 z hf H locs ls h hl kk
    rw [f_X0_aheadOf_13] at hf
    refine lv_iload_n (pc := 13) hx hb dX0_aheadOf_13 rfl (lv_at hl 3 rfl) ?_
    refine lv_if_lt (pc := 14) (tgt := 42) hx hb dX0_aheadOf_14 (by decide) (fun c9 => ?_) (fun c9 => ?_)
    · have hf := ifT c9 hf
      have hf : some (x2, x3) = some z := hf
      cases hf
      exact kk _ _ _ h (lv_sub hl [0, 1, 2, 3] rfl)
    · have hf := ifF c9 hf
      refine lv_iload_n (pc := 17) hx hb dX0_aheadOf_17 rfl (lv_at hl 2 rfl) ?_
      refine lv_iload_n (pc := 18) hx hb dX0_aheadOf_18 rfl (lv_at hl 3 rfl) ?_
      refine call_hasR (pc := 19) (rest := []) C h (k_X4_has x2 x3 rfl) hw_has hl.1 (Nat.le_of_ble_eq_true rfl) dX0_aheadOf_19 ⟨Nat.le_of_ble_eq_true rfl, Nat.le_of_ble_eq_true rfl⟩ rfl rfl ⟨Nat.le_of_ble_eq_true rfl, Nat.le_of_ble_eq_true rfl⟩ (fun H locs h => ?_)
      refine W.eq (g2 := F0 m 22 ls [.int (f_X4_has x2 x3)]) rfl ?_
      refine lv_if_eq (pc := 22) (tgt := 36) hx hb dX0_aheadOf_22 (by decide) (fun c9 => ?_) (fun c9 => ?_)
      · have hf := ifT c9 hf
        refine lv_iinc (pc := 36) (v := (x3 + (-1 : Int32))) (lv' := [(3, .int (x3 + (-1 : Int32))), (0, .ref (q 0)), (1, .int x1), (2, .int x2)]) hx hb dX0_aheadOf_36 hl (k := 3) rfl rfl (by decide) rfl (fun ls hl => ?_)
        refine lv_goto (pc := 39) (tgt := 13) hx hb dX0_aheadOf_39 (by decide) ?_
        exact ih _ _ _ _ _ hf _ _ _ h (lv_sub hl [1, 2, 3, 0] rfl) kk
      · have hf := ifF c9 hf
        refine lv_iload_n (pc := 25) hx hb dX0_aheadOf_25 rfl (lv_at hl 2 rfl) ?_
        refine lv_aload_n (pc := 26) hx hb dX0_aheadOf_26 rfl (lv_at hl 0 rfl) ?_
        refine g_get (pc := 27) (v := .ref (q 2)) C h.1 0 (eW_c0 _ _ _) fl_X0_20 rfl dX0_aheadOf_27 ?_
        refine lv_iload_n (pc := 30) hx hb dX0_aheadOf_30 rfl (lv_at hl 3 rfl) ?_
        refine call_rgetR (pc := 31) (rest := [.int x2]) C h (by decide) (by decide) (eW_c2 _ _ _) (eW_c7 _ _ _) cw_X0_50 hl.1 (Nat.le_of_ble_eq_true rfl) dX0_aheadOf_31 ⟨Nat.le_of_ble_eq_true rfl, Nat.le_of_ble_eq_true rfl⟩ rfl rfl ⟨Nat.le_of_ble_eq_true rfl, Nat.le_of_ble_eq_true rfl⟩ (fun H locs h => ?_)
        refine lv_ior (pc := 34) hx hb dX0_aheadOf_34 ?_
        refine lv_istore_n (pc := 35) (lv' := [(2, .int (x2 ||| (rg 8 (σ 1) x3))), (0, .ref (q 0)), (1, .int x1), (3, .int x3)]) hx hb dX0_aheadOf_35 rfl hl (by decide) rfl (fun ls hl => ?_)
        refine lv_iinc (pc := 36) (v := (x3 + (-1 : Int32))) (lv' := [(3, .int (x3 + (-1 : Int32))), (2, .int (x2 ||| (rg 8 (σ 1) x3))), (0, .ref (q 0)), (1, .int x1)]) hx hb dX0_aheadOf_36 hl (k := 3) rfl rfl (by decide) rfl (fun ls hl => ?_)
        refine lv_goto (pc := 39) (tgt := 13) hx hb dX0_aheadOf_39 (by decide) ?_
        exact ih _ _ _ _ _ hf _ _ _ h (lv_sub hl [2, 3, 1, 0] rfl) kk
set_option maxHeartbeats 400000 in
set_option maxRecDepth 100000 in
theorem k_X0_aheadOf {q : Nat → Nat} {cA : Nat → ClassId} {D : va_G} (σ : Nat → Nat → Int32) (x1 : Int32) {z : Int32} (hf : f_X0_aheadOf σ x1 = some z) : CtR yX0_aheadOf cX0_aheadOf 4 (some .int) rm_X0_aheadOf [.ref (q 0), .int x1] D cA (eW q cA σ) (some (.int z)) 0 0 := by
  refine ctR_of (by decide) (Nat.le_of_ble_eq_true rfl) ?_
  intro p l e s m below meth c ls C hr hnm h hl
  have C : Cx p s m _ meth c cX0_aheadOf 4 RX0 D cA := C
  obtain ⟨hx, hb, hml, hown, hts, hK, hlk⟩ := id C
  replace hl : lv_has ls 4 [(0, .ref (q 0)), (1, .int x1)] := hl
  rw [f_X0_aheadOf] at hf
  refine lv_aload_n (pc := 0) hx hb dX0_aheadOf_0 rfl (lv_at hl 0 rfl) ?_
  refine g_get (pc := 1) (v := .ref (q 2)) C h.1 0 (eW_c0 _ _ _) fl_X0_20 rfl dX0_aheadOf_1 ?_
  refine lv_iload_n (pc := 4) hx hb dX0_aheadOf_4 rfl (lv_at hl 1 rfl) ?_
  refine call_rgetR (pc := 5) (rest := []) C h (by decide) (by decide) (eW_c2 _ _ _) (eW_c7 _ _ _) cw_X0_50 hl.1 (Nat.le_of_ble_eq_true rfl) dX0_aheadOf_5 ⟨Nat.le_of_ble_eq_true rfl, Nat.le_of_ble_eq_true rfl⟩ rfl rfl ⟨Nat.le_of_ble_eq_true rfl, Nat.le_of_ble_eq_true rfl⟩ (fun H locs h => ?_)
  refine lv_istore_n (pc := 8) (lv' := [(2, .int (rg 8 (σ 1) x1)), (0, .ref (q 0)), (1, .int x1)]) hx hb dX0_aheadOf_8 rfl hl (by decide) rfl (fun ls hl => ?_)
  refine lv_iload_n (pc := 9) hx hb dX0_aheadOf_9 rfl (lv_at hl 2 rfl) ?_
  refine lv_iconst (pc := 10) (v := 1) hx hb dX0_aheadOf_10 (by decide) ?_
  refine lv_isub (pc := 11) hx hb dX0_aheadOf_11 ?_
  refine lv_istore_n (pc := 12) (lv' := [(3, .int (x1 - (1 : Int32))), (2, .int (rg 8 (σ 1) x1)), (0, .ref (q 0)), (1, .int x1)]) hx hb dX0_aheadOf_12 rfl hl (by decide) rfl (fun ls hl => ?_)
  obtain ⟨z1, hc1, hf⟩ := bdS hf
  refine l_X0_aheadOf_13 C _ _ _ _ _ _ hc1 _ _ _ h (lv_sub hl [2, 3, 1, 0] rfl) (fun H locs ls h hl => ?_)
  refine lv_iload_n (pc := 42) hx hb dX0_aheadOf_42 rfl (lv_at hl 2 rfl) ?_
  have hf : (some z1.1) = some z := hf
  cases hf
  exact ret_iR (pc := 43) C hr h dX0_aheadOf_43
abbrev rm_X0_openNext : Room := { frames := 2, cells := 0, slots := 0, locals := 44 }
def f_X0_openNext_18 : Nat → (Nat → Nat → Int32) → Int32 → Int32 → Int32 → Option ((Nat → Nat → Int32) × Int32)
  | 0, _, _, _, _ => none
  | n + 1, σ, x1, x2, x3 => (if (σ 10 0) ≤ x3 then some (σ, x3) else (if (f_X4_has x2 x3) = 0 then (f_X0_openNext_18 n σ x1 x2 (x3 + (1 : Int32))) else (lt (va_up σ 3 (rs 8 (σ 3) x3 x1)) fun t2 => (f_X0_openNext_18 n t2 x1 x2 (x3 + (1 : Int32))))))
def f_X0_openNext (σ : Nat → Nat → Int32) (x1 : Int32) : Option (Int32 × (Nat → Nat → Int32)) := ((f_X0_nextBehind σ (σ 15 0)).bind fun z1 => ((f_X0_openNext_18 FU σ x1 (z1 &&& ((σ 16 0) ^^^ (-1 : Int32))) (0 : Int32)).bind fun z2 => (lt (va_up z2.1 16 (fun _ => ((z2.1 16 0) ||| (z1 &&& ((σ 16 0) ^^^ (-1 : Int32)))))) fun t3 => (some ((f_J6_bitCount_0f7a4 (z1 &&& ((σ 16 0) ^^^ (-1 : Int32)))), t3)))))
set_option maxHeartbeats 400000 in
set_option maxRecDepth 100000 in
theorem l_X0_openNext_18 (C : Cx p s m args meth c cX0_openNext 4 RX0 D cA) : ∀ (n : Nat) (σ : Nat → Nat → Int32) (x1 x2 x3 : Int32) (z : (Nat → Nat → Int32) × Int32), f_X0_openNext_18 n σ x1 x2 x3 = some z → ∀ (H : Heap) (locs : List Loc) (ls : Array Slot), St D A s.heap (eW q cA σ) H locs → lv_has ls 4 [(0, .ref (q 0)), (1, .int x1), (2, .int x2), (3, .int x3)] → (∀ (H : Heap) (locs : List Loc) (ls : Array Slot), St D A s.heap (eW q cA z.1) H locs → lv_has ls 4 [(0, .ref (q 0)), (1, .int x1), (2, .int x2), (3, .int z.2)] → W p l e rm_X0_openNext s m args below meth c H locs 0 0 Q (F0 m 49 ls [])) → W p l e rm_X0_openNext s m args below meth c H locs 0 0 Q (F0 m 18 ls []) := by
  obtain ⟨hx, hb, hml, hown, hts, hK, hlk⟩ := id C
  intro n
  induction n with
  | zero => intro σ x1 x2 x3 z hf; rw [f_X0_openNext_18] at hf; cases hf
  | succ n ih =>
    intro σ x1 x2 x3 z hf H locs ls h hl kk
    rw [f_X0_openNext_18] at hf
    refine lv_iload_n (pc := 18) hx hb dX0_openNext_18 rfl (lv_at hl 3 rfl) ?_
    refine lv_aload_n (pc := 19) hx hb dX0_openNext_19 rfl (lv_at hl 0 rfl) ?_
    refine g_get (pc := 20) (v := .int (σ 10 0)) C h.1 0 (eW_c0 _ _ _) fl_X0_43 rfl dX0_openNext_20 ?_
    refine lv_icmp_ge (pc := 23) (tgt := 49) hx hb dX0_openNext_23 (by decide) (fun c9 => ?_) (fun c9 => ?_)
    · have hf := ifT c9 hf
      have hf : some (σ, x3) = some z := hf
      cases hf
      exact kk _ _ _ h (lv_sub hl [0, 1, 2, 3] rfl)
    · have hf := ifF c9 hf
      refine lv_iload_n (pc := 26) hx hb dX0_openNext_26 rfl (lv_at hl 2 rfl) ?_
      refine lv_iload_n (pc := 27) hx hb dX0_openNext_27 rfl (lv_at hl 3 rfl) ?_
      refine call_has (pc := 28) (rest := []) C h (k_X4_has x2 x3 rfl) hw_has hl.1 (Nat.le_of_ble_eq_true rfl) dX0_openNext_28 ⟨Nat.le_of_ble_eq_true rfl, Nat.le_of_ble_eq_true rfl⟩ rfl rfl ⟨Nat.le_of_ble_eq_true rfl, Nat.le_of_ble_eq_true rfl⟩ (fun H locs h => ?_)
      refine W.eq (g2 := F0 m 31 ls [.int (f_X4_has x2 x3)]) rfl ?_
      refine lv_if_eq (pc := 31) (tgt := 43) hx hb dX0_openNext_31 (by decide) (fun c9 => ?_) (fun c9 => ?_)
      · have hf := ifT c9 hf
        refine lv_iinc (pc := 43) (v := (x3 + (1 : Int32))) (lv' := [(3, .int (x3 + (1 : Int32))), (0, .ref (q 0)), (1, .int x1), (2, .int x2)]) hx hb dX0_openNext_43 hl (k := 3) rfl rfl (by decide) rfl (fun ls hl => ?_)
        refine lv_goto (pc := 46) (tgt := 18) hx hb dX0_openNext_46 (by decide) ?_
        exact ih _ _ _ _ _ hf _ _ _ h (lv_sub hl [1, 2, 3, 0] rfl) kk
      · have hf := ifF c9 hf
        refine lv_aload_n (pc := 34) hx hb dX0_openNext_34 rfl (lv_at hl 0 rfl) ?_
        refine g_get (pc := 35) (v := .ref (q 4)) C h.1 0 (eW_c0 _ _ _) fl_X0_26 rfl dX0_openNext_35 ?_
        refine lv_iload_n (pc := 38) hx hb dX0_openNext_38 rfl (lv_at hl 3 rfl) ?_
        refine lv_iload_n (pc := 39) hx hb dX0_openNext_39 rfl (lv_at hl 1 rfl) ?_
        obtain ⟨t2, et2, hf⟩ := ltS hf
        refine call_rset (pc := 40) (rest := []) (ws' := (eW q cA t2)) C h (by decide) (by decide) (eW_c4 _ _ _) (eW_c9 _ _ _) ((eW_w9 _ _ _ _).trans (congrArg (eW q cA) et2.symm)) cw_X0_60 hl.1 (Nat.le_of_ble_eq_true rfl) dX0_openNext_40 ⟨Nat.le_of_ble_eq_true rfl, Nat.le_of_ble_eq_true rfl⟩ rfl rfl ⟨Nat.le_of_ble_eq_true rfl, Nat.le_of_ble_eq_true rfl⟩ (fun H locs h => ?_)
        refine lv_iinc (pc := 43) (v := (x3 + (1 : Int32))) (lv' := [(3, .int (x3 + (1 : Int32))), (0, .ref (q 0)), (1, .int x1), (2, .int x2)]) hx hb dX0_openNext_43 hl (k := 3) rfl rfl (by decide) rfl (fun ls hl => ?_)
        refine lv_goto (pc := 46) (tgt := 18) hx hb dX0_openNext_46 (by decide) ?_
        exact ih _ _ _ _ _ hf _ _ _ h (lv_sub hl [1, 2, 3, 0] rfl) kk
set_option maxHeartbeats 400000 in
set_option maxRecDepth 100000 in
theorem k_X0_openNext {q : Nat → Nat} {cA : Nat → ClassId} {D : va_G} (σ : Nat → Nat → Int32) (x1 : Int32) {z : Int32 × (Nat → Nat → Int32)} (hf : f_X0_openNext σ x1 = some z) : CtU yX0_openNext cX0_openNext 4 (some .int) rm_X0_openNext [.ref (q 0), .int x1] D cA (eW q cA σ) (eW q cA z.2) (some (.int z.1)) 0 0 := by
  refine ctU_of (by decide) (Nat.le_of_ble_eq_true rfl) ?_
  intro p l e s m below meth c ls C hr hnm h hl
  have C : Cx p s m _ meth c cX0_openNext 4 RX0 D cA := C
  obtain ⟨hx, hb, hml, hown, hts, hK, hlk⟩ := id C
  replace hl : lv_has ls 4 [(0, .ref (q 0)), (1, .int x1)] := hl
  rw [f_X0_openNext] at hf
  refine lv_aload_n (pc := 0) hx hb dX0_openNext_0 rfl (lv_at hl 0 rfl) ?_
  refine lv_aload_n (pc := 1) hx hb dX0_openNext_1 rfl (lv_at hl 0 rfl) ?_
  refine g_get (pc := 2) (v := .int (σ 15 0)) C h.1 0 (eW_c0 _ _ _) fl_X0_81 rfl dX0_openNext_2 ?_
  obtain ⟨z1, hc1, hf⟩ := bdS hf
  refine call_VRs (pc := 5) (As := [.int (σ 15 0)]) (rest := []) C h (k_X0_nextBehind σ (σ 15 0) hc1) cw_X0_68 0 (eW_c0 _ _ _) rfl rfl rfl hl.1 (Nat.le_of_ble_eq_true rfl) dX0_openNext_5 ⟨Nat.le_of_ble_eq_true rfl, Nat.le_of_ble_eq_true rfl⟩ rfl rfl ⟨Nat.le_of_ble_eq_true rfl, Nat.le_of_ble_eq_true rfl⟩ (fun H locs h => ?_)
  refine W.eq (g2 := F0 m 8 ls [.int z1]) rfl ?_
  refine lv_aload_n (pc := 8) hx hb dX0_openNext_8 rfl (lv_at hl 0 rfl) ?_
  refine g_get (pc := 9) (v := .int (σ 16 0)) C h.1 0 (eW_c0 _ _ _) fl_X0_84 rfl dX0_openNext_9 ?_
  refine lv_iconst (pc := 12) (v := -1) hx hb dX0_openNext_12 (by decide) ?_
  refine lv_ixor (pc := 13) hx hb dX0_openNext_13 ?_
  refine lv_iand (pc := 14) hx hb dX0_openNext_14 ?_
  refine lv_istore_n (pc := 15) (lv' := [(2, .int (z1 &&& ((σ 16 0) ^^^ (-1 : Int32)))), (0, .ref (q 0)), (1, .int x1)]) hx hb dX0_openNext_15 rfl hl (by decide) rfl (fun ls hl => ?_)
  refine lv_iconst (pc := 16) (v := 0) hx hb dX0_openNext_16 (by decide) ?_
  refine lv_istore_n (pc := 17) (lv' := [(3, .int (0 : Int32)), (2, .int (z1 &&& ((σ 16 0) ^^^ (-1 : Int32)))), (0, .ref (q 0)), (1, .int x1)]) hx hb dX0_openNext_17 rfl hl (by decide) rfl (fun ls hl => ?_)
  obtain ⟨z2, hc2, hf⟩ := bdS hf
  refine l_X0_openNext_18 C _ _ _ _ _ _ hc2 _ _ _ h (lv_sub hl [2, 3, 1, 0] rfl) (fun H locs ls h hl => ?_)
  refine lv_aload_n (pc := 49) hx hb dX0_openNext_49 rfl (lv_at hl 0 rfl) ?_
  refine lv_dup (pc := 50) hx hb dX0_openNext_50 rfl ?_
  refine g_get (pc := 51) (v := .int (z2.1 16 0)) C h.1 0 (eW_c0 _ _ _) fl_X0_84 rfl dX0_openNext_51 ?_
  refine lv_iload_n (pc := 54) hx hb dX0_openNext_54 rfl (lv_at hl 2 rfl) ?_
  refine lv_ior (pc := 55) hx hb dX0_openNext_55 ?_
  obtain ⟨t3, et3, hf⟩ := ltS hf
  refine g_puti (pc := 56) (v := ((z2.1 16 0) ||| (z1 &&& ((σ 16 0) ^^^ (-1 : Int32))))) (ws' := (eW q cA t3)) C h 0 (eW_c0 _ _ _) fp_X0_84 (Nat.le_of_ble_eq_true rfl) ((eW_w0_12 _ _ _ _).trans (congrArg (eW q cA) et3.symm)) dX0_openNext_56 (fun H locs h => ?_)
  refine lv_iload_n (pc := 59) hx hb dX0_openNext_59 rfl (lv_at hl 2 rfl) ?_
  refine call_SR (pc := 60) (As := [.int (z1 &&& ((σ 16 0) ^^^ (-1 : Int32)))]) (rest := []) (wc := []) C h (k_J6_bitCount_0f7a4 (z1 &&& ((σ 16 0) ^^^ (-1 : Int32))) rfl) cw_X0_87 [] rfl rfl rfl rfl hl.1 (Nat.le_of_ble_eq_true rfl) dX0_openNext_60 ⟨Nat.le_of_ble_eq_true rfl, Nat.le_of_ble_eq_true rfl⟩ rfl rfl ⟨Nat.le_of_ble_eq_true rfl, Nat.le_of_ble_eq_true rfl⟩ (fun H locs h => ?_)
  refine W.eq (g2 := F0 m 63 ls [.int (f_J6_bitCount_0f7a4 (z1 &&& ((σ 16 0) ^^^ (-1 : Int32))))]) rfl ?_
  have hf : (some ((f_J6_bitCount_0f7a4 (z1 &&& ((σ 16 0) ^^^ (-1 : Int32)))), t3)) = some z := hf
  cases hf
  exact ret_iU (pc := 63) C hr h dX0_openNext_63
end
