section
variable {p : Program} {l : Launch} {e : Env} {R : Room} {s : State} {m : MethodId} {args : Array Value} {below : List Frame} {meth : Method} {c : Code} {Q : State → Prop}
variable {D : va_G} {cA : Nat → ClassId} {A : Nat → Prop} {q : Nat → Nat}
abbrev rm_X5_thrown : Room := { frames := 0, cells := 0, slots := 0, locals := 0 }
def f_X5_thrown (σ : Nat → Nat → Int32) : Int32 := (σ 24 0)
set_option maxHeartbeats 400000 in
set_option maxRecDepth 100000 in
theorem k_X5_thrown {q : Nat → Nat} {cA : Nat → ClassId} {D : va_G} (σ : Nat → Nat → Int32) {z : Int32} (hf : f_X5_thrown σ = z) : CtR yX5_thrown cX5_thrown 1 (some .int) rm_X5_thrown [.ref (q 0)] D cA (mW q cA σ) (some (.int z)) 0 0 := by
  refine ctR_of (by decide) (Nat.le_of_ble_eq_true rfl) ?_
  intro p l e s m below meth c ls C hr hnm h hl
  have C : Cx p s m _ meth c cX5_thrown 1 RX5 D cA := C
  obtain ⟨hx, hb, hml, hown, hts, hK, hlk⟩ := id C
  replace hl : lv_has ls 1 [(0, .ref (q 0))] := hl
  rw [f_X5_thrown] at hf
  refine lv_aload_n (pc := 0) hx hb dX5_thrown_0 rfl (lv_at hl 0 rfl) ?_
  refine g_get (pc := 1) (v := .int (σ 24 0)) C h.1 0 (mW_c0 _ _ _) fl_X5_67 rfl dX5_thrown_1 ?_
  have hf : (σ 24 0) = z := hf
  subst hf
  exact ret_iR (pc := 4) C hr h dX5_thrown_4
abbrev rm_X5_in : Room := { frames := 0, cells := 0, slots := 0, locals := 0 }
def f_X5_in (x0 x1 x2 : Int32) : Int32 := (if x0 < x1 then (0 : Int32) else (if x2 < x0 then (0 : Int32) else (1 : Int32)))
set_option maxHeartbeats 400000 in
set_option maxRecDepth 100000 in
theorem k_X5_in {cA : Nat → ClassId} {D : va_G} (x0 x1 x2 : Int32) {z : Int32} (hf : f_X5_in x0 x1 x2 = z) : CtR yX5_in cX5_in 3 (some .boolean) rm_X5_in [.int x0, .int x1, .int x2] D cA [] (some (.int z)) 0 0 := by
  refine ctR_of (by decide) (Nat.le_of_ble_eq_true rfl) ?_
  intro p l e s m below meth c ls C hr hnm h hl
  have C : Cx p s m _ meth c cX5_in 3 RX5 D cA := C
  obtain ⟨hx, hb, hml, hown, hts, hK, hlk⟩ := id C
  replace hl : lv_has ls 3 [(0, .int x0), (1, .int x1), (2, .int x2)] := hl
  rw [f_X5_in] at hf
  refine lv_iload_n (pc := 0) hx hb dX5_in_0 rfl (lv_at hl 0 rfl) ?_
  refine lv_iload_n (pc := 1) hx hb dX5_in_1 rfl (lv_at hl 1 rfl) ?_
  refine lv_icmp_lt (pc := 2) (tgt := 14) hx hb dX5_in_2 (by decide) (fun c9 => ?_) (fun c9 => ?_)
  · have hf := ifT c9 hf
    refine lv_iconst (pc := 14) (v := 0) hx hb dX5_in_14 (by decide) ?_
    have hf : (0 : Int32) = z := hf
    subst hf
    exact ret_zR (pc := 15) C hr nb0 h dX5_in_15
  · have hf := ifF c9 hf
    refine lv_iload_n (pc := 5) hx hb dX5_in_5 rfl (lv_at hl 0 rfl) ?_
    refine lv_iload_n (pc := 6) hx hb dX5_in_6 rfl (lv_at hl 2 rfl) ?_
    refine lv_icmp_gt (pc := 7) (tgt := 14) hx hb dX5_in_7 (by decide) (fun c9 => ?_) (fun c9 => ?_)
    · have hf := ifT c9 hf
      refine lv_iconst (pc := 14) (v := 0) hx hb dX5_in_14 (by decide) ?_
      have hf : (0 : Int32) = z := hf
      subst hf
      exact ret_zR (pc := 15) C hr nb0 h dX5_in_15
    · have hf := ifF c9 hf
      refine lv_iconst (pc := 10) (v := 1) hx hb dX5_in_10 (by decide) ?_
      refine lv_goto (pc := 11) (tgt := 15) hx hb dX5_in_11 (by decide) ?_
      have hf : (1 : Int32) = z := hf
      subst hf
      exact ret_zR (pc := 15) C hr nb1 h dX5_in_15
theorem nb_X5_in {x0 x1 x2 : Int32} {z : Int32} (hf : f_X5_in x0 x1 x2 = z) : narrow .boolean (.int z) = .int z := by
  rw [f_X5_in] at hf
  by_cases c9 : x0 < x1
  · have hf := ifT c9 hf
    have hf : ((0 : Int32)) = z := hf
    subst hf
    exact nb0
  · have hf := ifF c9 hf
    by_cases c9 : x2 < x0
    · have hf := ifT c9 hf
      have hf : ((0 : Int32)) = z := hf
      subst hf
      exact nb0
    · have hf := ifF c9 hf
      have hf : ((1 : Int32)) = z := hf
      subst hf
      exact nb1
abbrev rm_X5_goes : Room := { frames := 0, cells := 0, slots := 0, locals := 0 }
def f_X5_goes (σ : Nat → Nat → Int32) (x1 x2 x3 : Int32) : Int32 × (Nat → Nat → Int32) := (if x1 = 0 then (lt (va_up σ 24 (fun _ => (1 : Int32))) fun t1 => (if (t1 24 0) = 0 then ((1 : Int32), t1) else ((0 : Int32), t1))) else (if x2 = 0 then (lt (va_up σ 24 (fun _ => (2 : Int32))) fun t1 => (if (t1 24 0) = 0 then ((1 : Int32), t1) else ((0 : Int32), t1))) else (if x3 = 0 then (lt (va_up σ 24 (fun _ => (3 : Int32))) fun t1 => (if (t1 24 0) = 0 then ((1 : Int32), t1) else ((0 : Int32), t1))) else (lt (va_up σ 24 (fun _ => (0 : Int32))) fun t1 => (if (t1 24 0) = 0 then ((1 : Int32), t1) else ((0 : Int32), t1))))))
set_option maxHeartbeats 400000 in
set_option maxRecDepth 100000 in
theorem k_X5_goes {q : Nat → Nat} {cA : Nat → ClassId} {D : va_G} (σ : Nat → Nat → Int32) (x1 x2 x3 : Int32) {z : Int32 × (Nat → Nat → Int32)} (hf : f_X5_goes σ x1 x2 x3 = z) : CtU yX5_goes cX5_goes 4 (some .boolean) rm_X5_goes [.ref (q 0), .int x1, .int x2, .int x3] D cA (mW q cA σ) (mW q cA z.2) (some (.int z.1)) 0 0 := by
  refine ctU_of (by decide) (Nat.le_of_ble_eq_true rfl) ?_
  intro p l e s m below meth c ls C hr hnm h hl
  have C : Cx p s m _ meth c cX5_goes 4 RX5 D cA := C
  obtain ⟨hx, hb, hml, hown, hts, hK, hlk⟩ := id C
  replace hl : lv_has ls 4 [(0, .ref (q 0)), (1, .int x1), (2, .int x2), (3, .int x3)] := hl
  rw [f_X5_goes] at hf
  refine lv_aload_n (pc := 0) hx hb dX5_goes_0 rfl (lv_at hl 0 rfl) ?_
  refine lv_iload_n (pc := 1) hx hb dX5_goes_1 rfl (lv_at hl 1 rfl) ?_
  refine lv_if_ne (pc := 2) (tgt := 9) hx hb dX5_goes_2 (by decide) (fun c9 => ?_) (fun c9 => ?_)
  · have hf := ifF c9 hf
    refine lv_iload_n (pc := 9) hx hb dX5_goes_9 rfl (lv_at hl 2 rfl) ?_
    refine lv_if_ne (pc := 10) (tgt := 17) hx hb dX5_goes_10 (by decide) (fun c9 => ?_) (fun c9 => ?_)
    · have hf := ifF c9 hf
      refine lv_iload_n (pc := 17) hx hb dX5_goes_17 rfl (lv_at hl 3 rfl) ?_
      refine lv_if_ne (pc := 18) (tgt := 25) hx hb dX5_goes_18 (by decide) (fun c9 => ?_) (fun c9 => ?_)
      · have hf := ifF c9 hf
        refine lv_iconst (pc := 25) (v := 0) hx hb dX5_goes_25 (by decide) ?_
        obtain ⟨t1, et1, hf⟩ := ltS hf
        refine g_puti (pc := 26) (v := (0 : Int32)) (ws' := (mW q cA t1)) C h 0 (mW_c0 _ _ _) fp_X5_67 (Nat.le_of_ble_eq_true rfl) ((mW_w0_24 _ _ _ _).trans (congrArg (mW q cA) et1.symm)) dX5_goes_26 (fun H locs h => ?_)
        refine lv_aload_n (pc := 29) hx hb dX5_goes_29 rfl (lv_at hl 0 rfl) ?_
        refine g_get (pc := 30) (v := .int (t1 24 0)) C h.1 0 (mW_c0 _ _ _) fl_X5_67 rfl dX5_goes_30 ?_
        refine lv_if_ne (pc := 33) (tgt := 40) hx hb dX5_goes_33 (by decide) (fun c9 => ?_) (fun c9 => ?_)
        · have hf := ifF c9 hf
          refine lv_iconst (pc := 40) (v := 0) hx hb dX5_goes_40 (by decide) ?_
          have hf : ((0 : Int32), t1) = z := hf
          subst hf
          exact ret_zU (pc := 41) C hr nb0 h dX5_goes_41
        · have hf := ifT c9 hf
          refine lv_iconst (pc := 36) (v := 1) hx hb dX5_goes_36 (by decide) ?_
          refine lv_goto (pc := 37) (tgt := 41) hx hb dX5_goes_37 (by decide) ?_
          have hf : ((1 : Int32), t1) = z := hf
          subst hf
          exact ret_zU (pc := 41) C hr nb1 h dX5_goes_41
      · have hf := ifT c9 hf
        refine lv_iconst (pc := 21) (v := 3) hx hb dX5_goes_21 (by decide) ?_
        refine lv_goto (pc := 22) (tgt := 26) hx hb dX5_goes_22 (by decide) ?_
        obtain ⟨t1, et1, hf⟩ := ltS hf
        refine g_puti (pc := 26) (v := (3 : Int32)) (ws' := (mW q cA t1)) C h 0 (mW_c0 _ _ _) fp_X5_67 (Nat.le_of_ble_eq_true rfl) ((mW_w0_24 _ _ _ _).trans (congrArg (mW q cA) et1.symm)) dX5_goes_26 (fun H locs h => ?_)
        refine lv_aload_n (pc := 29) hx hb dX5_goes_29 rfl (lv_at hl 0 rfl) ?_
        refine g_get (pc := 30) (v := .int (t1 24 0)) C h.1 0 (mW_c0 _ _ _) fl_X5_67 rfl dX5_goes_30 ?_
        refine lv_if_ne (pc := 33) (tgt := 40) hx hb dX5_goes_33 (by decide) (fun c9 => ?_) (fun c9 => ?_)
        · have hf := ifF c9 hf
          refine lv_iconst (pc := 40) (v := 0) hx hb dX5_goes_40 (by decide) ?_
          have hf : ((0 : Int32), t1) = z := hf
          subst hf
          exact ret_zU (pc := 41) C hr nb0 h dX5_goes_41
        · have hf := ifT c9 hf
          refine lv_iconst (pc := 36) (v := 1) hx hb dX5_goes_36 (by decide) ?_
          refine lv_goto (pc := 37) (tgt := 41) hx hb dX5_goes_37 (by decide) ?_
          have hf : ((1 : Int32), t1) = z := hf
          subst hf
          exact ret_zU (pc := 41) C hr nb1 h dX5_goes_41
    · have hf := ifT c9 hf
      refine lv_iconst (pc := 13) (v := 2) hx hb dX5_goes_13 (by decide) ?_
      refine lv_goto (pc := 14) (tgt := 26) hx hb dX5_goes_14 (by decide) ?_
      obtain ⟨t1, et1, hf⟩ := ltS hf
      refine g_puti (pc := 26) (v := (2 : Int32)) (ws' := (mW q cA t1)) C h 0 (mW_c0 _ _ _) fp_X5_67 (Nat.le_of_ble_eq_true rfl) ((mW_w0_24 _ _ _ _).trans (congrArg (mW q cA) et1.symm)) dX5_goes_26 (fun H locs h => ?_)
      refine lv_aload_n (pc := 29) hx hb dX5_goes_29 rfl (lv_at hl 0 rfl) ?_
      refine g_get (pc := 30) (v := .int (t1 24 0)) C h.1 0 (mW_c0 _ _ _) fl_X5_67 rfl dX5_goes_30 ?_
      refine lv_if_ne (pc := 33) (tgt := 40) hx hb dX5_goes_33 (by decide) (fun c9 => ?_) (fun c9 => ?_)
      · have hf := ifF c9 hf
        refine lv_iconst (pc := 40) (v := 0) hx hb dX5_goes_40 (by decide) ?_
        have hf : ((0 : Int32), t1) = z := hf
        subst hf
        exact ret_zU (pc := 41) C hr nb0 h dX5_goes_41
      · have hf := ifT c9 hf
        refine lv_iconst (pc := 36) (v := 1) hx hb dX5_goes_36 (by decide) ?_
        refine lv_goto (pc := 37) (tgt := 41) hx hb dX5_goes_37 (by decide) ?_
        have hf : ((1 : Int32), t1) = z := hf
        subst hf
        exact ret_zU (pc := 41) C hr nb1 h dX5_goes_41
  · have hf := ifT c9 hf
    refine lv_iconst (pc := 5) (v := 1) hx hb dX5_goes_5 (by decide) ?_
    refine lv_goto (pc := 6) (tgt := 26) hx hb dX5_goes_6 (by decide) ?_
    obtain ⟨t1, et1, hf⟩ := ltS hf
    refine g_puti (pc := 26) (v := (1 : Int32)) (ws' := (mW q cA t1)) C h 0 (mW_c0 _ _ _) fp_X5_67 (Nat.le_of_ble_eq_true rfl) ((mW_w0_24 _ _ _ _).trans (congrArg (mW q cA) et1.symm)) dX5_goes_26 (fun H locs h => ?_)
    refine lv_aload_n (pc := 29) hx hb dX5_goes_29 rfl (lv_at hl 0 rfl) ?_
    refine g_get (pc := 30) (v := .int (t1 24 0)) C h.1 0 (mW_c0 _ _ _) fl_X5_67 rfl dX5_goes_30 ?_
    refine lv_if_ne (pc := 33) (tgt := 40) hx hb dX5_goes_33 (by decide) (fun c9 => ?_) (fun c9 => ?_)
    · have hf := ifF c9 hf
      refine lv_iconst (pc := 40) (v := 0) hx hb dX5_goes_40 (by decide) ?_
      have hf : ((0 : Int32), t1) = z := hf
      subst hf
      exact ret_zU (pc := 41) C hr nb0 h dX5_goes_41
    · have hf := ifT c9 hf
      refine lv_iconst (pc := 36) (v := 1) hx hb dX5_goes_36 (by decide) ?_
      refine lv_goto (pc := 37) (tgt := 41) hx hb dX5_goes_37 (by decide) ?_
      have hf : ((1 : Int32), t1) = z := hf
      subst hf
      exact ret_zU (pc := 41) C hr nb1 h dX5_goes_41
theorem nb_X5_goes {σ : Nat → Nat → Int32} {x1 x2 x3 : Int32} {z : Int32 × (Nat → Nat → Int32)} (hf : f_X5_goes σ x1 x2 x3 = z) : narrow .boolean (.int z.1) = .int z.1 := by
  rw [f_X5_goes] at hf
  by_cases c9 : x1 = 0
  · have hf := ifT c9 hf
    obtain ⟨t1, _, hf⟩ := ltS hf
    by_cases c9 : (t1 24 0) = 0
    · have hf := ifT c9 hf
      have hf : ((1 : Int32), t1) = z := hf
      subst hf
      exact nb1
    · have hf := ifF c9 hf
      have hf : ((0 : Int32), t1) = z := hf
      subst hf
      exact nb0
  · have hf := ifF c9 hf
    by_cases c9 : x2 = 0
    · have hf := ifT c9 hf
      obtain ⟨t1, _, hf⟩ := ltS hf
      by_cases c9 : (t1 24 0) = 0
      · have hf := ifT c9 hf
        have hf : ((1 : Int32), t1) = z := hf
        subst hf
        exact nb1
      · have hf := ifF c9 hf
        have hf : ((0 : Int32), t1) = z := hf
        subst hf
        exact nb0
    · have hf := ifF c9 hf
      by_cases c9 : x3 = 0
      · have hf := ifT c9 hf
        obtain ⟨t1, _, hf⟩ := ltS hf
        by_cases c9 : (t1 24 0) = 0
        · have hf := ifT c9 hf
          have hf : ((1 : Int32), t1) = z := hf
          subst hf
          exact nb1
        · have hf := ifF c9 hf
          have hf : ((0 : Int32), t1) = z := hf
          subst hf
          exact nb0
      · have hf := ifF c9 hf
        obtain ⟨t1, _, hf⟩ := ltS hf
        by_cases c9 : (t1 24 0) = 0
        · have hf := ifT c9 hf
          have hf : ((1 : Int32), t1) = z := hf
          subst hf
          exact nb1
        · have hf := ifF c9 hf
          have hf : ((0 : Int32), t1) = z := hf
          subst hf
          exact nb0
abbrev rm_X5_told : Room := { frames := 0, cells := 0, slots := 0, locals := 0 }
def f_X5_told (σ : Nat → Nat → Int32) (x1 : Int32) : Int32 × (Nat → Nat → Int32) := (lt (va_up σ 24 (fun _ => (0 : Int32))) fun t1 => (x1, t1))
set_option maxHeartbeats 400000 in
set_option maxRecDepth 100000 in
theorem k_X5_told {q : Nat → Nat} {cA : Nat → ClassId} {D : va_G} (σ : Nat → Nat → Int32) (x1 : Int32) {z : Int32 × (Nat → Nat → Int32)} (hf : f_X5_told σ x1 = z) : CtU yX5_told cX5_told 2 (some .int) rm_X5_told [.ref (q 0), .int x1] D cA (mW q cA σ) (mW q cA z.2) (some (.int z.1)) 0 0 := by
  refine ctU_of (by decide) (Nat.le_of_ble_eq_true rfl) ?_
  intro p l e s m below meth c ls C hr hnm h hl
  have C : Cx p s m _ meth c cX5_told 2 RX5 D cA := C
  obtain ⟨hx, hb, hml, hown, hts, hK, hlk⟩ := id C
  replace hl : lv_has ls 2 [(0, .ref (q 0)), (1, .int x1)] := hl
  rw [f_X5_told] at hf
  refine lv_aload_n (pc := 0) hx hb dX5_told_0 rfl (lv_at hl 0 rfl) ?_
  refine lv_iconst (pc := 1) (v := 0) hx hb dX5_told_1 (by decide) ?_
  obtain ⟨t1, et1, hf⟩ := ltS hf
  refine g_puti (pc := 2) (v := (0 : Int32)) (ws' := (mW q cA t1)) C h 0 (mW_c0 _ _ _) fp_X5_67 (Nat.le_of_ble_eq_true rfl) ((mW_w0_24 _ _ _ _).trans (congrArg (mW q cA) et1.symm)) dX5_told_2 (fun H locs h => ?_)
  refine lv_iload_n (pc := 5) hx hb dX5_told_5 rfl (lv_at hl 1 rfl) ?_
  have hf : (x1, t1) = z := hf
  subst hf
  exact ret_iU (pc := 6) C hr h dX5_told_6
abbrev rm_X5_isPerson : Room := { frames := 1, cells := 0, slots := 0, locals := 22 }
def f_X5_isPerson (x0 : Int32) : Int32 := (f_X5_in x0 (0 : Int32) (7 : Int32))
set_option maxHeartbeats 400000 in
set_option maxRecDepth 100000 in
theorem k_X5_isPerson {cA : Nat → ClassId} {D : va_G} (x0 : Int32) {z : Int32} (hf : f_X5_isPerson x0 = z) : CtR yX5_isPerson cX5_isPerson 1 (some .boolean) rm_X5_isPerson [.int x0] D cA [] (some (.int z)) 0 0 := by
  refine ctR_of (by decide) (Nat.le_of_ble_eq_true rfl) ?_
  intro p l e s m below meth c ls C hr hnm h hl
  have C : Cx p s m _ meth c cX5_isPerson 1 RX5 D cA := C
  obtain ⟨hx, hb, hml, hown, hts, hK, hlk⟩ := id C
  replace hl : lv_has ls 1 [(0, .int x0)] := hl
  rw [f_X5_isPerson] at hf
  refine lv_iload_n (pc := 0) hx hb dX5_isPerson_0 rfl (lv_at hl 0 rfl) ?_
  refine lv_iconst (pc := 1) (v := 0) hx hb dX5_isPerson_1 (by decide) ?_
  refine lv_bipush (pc := 2) (v := 7) hx hb dX5_isPerson_2 (by decide) ?_
  refine call_SRR (pc := 4) (As := [.int x0, .int (0 : Int32), .int (7 : Int32)]) (rest := []) (wc := []) C h (k_X5_in x0 (0 : Int32) (7 : Int32) rfl) cw_X5_71 [] rfl rfl rfl rfl hl.1 (Nat.le_of_ble_eq_true rfl) dX5_isPerson_4 ⟨Nat.le_of_ble_eq_true rfl, Nat.le_of_ble_eq_true rfl⟩ rfl rfl ⟨Nat.le_of_ble_eq_true rfl, Nat.le_of_ble_eq_true rfl⟩ (fun H locs h => ?_)
  refine W.eq (g2 := F0 m 7 ls [.int (f_X5_in x0 (0 : Int32) (7 : Int32))]) rfl ?_
  have hf : (f_X5_in x0 (0 : Int32) (7 : Int32)) = z := hf
  subst hf
  exact ret_zR (pc := 7) C hr (nb_X5_in rfl) h dX5_isPerson_7
theorem nb_X5_isPerson {x0 : Int32} {z : Int32} (hf : f_X5_isPerson x0 = z) : narrow .boolean (.int z) = .int z := by
  rw [f_X5_isPerson] at hf
  have hf : (f_X5_in x0 (0 : Int32) (7 : Int32)) = z := hf
  subst hf
  exact (nb_X5_in rfl)
abbrev rm_X5_isEnvelope : Room := { frames := 1, cells := 0, slots := 0, locals := 22 }
def f_X5_isEnvelope (σ : Nat → Nat → Int32) (x1 : Int32) : Int32 := (f_X5_in x1 (0 : Int32) ((σ 1 0) - (1 : Int32)))
set_option maxHeartbeats 400000 in
set_option maxRecDepth 100000 in
theorem k_X5_isEnvelope {q : Nat → Nat} {cA : Nat → ClassId} {D : va_G} (σ : Nat → Nat → Int32) (x1 : Int32) {z : Int32} (hf : f_X5_isEnvelope σ x1 = z) : CtR yX5_isEnvelope cX5_isEnvelope 2 (some .boolean) rm_X5_isEnvelope [.ref (q 0), .int x1] D cA (mW q cA σ) (some (.int z)) 0 0 := by
  refine ctR_of (by decide) (Nat.le_of_ble_eq_true rfl) ?_
  intro p l e s m below meth c ls C hr hnm h hl
  have C : Cx p s m _ meth c cX5_isEnvelope 2 RX5 D cA := C
  obtain ⟨hx, hb, hml, hown, hts, hK, hlk⟩ := id C
  replace hl : lv_has ls 2 [(0, .ref (q 0)), (1, .int x1)] := hl
  rw [f_X5_isEnvelope] at hf
  refine lv_iload_n (pc := 0) hx hb dX5_isEnvelope_0 rfl (lv_at hl 1 rfl) ?_
  refine lv_iconst (pc := 1) (v := 0) hx hb dX5_isEnvelope_1 (by decide) ?_
  refine lv_aload_n (pc := 2) hx hb dX5_isEnvelope_2 rfl (lv_at hl 0 rfl) ?_
  refine g_get (pc := 3) (v := .int (σ 1 0)) C h.1 0 (mW_c0 _ _ _) fl_X5_75 rfl dX5_isEnvelope_3 ?_
  refine lv_iconst (pc := 6) (v := 1) hx hb dX5_isEnvelope_6 (by decide) ?_
  refine lv_isub (pc := 7) hx hb dX5_isEnvelope_7 ?_
  refine call_SRR (pc := 8) (As := [.int x1, .int (0 : Int32), .int ((σ 1 0) - (1 : Int32))]) (rest := []) (wc := []) C h (k_X5_in x1 (0 : Int32) ((σ 1 0) - (1 : Int32)) rfl) cw_X5_71 [] rfl rfl rfl rfl hl.1 (Nat.le_of_ble_eq_true rfl) dX5_isEnvelope_8 ⟨Nat.le_of_ble_eq_true rfl, Nat.le_of_ble_eq_true rfl⟩ rfl rfl ⟨Nat.le_of_ble_eq_true rfl, Nat.le_of_ble_eq_true rfl⟩ (fun H locs h => ?_)
  refine W.eq (g2 := F0 m 11 ls [.int (f_X5_in x1 (0 : Int32) ((σ 1 0) - (1 : Int32)))]) rfl ?_
  have hf : (f_X5_in x1 (0 : Int32) ((σ 1 0) - (1 : Int32))) = z := hf
  subst hf
  exact ret_zR (pc := 11) C hr (nb_X5_in rfl) h dX5_isEnvelope_11
theorem nb_X5_isEnvelope {σ : Nat → Nat → Int32} {x1 : Int32} {z : Int32} (hf : f_X5_isEnvelope σ x1 = z) : narrow .boolean (.int z) = .int z := by
  rw [f_X5_isEnvelope] at hf
  have hf : (f_X5_in x1 (0 : Int32) ((σ 1 0) - (1 : Int32))) = z := hf
  subst hf
  exact (nb_X5_in rfl)
abbrev rm_X5_isSlot : Room := { frames := 2, cells := 0, slots := 0, locals := 43 }
def f_X5_isSlot (σ : Nat → Nat → Int32) (x1 x2 : Int32) : Option (Int32) := (if (f_X5_isEnvelope σ x1) = 0 then (some (0 : Int32)) else (if inb x1 6 then (if (f_X5_in x2 (0 : Int32) (((σ 2) x1.toNatClampNeg) - (1 : Int32))) = 0 then (some (0 : Int32)) else (some (1 : Int32))) else none))
set_option maxHeartbeats 400000 in
set_option maxRecDepth 100000 in
theorem k_X5_isSlot {q : Nat → Nat} {cA : Nat → ClassId} {D : va_G} (σ : Nat → Nat → Int32) (x1 x2 : Int32) {z : Int32} (hf : f_X5_isSlot σ x1 x2 = some z) : CtR yX5_isSlot cX5_isSlot 3 (some .boolean) rm_X5_isSlot [.ref (q 0), .int x1, .int x2] D cA (mW q cA σ) (some (.int z)) 0 0 := by
  refine ctR_of (by decide) (Nat.le_of_ble_eq_true rfl) ?_
  intro p l e s m below meth c ls C hr hnm h hl
  have C : Cx p s m _ meth c cX5_isSlot 3 RX5 D cA := C
  obtain ⟨hx, hb, hml, hown, hts, hK, hlk⟩ := id C
  replace hl : lv_has ls 3 [(0, .ref (q 0)), (1, .int x1), (2, .int x2)] := hl
  rw [f_X5_isSlot] at hf
  refine lv_aload_n (pc := 0) hx hb dX5_isSlot_0 rfl (lv_at hl 0 rfl) ?_
  refine lv_iload_n (pc := 1) hx hb dX5_isSlot_1 rfl (lv_at hl 1 rfl) ?_
  refine call_VRsR (pc := 2) (As := [.int x1]) (rest := []) C h (k_X5_isEnvelope σ x1 rfl) cw_X5_78 0 (mW_c0 _ _ _) rfl rfl rfl hl.1 (Nat.le_of_ble_eq_true rfl) dX5_isSlot_2 ⟨Nat.le_of_ble_eq_true rfl, Nat.le_of_ble_eq_true rfl⟩ rfl rfl ⟨Nat.le_of_ble_eq_true rfl, Nat.le_of_ble_eq_true rfl⟩ (fun H locs h => ?_)
  refine W.eq (g2 := F0 m 5 ls [.int (f_X5_isEnvelope σ x1)]) rfl ?_
  refine lv_if_eq (pc := 5) (tgt := 28) hx hb dX5_isSlot_5 (by decide) (fun c9 => ?_) (fun c9 => ?_)
  · have hf := ifT c9 hf
    refine lv_iconst (pc := 28) (v := 0) hx hb dX5_isSlot_28 (by decide) ?_
    have hf : (some (0 : Int32)) = some z := hf
    cases hf
    exact ret_zR (pc := 29) C hr nb0 h dX5_isSlot_29
  · have hf := ifF c9 hf
    refine lv_iload_n (pc := 8) hx hb dX5_isSlot_8 rfl (lv_at hl 2 rfl) ?_
    refine lv_iconst (pc := 9) (v := 0) hx hb dX5_isSlot_9 (by decide) ?_
    refine lv_aload_n (pc := 10) hx hb dX5_isSlot_10 rfl (lv_at hl 0 rfl) ?_
    refine g_get (pc := 11) (v := .ref (q 1)) C h.1 0 (mW_c0 _ _ _) fl_X5_7 rfl dX5_isSlot_11 ?_
    refine lv_iload_n (pc := 14) hx hb dX5_isSlot_14 rfl (lv_at hl 1 rfl) ?_
    obtain ⟨hin, hf⟩ := ifS hf
    refine g_ild (pc := 15) (n := 6) (f := (σ 2)) C h.1 1 (mW_c1 _ _ _) hin dX5_isSlot_15 ?_
    refine lv_iconst (pc := 16) (v := 1) hx hb dX5_isSlot_16 (by decide) ?_
    refine lv_isub (pc := 17) hx hb dX5_isSlot_17 ?_
    refine call_SRR (pc := 18) (As := [.int x2, .int (0 : Int32), .int (((σ 2) x1.toNatClampNeg) - (1 : Int32))]) (rest := []) (wc := []) C h (k_X5_in x2 (0 : Int32) (((σ 2) x1.toNatClampNeg) - (1 : Int32)) rfl) cw_X5_71 [] rfl rfl rfl rfl hl.1 (Nat.le_of_ble_eq_true rfl) dX5_isSlot_18 ⟨Nat.le_of_ble_eq_true rfl, Nat.le_of_ble_eq_true rfl⟩ rfl rfl ⟨Nat.le_of_ble_eq_true rfl, Nat.le_of_ble_eq_true rfl⟩ (fun H locs h => ?_)
    refine W.eq (g2 := F0 m 21 ls [.int (f_X5_in x2 (0 : Int32) (((σ 2) x1.toNatClampNeg) - (1 : Int32)))]) rfl ?_
    refine lv_if_eq (pc := 21) (tgt := 28) hx hb dX5_isSlot_21 (by decide) (fun c9 => ?_) (fun c9 => ?_)
    · have hf := ifT c9 hf
      refine lv_iconst (pc := 28) (v := 0) hx hb dX5_isSlot_28 (by decide) ?_
      have hf : (some (0 : Int32)) = some z := hf
      cases hf
      exact ret_zR (pc := 29) C hr nb0 h dX5_isSlot_29
    · have hf := ifF c9 hf
      refine lv_iconst (pc := 24) (v := 1) hx hb dX5_isSlot_24 (by decide) ?_
      refine lv_goto (pc := 25) (tgt := 29) hx hb dX5_isSlot_25 (by decide) ?_
      have hf : (some (1 : Int32)) = some z := hf
      cases hf
      exact ret_zR (pc := 29) C hr nb1 h dX5_isSlot_29
theorem nb_X5_isSlot {σ : Nat → Nat → Int32} {x1 x2 : Int32} {z : Int32} (hf : f_X5_isSlot σ x1 x2 = some z) : narrow .boolean (.int z) = .int z := by
  rw [f_X5_isSlot] at hf
  by_cases c9 : (f_X5_isEnvelope σ x1) = 0
  · have hf := ifT c9 hf
    have hf : (some (0 : Int32)) = some z := hf
    cases hf
    exact nb0
  · have hf := ifF c9 hf
    obtain ⟨_, hf⟩ := ifS hf
    by_cases c9 : (f_X5_in x2 (0 : Int32) (((σ 2) x1.toNatClampNeg) - (1 : Int32))) = 0
    · have hf := ifT c9 hf
      have hf : (some (0 : Int32)) = some z := hf
      cases hf
      exact nb0
    · have hf := ifF c9 hf
      have hf : (some (1 : Int32)) = some z := hf
      cases hf
      exact nb1
abbrev rm_X5_isEvent : Room := { frames := 2, cells := 0, slots := 0, locals := 43 }
def f_X5_isEvent (σ : Nat → Nat → Int32) (x1 x2 : Int32) : Option (Int32) := (if (f_X5_isEnvelope σ x1) = 0 then (some (0 : Int32)) else (if inb x1 6 then (if (f_X5_in x2 (0 : Int32) (((σ 5) x1.toNatClampNeg) - (1 : Int32))) = 0 then (some (0 : Int32)) else (some (1 : Int32))) else none))
set_option maxHeartbeats 400000 in
set_option maxRecDepth 100000 in
theorem k_X5_isEvent {q : Nat → Nat} {cA : Nat → ClassId} {D : va_G} (σ : Nat → Nat → Int32) (x1 x2 : Int32) {z : Int32} (hf : f_X5_isEvent σ x1 x2 = some z) : CtR yX5_isEvent cX5_isEvent 3 (some .boolean) rm_X5_isEvent [.ref (q 0), .int x1, .int x2] D cA (mW q cA σ) (some (.int z)) 0 0 := by
  refine ctR_of (by decide) (Nat.le_of_ble_eq_true rfl) ?_
  intro p l e s m below meth c ls C hr hnm h hl
  have C : Cx p s m _ meth c cX5_isEvent 3 RX5 D cA := C
  obtain ⟨hx, hb, hml, hown, hts, hK, hlk⟩ := id C
  replace hl : lv_has ls 3 [(0, .ref (q 0)), (1, .int x1), (2, .int x2)] := hl
  rw [f_X5_isEvent] at hf
  refine lv_aload_n (pc := 0) hx hb dX5_isEvent_0 rfl (lv_at hl 0 rfl) ?_
  refine lv_iload_n (pc := 1) hx hb dX5_isEvent_1 rfl (lv_at hl 1 rfl) ?_
  refine call_VRsR (pc := 2) (As := [.int x1]) (rest := []) C h (k_X5_isEnvelope σ x1 rfl) cw_X5_78 0 (mW_c0 _ _ _) rfl rfl rfl hl.1 (Nat.le_of_ble_eq_true rfl) dX5_isEvent_2 ⟨Nat.le_of_ble_eq_true rfl, Nat.le_of_ble_eq_true rfl⟩ rfl rfl ⟨Nat.le_of_ble_eq_true rfl, Nat.le_of_ble_eq_true rfl⟩ (fun H locs h => ?_)
  refine W.eq (g2 := F0 m 5 ls [.int (f_X5_isEnvelope σ x1)]) rfl ?_
  refine lv_if_eq (pc := 5) (tgt := 28) hx hb dX5_isEvent_5 (by decide) (fun c9 => ?_) (fun c9 => ?_)
  · have hf := ifT c9 hf
    refine lv_iconst (pc := 28) (v := 0) hx hb dX5_isEvent_28 (by decide) ?_
    have hf : (some (0 : Int32)) = some z := hf
    cases hf
    exact ret_zR (pc := 29) C hr nb0 h dX5_isEvent_29
  · have hf := ifF c9 hf
    refine lv_iload_n (pc := 8) hx hb dX5_isEvent_8 rfl (lv_at hl 2 rfl) ?_
    refine lv_iconst (pc := 9) (v := 0) hx hb dX5_isEvent_9 (by decide) ?_
    refine lv_aload_n (pc := 10) hx hb dX5_isEvent_10 rfl (lv_at hl 0 rfl) ?_
    refine g_get (pc := 11) (v := .ref (q 4)) C h.1 0 (mW_c0 _ _ _) fl_X5_19 rfl dX5_isEvent_11 ?_
    refine lv_iload_n (pc := 14) hx hb dX5_isEvent_14 rfl (lv_at hl 1 rfl) ?_
    obtain ⟨hin, hf⟩ := ifS hf
    refine g_ild (pc := 15) (n := 6) (f := (σ 5)) C h.1 4 (mW_c4 _ _ _) hin dX5_isEvent_15 ?_
    refine lv_iconst (pc := 16) (v := 1) hx hb dX5_isEvent_16 (by decide) ?_
    refine lv_isub (pc := 17) hx hb dX5_isEvent_17 ?_
    refine call_SRR (pc := 18) (As := [.int x2, .int (0 : Int32), .int (((σ 5) x1.toNatClampNeg) - (1 : Int32))]) (rest := []) (wc := []) C h (k_X5_in x2 (0 : Int32) (((σ 5) x1.toNatClampNeg) - (1 : Int32)) rfl) cw_X5_71 [] rfl rfl rfl rfl hl.1 (Nat.le_of_ble_eq_true rfl) dX5_isEvent_18 ⟨Nat.le_of_ble_eq_true rfl, Nat.le_of_ble_eq_true rfl⟩ rfl rfl ⟨Nat.le_of_ble_eq_true rfl, Nat.le_of_ble_eq_true rfl⟩ (fun H locs h => ?_)
    refine W.eq (g2 := F0 m 21 ls [.int (f_X5_in x2 (0 : Int32) (((σ 5) x1.toNatClampNeg) - (1 : Int32)))]) rfl ?_
    refine lv_if_eq (pc := 21) (tgt := 28) hx hb dX5_isEvent_21 (by decide) (fun c9 => ?_) (fun c9 => ?_)
    · have hf := ifT c9 hf
      refine lv_iconst (pc := 28) (v := 0) hx hb dX5_isEvent_28 (by decide) ?_
      have hf : (some (0 : Int32)) = some z := hf
      cases hf
      exact ret_zR (pc := 29) C hr nb0 h dX5_isEvent_29
    · have hf := ifF c9 hf
      refine lv_iconst (pc := 24) (v := 1) hx hb dX5_isEvent_24 (by decide) ?_
      refine lv_goto (pc := 25) (tgt := 29) hx hb dX5_isEvent_25 (by decide) ?_
      have hf : (some (1 : Int32)) = some z := hf
      cases hf
      exact ret_zR (pc := 29) C hr nb1 h dX5_isEvent_29
theorem nb_X5_isEvent {σ : Nat → Nat → Int32} {x1 x2 : Int32} {z : Int32} (hf : f_X5_isEvent σ x1 x2 = some z) : narrow .boolean (.int z) = .int z := by
  rw [f_X5_isEvent] at hf
  by_cases c9 : (f_X5_isEnvelope σ x1) = 0
  · have hf := ifT c9 hf
    have hf : (some (0 : Int32)) = some z := hf
    cases hf
    exact nb0
  · have hf := ifF c9 hf
    obtain ⟨_, hf⟩ := ifS hf
    by_cases c9 : (f_X5_in x2 (0 : Int32) (((σ 5) x1.toNatClampNeg) - (1 : Int32))) = 0
    · have hf := ifT c9 hf
      have hf : (some (0 : Int32)) = some z := hf
      cases hf
      exact nb0
    · have hf := ifF c9 hf
      have hf : (some (1 : Int32)) = some z := hf
      cases hf
      exact nb1
abbrev rm_X5_areEvents : Room := { frames := 2, cells := 0, slots := 0, locals := 43 }
def f_X5_areEvents (σ : Nat → Nat → Int32) (x1 x2 : Int32) : Option (Int32) := (if (f_X5_isEnvelope σ x1) = 0 then (some (0 : Int32)) else (if inb x1 6 then (if (f_X5_in x2 (0 : Int32) ((σ 5) x1.toNatClampNeg)) = 0 then (some (0 : Int32)) else (some (1 : Int32))) else none))
set_option maxHeartbeats 400000 in
set_option maxRecDepth 100000 in
theorem k_X5_areEvents {q : Nat → Nat} {cA : Nat → ClassId} {D : va_G} (σ : Nat → Nat → Int32) (x1 x2 : Int32) {z : Int32} (hf : f_X5_areEvents σ x1 x2 = some z) : CtR yX5_areEvents cX5_areEvents 3 (some .boolean) rm_X5_areEvents [.ref (q 0), .int x1, .int x2] D cA (mW q cA σ) (some (.int z)) 0 0 := by
  refine ctR_of (by decide) (Nat.le_of_ble_eq_true rfl) ?_
  intro p l e s m below meth c ls C hr hnm h hl
  have C : Cx p s m _ meth c cX5_areEvents 3 RX5 D cA := C
  obtain ⟨hx, hb, hml, hown, hts, hK, hlk⟩ := id C
  replace hl : lv_has ls 3 [(0, .ref (q 0)), (1, .int x1), (2, .int x2)] := hl
  rw [f_X5_areEvents] at hf
  refine lv_aload_n (pc := 0) hx hb dX5_areEvents_0 rfl (lv_at hl 0 rfl) ?_
  refine lv_iload_n (pc := 1) hx hb dX5_areEvents_1 rfl (lv_at hl 1 rfl) ?_
  refine call_VRsR (pc := 2) (As := [.int x1]) (rest := []) C h (k_X5_isEnvelope σ x1 rfl) cw_X5_78 0 (mW_c0 _ _ _) rfl rfl rfl hl.1 (Nat.le_of_ble_eq_true rfl) dX5_areEvents_2 ⟨Nat.le_of_ble_eq_true rfl, Nat.le_of_ble_eq_true rfl⟩ rfl rfl ⟨Nat.le_of_ble_eq_true rfl, Nat.le_of_ble_eq_true rfl⟩ (fun H locs h => ?_)
  refine W.eq (g2 := F0 m 5 ls [.int (f_X5_isEnvelope σ x1)]) rfl ?_
  refine lv_if_eq (pc := 5) (tgt := 26) hx hb dX5_areEvents_5 (by decide) (fun c9 => ?_) (fun c9 => ?_)
  · have hf := ifT c9 hf
    refine lv_iconst (pc := 26) (v := 0) hx hb dX5_areEvents_26 (by decide) ?_
    have hf : (some (0 : Int32)) = some z := hf
    cases hf
    exact ret_zR (pc := 27) C hr nb0 h dX5_areEvents_27
  · have hf := ifF c9 hf
    refine lv_iload_n (pc := 8) hx hb dX5_areEvents_8 rfl (lv_at hl 2 rfl) ?_
    refine lv_iconst (pc := 9) (v := 0) hx hb dX5_areEvents_9 (by decide) ?_
    refine lv_aload_n (pc := 10) hx hb dX5_areEvents_10 rfl (lv_at hl 0 rfl) ?_
    refine g_get (pc := 11) (v := .ref (q 4)) C h.1 0 (mW_c0 _ _ _) fl_X5_19 rfl dX5_areEvents_11 ?_
    refine lv_iload_n (pc := 14) hx hb dX5_areEvents_14 rfl (lv_at hl 1 rfl) ?_
    obtain ⟨hin, hf⟩ := ifS hf
    refine g_ild (pc := 15) (n := 6) (f := (σ 5)) C h.1 4 (mW_c4 _ _ _) hin dX5_areEvents_15 ?_
    refine call_SRR (pc := 16) (As := [.int x2, .int (0 : Int32), .int ((σ 5) x1.toNatClampNeg)]) (rest := []) (wc := []) C h (k_X5_in x2 (0 : Int32) ((σ 5) x1.toNatClampNeg) rfl) cw_X5_71 [] rfl rfl rfl rfl hl.1 (Nat.le_of_ble_eq_true rfl) dX5_areEvents_16 ⟨Nat.le_of_ble_eq_true rfl, Nat.le_of_ble_eq_true rfl⟩ rfl rfl ⟨Nat.le_of_ble_eq_true rfl, Nat.le_of_ble_eq_true rfl⟩ (fun H locs h => ?_)
    refine W.eq (g2 := F0 m 19 ls [.int (f_X5_in x2 (0 : Int32) ((σ 5) x1.toNatClampNeg))]) rfl ?_
    refine lv_if_eq (pc := 19) (tgt := 26) hx hb dX5_areEvents_19 (by decide) (fun c9 => ?_) (fun c9 => ?_)
    · have hf := ifT c9 hf
      refine lv_iconst (pc := 26) (v := 0) hx hb dX5_areEvents_26 (by decide) ?_
      have hf : (some (0 : Int32)) = some z := hf
      cases hf
      exact ret_zR (pc := 27) C hr nb0 h dX5_areEvents_27
    · have hf := ifF c9 hf
      refine lv_iconst (pc := 22) (v := 1) hx hb dX5_areEvents_22 (by decide) ?_
      refine lv_goto (pc := 23) (tgt := 27) hx hb dX5_areEvents_23 (by decide) ?_
      have hf : (some (1 : Int32)) = some z := hf
      cases hf
      exact ret_zR (pc := 27) C hr nb1 h dX5_areEvents_27
theorem nb_X5_areEvents {σ : Nat → Nat → Int32} {x1 x2 : Int32} {z : Int32} (hf : f_X5_areEvents σ x1 x2 = some z) : narrow .boolean (.int z) = .int z := by
  rw [f_X5_areEvents] at hf
  by_cases c9 : (f_X5_isEnvelope σ x1) = 0
  · have hf := ifT c9 hf
    have hf : (some (0 : Int32)) = some z := hf
    cases hf
    exact nb0
  · have hf := ifF c9 hf
    obtain ⟨_, hf⟩ := ifS hf
    by_cases c9 : (f_X5_in x2 (0 : Int32) ((σ 5) x1.toNatClampNeg)) = 0
    · have hf := ifT c9 hf
      have hf : (some (0 : Int32)) = some z := hf
      cases hf
      exact nb0
    · have hf := ifF c9 hf
      have hf : (some (1 : Int32)) = some z := hf
      cases hf
      exact nb1
abbrev rm_X5_has : Room := { frames := 0, cells := 0, slots := 0, locals := 0 }
def f_X5_has (x0 x1 : Int32) : Int32 := (if ((x0 >>> (x1 &&& 31)) &&& (1 : Int32)) = (1 : Int32) then (1 : Int32) else (0 : Int32))
set_option maxHeartbeats 400000 in
set_option maxRecDepth 100000 in
theorem k_X5_has {cA : Nat → ClassId} {D : va_G} (x0 x1 : Int32) {z : Int32} (hf : f_X5_has x0 x1 = z) : CtR yX5_has cX5_has 2 (some .boolean) rm_X5_has [.int x0, .int x1] D cA [] (some (.int z)) 0 0 := by
  refine ctR_of (by decide) (Nat.le_of_ble_eq_true rfl) ?_
  intro p l e s m below meth c ls C hr hnm h hl
  have C : Cx p s m _ meth c cX5_has 2 RX5 D cA := C
  obtain ⟨hx, hb, hml, hown, hts, hK, hlk⟩ := id C
  replace hl : lv_has ls 2 [(0, .int x0), (1, .int x1)] := hl
  rw [f_X5_has] at hf
  refine lv_iload_n (pc := 0) hx hb dX5_has_0 rfl (lv_at hl 0 rfl) ?_
  refine lv_iload_n (pc := 1) hx hb dX5_has_1 rfl (lv_at hl 1 rfl) ?_
  refine lv_ishr (pc := 2) hx hb dX5_has_2 ?_
  refine lv_iconst (pc := 3) (v := 1) hx hb dX5_has_3 (by decide) ?_
  refine lv_iand (pc := 4) hx hb dX5_has_4 ?_
  refine lv_iconst (pc := 5) (v := 1) hx hb dX5_has_5 (by decide) ?_
  refine lv_icmp_ne (pc := 6) (tgt := 13) hx hb dX5_has_6 (by decide) (fun c9 => ?_) (fun c9 => ?_)
  · have hf := ifF c9 hf
    refine lv_iconst (pc := 13) (v := 0) hx hb dX5_has_13 (by decide) ?_
    have hf : (0 : Int32) = z := hf
    subst hf
    exact ret_zR (pc := 14) C hr nb0 h dX5_has_14
  · have hf := ifT c9 hf
    refine lv_iconst (pc := 9) (v := 1) hx hb dX5_has_9 (by decide) ?_
    refine lv_goto (pc := 10) (tgt := 14) hx hb dX5_has_10 (by decide) ?_
    have hf : (1 : Int32) = z := hf
    subst hf
    exact ret_zR (pc := 14) C hr nb1 h dX5_has_14
theorem nb_X5_has {x0 x1 : Int32} {z : Int32} (hf : f_X5_has x0 x1 = z) : narrow .boolean (.int z) = .int z := by
  rw [f_X5_has] at hf
  by_cases c9 : ((x0 >>> (x1 &&& 31)) &&& (1 : Int32)) = (1 : Int32)
  · have hf := ifT c9 hf
    have hf : ((1 : Int32)) = z := hf
    subst hf
    exact nb1
  · have hf := ifF c9 hf
    have hf : ((0 : Int32)) = z := hf
    subst hf
    exact nb0
abbrev rm_X5_many : Room := { frames := 0, cells := 0, slots := 0, locals := 0 }
def f_X5_many_4 : Nat → Int32 → Int32 → Int32 → Option (Int32 × Int32)
  | 0, _, _, _ => none
  | n + 1, x0, x1, x2 => (if (8 : Int32) ≤ x2 then some (x1, x2) else (f_X5_many_4 n x0 (x1 + ((x0 >>> (x2 &&& 31)) &&& (1 : Int32))) (x2 + (1 : Int32))))
def f_X5_many (x0 : Int32) : Option (Int32) := ((f_X5_many_4 FU x0 (0 : Int32) (0 : Int32)).bind fun z1 => (some z1.1))
set_option maxHeartbeats 400000 in
set_option maxRecDepth 100000 in
theorem l_X5_many_4 (C : Cx p s m args meth c cX5_many 3 RX5 D cA) : ∀ (n : Nat) (x0 x1 x2 : Int32) (z : Int32 × Int32), f_X5_many_4 n x0 x1 x2 = some z → ∀ (H : Heap) (locs : List Loc) (ls : Array Slot), SR D s.heap [] H locs → lv_has ls 3 [(0, .int x0), (1, .int x1), (2, .int x2)] → (∀ (H : Heap) (locs : List Loc) (ls : Array Slot), SR D s.heap [] H locs → lv_has ls 3 [(0, .int x0), (1, .int z.1), (2, .int z.2)] → W p l e rm_X5_many s m args below meth c H locs 0 0 Q (F0 m 24 ls [])) → W p l e rm_X5_many s m args below meth c H locs 0 0 Q (F0 m 4 ls []) := by
  obtain ⟨hx, hb, hml, hown, hts, hK, hlk⟩ := id C
  intro n
  induction n with
  | zero => intro x0 x1 x2 z hf; rw [f_X5_many_4] at hf; cases hf
  | succ n ih =>
    intro x0 x1 x2 z hf H locs ls h hl kk
    rw [f_X5_many_4] at hf
    refine lv_iload_n (pc := 4) hx hb dX5_many_4 rfl (lv_at hl 2 rfl) ?_
    refine lv_bipush (pc := 5) (v := 8) hx hb dX5_many_5 (by decide) ?_
    refine lv_icmp_ge (pc := 7) (tgt := 24) hx hb dX5_many_7 (by decide) (fun c9 => ?_) (fun c9 => ?_)
    · have hf := ifT c9 hf
      have hf : some (x1, x2) = some z := hf
      cases hf
      exact kk _ _ _ h (lv_sub hl [0, 1, 2] rfl)
    · have hf := ifF c9 hf
      refine lv_iload_n (pc := 10) hx hb dX5_many_10 rfl (lv_at hl 1 rfl) ?_
      refine lv_iload_n (pc := 11) hx hb dX5_many_11 rfl (lv_at hl 0 rfl) ?_
      refine lv_iload_n (pc := 12) hx hb dX5_many_12 rfl (lv_at hl 2 rfl) ?_
      refine lv_ishr (pc := 13) hx hb dX5_many_13 ?_
      refine lv_iconst (pc := 14) (v := 1) hx hb dX5_many_14 (by decide) ?_
      refine lv_iand (pc := 15) hx hb dX5_many_15 ?_
      refine lv_iadd (pc := 16) hx hb dX5_many_16 ?_
      refine lv_istore_n (pc := 17) (lv' := [(1, .int (x1 + ((x0 >>> (x2 &&& 31)) &&& (1 : Int32)))), (0, .int x0), (2, .int x2)]) hx hb dX5_many_17 rfl hl (by decide) rfl (fun ls hl => ?_)
      refine lv_iinc (pc := 18) (v := (x2 + (1 : Int32))) (lv' := [(2, .int (x2 + (1 : Int32))), (1, .int (x1 + ((x0 >>> (x2 &&& 31)) &&& (1 : Int32)))), (0, .int x0)]) hx hb dX5_many_18 hl (k := 2) rfl rfl (by decide) rfl (fun ls hl => ?_)
      refine lv_goto (pc := 21) (tgt := 4) hx hb dX5_many_21 (by decide) ?_
      exact ih _ _ _ _ hf _ _ _ h (lv_sub hl [2, 1, 0] rfl) kk
set_option maxHeartbeats 400000 in
set_option maxRecDepth 100000 in
theorem k_X5_many {cA : Nat → ClassId} {D : va_G} (x0 : Int32) {z : Int32} (hf : f_X5_many x0 = some z) : CtR yX5_many cX5_many 3 (some .int) rm_X5_many [.int x0] D cA [] (some (.int z)) 0 0 := by
  refine ctR_of (by decide) (Nat.le_of_ble_eq_true rfl) ?_
  intro p l e s m below meth c ls C hr hnm h hl
  have C : Cx p s m _ meth c cX5_many 3 RX5 D cA := C
  obtain ⟨hx, hb, hml, hown, hts, hK, hlk⟩ := id C
  replace hl : lv_has ls 3 [(0, .int x0)] := hl
  rw [f_X5_many] at hf
  refine lv_iconst (pc := 0) (v := 0) hx hb dX5_many_0 (by decide) ?_
  refine lv_istore_n (pc := 1) (lv' := [(1, .int (0 : Int32)), (0, .int x0)]) hx hb dX5_many_1 rfl hl (by decide) rfl (fun ls hl => ?_)
  refine lv_iconst (pc := 2) (v := 0) hx hb dX5_many_2 (by decide) ?_
  refine lv_istore_n (pc := 3) (lv' := [(2, .int (0 : Int32)), (1, .int (0 : Int32)), (0, .int x0)]) hx hb dX5_many_3 rfl hl (by decide) rfl (fun ls hl => ?_)
  obtain ⟨z1, hc1, hf⟩ := bdS hf
  refine l_X5_many_4 C _ _ _ _ _ hc1 _ _ _ h (lv_sub hl [2, 1, 0] rfl) (fun H locs ls h hl => ?_)
  refine lv_iload_n (pc := 24) hx hb dX5_many_24 rfl (lv_at hl 1 rfl) ?_
  have hf : (some z1.1) = some z := hf
  cases hf
  exact ret_iR (pc := 25) C hr h dX5_many_25
abbrev rm_X5_all : Room := { frames := 0, cells := 0, slots := 0, locals := 0 }
def f_X5_all (σ : Nat → Nat → Int32) (x1 : Int32) : Option (Int32) := (if inb x1 6 then (some (((1 : Int32) <<< (((σ 2) x1.toNatClampNeg) &&& 31)) - (1 : Int32))) else none)
set_option maxHeartbeats 400000 in
set_option maxRecDepth 100000 in
theorem k_X5_all {q : Nat → Nat} {cA : Nat → ClassId} {D : va_G} (σ : Nat → Nat → Int32) (x1 : Int32) {z : Int32} (hf : f_X5_all σ x1 = some z) : CtR yX5_all cX5_all 2 (some .int) rm_X5_all [.ref (q 0), .int x1] D cA (mW q cA σ) (some (.int z)) 0 0 := by
  refine ctR_of (by decide) (Nat.le_of_ble_eq_true rfl) ?_
  intro p l e s m below meth c ls C hr hnm h hl
  have C : Cx p s m _ meth c cX5_all 2 RX5 D cA := C
  obtain ⟨hx, hb, hml, hown, hts, hK, hlk⟩ := id C
  replace hl : lv_has ls 2 [(0, .ref (q 0)), (1, .int x1)] := hl
  rw [f_X5_all] at hf
  refine lv_iconst (pc := 0) (v := 1) hx hb dX5_all_0 (by decide) ?_
  refine lv_aload_n (pc := 1) hx hb dX5_all_1 rfl (lv_at hl 0 rfl) ?_
  refine g_get (pc := 2) (v := .ref (q 1)) C h.1 0 (mW_c0 _ _ _) fl_X5_7 rfl dX5_all_2 ?_
  refine lv_iload_n (pc := 5) hx hb dX5_all_5 rfl (lv_at hl 1 rfl) ?_
  obtain ⟨hin, hf⟩ := ifS hf
  refine g_ild (pc := 6) (n := 6) (f := (σ 2)) C h.1 1 (mW_c1 _ _ _) hin dX5_all_6 ?_
  refine lv_ishl (pc := 7) hx hb dX5_all_7 ?_
  refine lv_iconst (pc := 8) (v := 1) hx hb dX5_all_8 (by decide) ?_
  refine lv_isub (pc := 9) hx hb dX5_all_9 ?_
  have hf : (some (((1 : Int32) <<< (((σ 2) x1.toNatClampNeg) &&& 31)) - (1 : Int32))) = some z := hf
  cases hf
  exact ret_iR (pc := 10) C hr h dX5_all_10
end
