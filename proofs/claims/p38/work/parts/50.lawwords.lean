set_option maxRecDepth 20000 in
theorem cw_L_192 : CWs RL 192 yL_low cL_low 2 (some .int) 2 := ⟨wm 530 (by decide +kernel) rfl, wm 531 (by decide +kernel) rfl, wm 0 (by decide +kernel) rfl, wm 532 rfl rfl, by decide +kernel, by decide +kernel, by decide +kernel⟩
set_option maxRecDepth 20000 in
theorem cw_L_160 : CWs RL 160 yL_many cL_many 3 (some .int) 1 := ⟨wm 406 (by decide +kernel) rfl, wm 407 (by decide +kernel) rfl, wm 0 (by decide +kernel) rfl, wm 408 rfl rfl, by decide +kernel, by decide +kernel, by decide +kernel⟩
set_option maxRecDepth 20000 in
theorem cw_L_230 : CWs RL 230 yL_print cL_print 5 (some .long) 1 := ⟨wm 313 (by decide +kernel) rfl, wm 314 (by decide +kernel) rfl, wm 0 (by decide +kernel) rfl, wm 315 rfl rfl, by decide +kernel, by decide +kernel, by decide +kernel⟩
set_option maxRecDepth 20000 in
theorem cw_L_234 : CWs RL 234 yL_people cL_people 5 (some .boolean) 1 := ⟨wm 524 (by decide +kernel) rfl, wm 525 (by decide +kernel) rfl, wm 0 (by decide +kernel) rfl, wm 526 rfl rfl, by decide +kernel, by decide +kernel, by decide +kernel⟩
set_option maxRecDepth 20000 in
theorem cw_L_238 : CWs RL 238 yL_envelope cL_envelope 16 (some .boolean) 4 := ⟨wm 403 (by decide +kernel) rfl, wm 404 (by decide +kernel) rfl, wm 0 (by decide +kernel) rfl, wm 405 rfl rfl, by decide +kernel, by decide +kernel, by decide +kernel⟩
set_option maxRecDepth 20000 in
theorem cw_L_242 : CWs RL 242 yL_history cL_history 20 (some .boolean) 4 := ⟨wm 464 (by decide +kernel) rfl, wm 465 (by decide +kernel) rfl, wm 0 (by decide +kernel) rfl, wm 466 rfl rfl, by decide +kernel, by decide +kernel, by decide +kernel⟩
set_option maxRecDepth 20000 in
theorem cw_L_245 : CWs RL 245 yL_counts cL_counts 9 (some .boolean) 3 := ⟨wm 493 (by decide +kernel) rfl, wm 494 (by decide +kernel) rfl, wm 0 (by decide +kernel) rfl, wm 495 rfl rfl, by decide +kernel, by decide +kernel, by decide +kernel⟩
set_option maxRecDepth 20000 in
theorem cw_L_217 : CWs RL 217 yL_passes cL_passes 11 (some .boolean) 4 := ⟨wm 690 (by decide +kernel) rfl, wm 691 (by decide +kernel) rfl, wm 0 (by decide +kernel) rfl, wm 692 rfl rfl, by decide +kernel, by decide +kernel, by decide +kernel⟩
set_option maxRecDepth 20000 in
theorem cw_L_226 : CWs RL 226 yL_acts cL_acts 19 (some .boolean) 6 := ⟨wm 527 (by decide +kernel) rfl, wm 528 (by decide +kernel) rfl, wm 0 (by decide +kernel) rfl, wm 529 rfl rfl, by decide +kernel, by decide +kernel, by decide +kernel⟩
set_option maxRecDepth 20000 in
theorem cw_L_222 : CWs RL 222 yL_at cL_at 2 (some .int) 2 := ⟨wm 85 (by decide +kernel) rfl, wm 86 (by decide +kernel) rfl, wm 0 (by decide +kernel) rfl, wm 87 rfl rfl, by decide +kernel, by decide +kernel, by decide +kernel⟩
set_option maxRecDepth 20000 in
theorem cw_L_130 : CWv RL 130 yX4_today cX4_today 1 (some .int) 0 := ⟨wm 77 (by decide +kernel) rfl, wm 78 (by decide +kernel) rfl, wm 79 (by decide +kernel) rfl, wm 1 (by decide +kernel) rfl, wm 80 rfl rfl, by decide +kernel, by decide +kernel, by decide +kernel⟩
set_option maxRecDepth 20000 in
theorem cw_L_133 : CWv RL 133 yX4_envelopes cX4_envelopes 1 (some .int) 0 := ⟨wm 81 (by decide +kernel) rfl, wm 82 (by decide +kernel) rfl, wm 83 (by decide +kernel) rfl, wm 1 (by decide +kernel) rfl, wm 84 rfl rfl, by decide +kernel, by decide +kernel, by decide +kernel⟩
def gn_today (d : Dk) : Option Int32 := if d.1 ≤ 6 then some (f_X4_today d.1 d.2.1 d.2.2) else none
theorem gn_today_s {d : Dk} {z : Int32} (hf : gn_today d = some z) : d.1 ≤ 6 ∧ f_X4_today d.1 d.2.1 d.2.2 = z := by
  unfold gn_today at hf
  obtain ⟨h1, h2⟩ := ifS hf
  exact ⟨h1, Option.some.inj h2⟩
def gn_envelopes (d : Dk) : Option Int32 := if d.1 ≤ 6 then some (f_X4_envelopes d.1 d.2.1 d.2.2) else none
theorem gn_envelopes_s {d : Dk} {z : Int32} (hf : gn_envelopes d = some z) : d.1 ≤ 6 ∧ f_X4_envelopes d.1 d.2.1 d.2.2 = z := by
  unfold gn_envelopes at hf
  obtain ⟨h1, h2⟩ := ifS hf
  exact ⟨h1, Option.some.inj h2⟩
theorem nn_send {d : Dk} {x1 : Int32} {z : Int32 × Dk} (hf : gn_send d x1 = some z) : z.2.1 = d.1 := by
  unfold gn_send at hf
  by_cases hn : d.1 ≤ 6
  rotate_left
  · rw [if_neg hn] at hf; cases hf
  rw [if_pos hn] at hf
  cases hq : f_X4_send d.1 d.2.1 d.2.2 x1 with
  | none => rw [hq] at hf; cases hf
  | some y =>
    rw [hq] at hf
    cases y with
    | inl E => cases hf
    | inr z => cases hf; rfl
theorem nm_send {d : Dk} {x1 : Int32} {z : Int32 × Dk} (hf : gm_send d x1 = some z) : z.2.1 = d.1 := by
  unfold gm_send at hf
  by_cases hn : d.1 ≤ 6
  rotate_left
  · rw [if_neg hn] at hf; cases hf
  rw [if_pos hn] at hf
  cases hq : f_X4_send d.1 d.2.1 d.2.2 x1 with
  | none => rw [hq] at hf; cases hf
  | some y =>
    rw [hq] at hf
    cases y with
    | inl E => cases hf; rfl
    | inr z => cases hf; rfl
theorem nn_sign {d : Dk} {x1 x2 x3 : Int32} {z : Int32 × Dk} (hf : gn_sign d x1 x2 x3 = some z) : z.2.1 = d.1 := by
  unfold gn_sign at hf
  by_cases hn : d.1 ≤ 6
  rotate_left
  · rw [if_neg hn] at hf; cases hf
  rw [if_pos hn] at hf
  cases hq : f_X4_sign d.1 d.2.1 d.2.2 x1 x2 x3 with
  | none => rw [hq] at hf; cases hf
  | some y =>
    rw [hq] at hf
    cases y with
    | inl E => cases hf
    | inr z => cases hf; rfl
theorem nm_sign {d : Dk} {x1 x2 x3 : Int32} {z : Int32 × Dk} (hf : gm_sign d x1 x2 x3 = some z) : z.2.1 = d.1 := by
  unfold gm_sign at hf
  by_cases hn : d.1 ≤ 6
  rotate_left
  · rw [if_neg hn] at hf; cases hf
  rw [if_pos hn] at hf
  cases hq : f_X4_sign d.1 d.2.1 d.2.2 x1 x2 x3 with
  | none => rw [hq] at hf; cases hf
  | some y =>
    rw [hq] at hf
    cases y with
    | inl E => cases hf; rfl
    | inr z => cases hf; rfl
theorem nn_delegate {d : Dk} {x1 x2 x3 x4 x5 : Int32} {z : Int32 × Dk} (hf : gn_delegate d x1 x2 x3 x4 x5 = some z) : z.2.1 = d.1 := by
  unfold gn_delegate at hf
  by_cases hn : d.1 ≤ 6
  rotate_left
  · rw [if_neg hn] at hf; cases hf
  rw [if_pos hn] at hf
  cases hq : f_X4_delegate d.1 d.2.1 d.2.2 x1 x2 x3 x4 x5 with
  | none => rw [hq] at hf; cases hf
  | some y =>
    rw [hq] at hf
    cases y with
    | inl E => cases hf
    | inr z => cases hf; rfl
theorem nm_delegate {d : Dk} {x1 x2 x3 x4 x5 : Int32} {z : Int32 × Dk} (hf : gm_delegate d x1 x2 x3 x4 x5 = some z) : z.2.1 = d.1 := by
  unfold gm_delegate at hf
  by_cases hn : d.1 ≤ 6
  rotate_left
  · rw [if_neg hn] at hf; cases hf
  rw [if_pos hn] at hf
  cases hq : f_X4_delegate d.1 d.2.1 d.2.2 x1 x2 x3 x4 x5 with
  | none => rw [hq] at hf; cases hf
  | some y =>
    rw [hq] at hf
    cases y with
    | inl E => cases hf; rfl
    | inr z => cases hf; rfl
theorem nn_orders {d : Dk} {x1 : Int32} {z : Int32 × Dk} (hf : gn_orders d x1 = some z) : z.2.1 = d.1 := by
  unfold gn_orders at hf
  by_cases hn : d.1 ≤ 6
  rotate_left
  · rw [if_neg hn] at hf; cases hf
  rw [if_pos hn] at hf
  cases hq : f_X4_orders d.1 d.2.1 d.2.2 x1 with
  | none => rw [hq] at hf; cases hf
  | some y =>
    rw [hq] at hf
    cases y with
    | inl E => cases hf
    | inr z => obtain ⟨_, hf⟩ := ifS hf; cases hf; rfl
theorem nn_ordersLeft {d : Dk} {x1 : Int32} {z : Int32 × Dk} (hf : gn_ordersLeft d x1 = some z) : z.2.1 = d.1 := by
  unfold gn_ordersLeft at hf
  by_cases hn : d.1 ≤ 6
  rotate_left
  · rw [if_neg hn] at hf; cases hf
  rw [if_pos hn] at hf
  cases hq : f_X4_ordersLeft d.1 d.2.1 d.2.2 x1 with
  | none => rw [hq] at hf; cases hf
  | some y =>
    rw [hq] at hf
    cases y with
    | inl E => cases hf
    | inr z => obtain ⟨_, hf⟩ := ifS hf; cases hf; rfl
theorem nn_addSlot {d : Dk} {x1 x2 x3 : Int32} {z : Int32 × Dk} (hf : gn_addSlot d x1 x2 x3 = some z) : z.2.1 = d.1 := by
  unfold gn_addSlot at hf
  by_cases hn : d.1 ≤ 6
  rotate_left
  · rw [if_neg hn] at hf; cases hf
  rw [if_pos hn] at hf
  cases hq : f_X4_addSlot d.1 d.2.1 d.2.2 x1 x2 x3 with
  | none => rw [hq] at hf; cases hf
  | some y =>
    rw [hq] at hf
    cases y with
    | inl E => cases hf
    | inr z => cases hf; rfl
theorem nm_addSlot {d : Dk} {x1 x2 x3 : Int32} {z : Int32 × Dk} (hf : gm_addSlot d x1 x2 x3 = some z) : z.2.1 = d.1 := by
  unfold gm_addSlot at hf
  by_cases hn : d.1 ≤ 6
  rotate_left
  · rw [if_neg hn] at hf; cases hf
  rw [if_pos hn] at hf
  cases hq : f_X4_addSlot d.1 d.2.1 d.2.2 x1 x2 x3 with
  | none => rw [hq] at hf; cases hf
  | some y =>
    rw [hq] at hf
    cases y with
    | inl E => cases hf; rfl
    | inr z => cases hf; rfl
theorem nn_addRound {d : Dk} {x1 x2 : Int32} {z : Int32 × Dk} (hf : gn_addRound d x1 x2 = some z) : z.2.1 = d.1 := by
  unfold gn_addRound at hf
  by_cases hn : d.1 ≤ 6
  rotate_left
  · rw [if_neg hn] at hf; cases hf
  rw [if_pos hn] at hf
  cases hq : f_X4_addRound d.1 d.2.1 d.2.2 x1 x2 with
  | none => rw [hq] at hf; cases hf
  | some y =>
    rw [hq] at hf
    cases y with
    | inl E => cases hf
    | inr z => cases hf; rfl
theorem nm_addRound {d : Dk} {x1 x2 : Int32} {z : Int32 × Dk} (hf : gm_addRound d x1 x2 = some z) : z.2.1 = d.1 := by
  unfold gm_addRound at hf
  by_cases hn : d.1 ≤ 6
  rotate_left
  · rw [if_neg hn] at hf; cases hf
  rw [if_pos hn] at hf
  cases hq : f_X4_addRound d.1 d.2.1 d.2.2 x1 x2 with
  | none => rw [hq] at hf; cases hf
  | some y =>
    rw [hq] at hf
    cases y with
    | inl E => cases hf; rfl
    | inr z => cases hf; rfl
theorem nn_setTimes {d : Dk} {x1 x2 x3 : Int32} {z : Int32 × Dk} (hf : gn_setTimes d x1 x2 x3 = some z) : z.2.1 = d.1 := by
  unfold gn_setTimes at hf
  by_cases hn : d.1 ≤ 6
  rotate_left
  · rw [if_neg hn] at hf; cases hf
  rw [if_pos hn] at hf
  cases hq : f_X4_setTimes d.1 d.2.1 d.2.2 x1 x2 x3 with
  | none => rw [hq] at hf; cases hf
  | some y =>
    rw [hq] at hf
    cases y with
    | inl E => cases hf
    | inr z => cases hf; rfl
theorem nm_setTimes {d : Dk} {x1 x2 x3 : Int32} {z : Int32 × Dk} (hf : gm_setTimes d x1 x2 x3 = some z) : z.2.1 = d.1 := by
  unfold gm_setTimes at hf
  by_cases hn : d.1 ≤ 6
  rotate_left
  · rw [if_neg hn] at hf; cases hf
  rw [if_pos hn] at hf
  cases hq : f_X4_setTimes d.1 d.2.1 d.2.2 x1 x2 x3 with
  | none => rw [hq] at hf; cases hf
  | some y =>
    rw [hq] at hf
    cases y with
    | inl E => cases hf; rfl
    | inr z => cases hf; rfl
theorem nn_cancel {d : Dk} {x1 : Int32} {z : Int32 × Dk} (hf : gn_cancel d x1 = some z) : z.2.1 = d.1 := by
  unfold gn_cancel at hf
  by_cases hn : d.1 ≤ 6
  rotate_left
  · rw [if_neg hn] at hf; cases hf
  rw [if_pos hn] at hf
  cases hq : f_X4_cancel d.1 d.2.1 d.2.2 x1 with
  | none => rw [hq] at hf; cases hf
  | some y =>
    rw [hq] at hf
    cases y with
    | inl E => cases hf
    | inr z => cases hf; rfl
theorem nm_cancel {d : Dk} {x1 : Int32} {z : Int32 × Dk} (hf : gm_cancel d x1 = some z) : z.2.1 = d.1 := by
  unfold gm_cancel at hf
  by_cases hn : d.1 ≤ 6
  rotate_left
  · rw [if_neg hn] at hf; cases hf
  rw [if_pos hn] at hf
  cases hq : f_X4_cancel d.1 d.2.1 d.2.2 x1 with
  | none => rw [hq] at hf; cases hf
  | some y =>
    rw [hq] at hf
    cases y with
    | inl E => cases hf; rfl
    | inr z => cases hf; rfl
theorem nn_decline {d : Dk} {x1 x2 x3 : Int32} {z : Int32 × Dk} (hf : gn_decline d x1 x2 x3 = some z) : z.2.1 = d.1 := by
  unfold gn_decline at hf
  by_cases hn : d.1 ≤ 6
  rotate_left
  · rw [if_neg hn] at hf; cases hf
  rw [if_pos hn] at hf
  cases hq : f_X4_decline d.1 d.2.1 d.2.2 x1 x2 x3 with
  | none => rw [hq] at hf; cases hf
  | some y =>
    rw [hq] at hf
    cases y with
    | inl E => cases hf
    | inr z => cases hf; rfl
theorem nm_decline {d : Dk} {x1 x2 x3 : Int32} {z : Int32 × Dk} (hf : gm_decline d x1 x2 x3 = some z) : z.2.1 = d.1 := by
  unfold gm_decline at hf
  by_cases hn : d.1 ≤ 6
  rotate_left
  · rw [if_neg hn] at hf; cases hf
  rw [if_pos hn] at hf
  cases hq : f_X4_decline d.1 d.2.1 d.2.2 x1 x2 x3 with
  | none => rw [hq] at hf; cases hf
  | some y =>
    rw [hq] at hf
    cases y with
    | inl E => cases hf; rfl
    | inr z => cases hf; rfl
theorem nn_revoke {d : Dk} {x1 : Int32} {z : Int32 × Dk} (hf : gn_revoke d x1 = some z) : z.2.1 = d.1 := by
  unfold gn_revoke at hf
  by_cases hn : d.1 ≤ 6
  rotate_left
  · rw [if_neg hn] at hf; cases hf
  rw [if_pos hn] at hf
  cases hq : f_X4_revoke d.1 d.2.1 d.2.2 x1 with
  | none => rw [hq] at hf; cases hf
  | some y =>
    rw [hq] at hf
    cases y with
    | inl E => cases hf
    | inr z => cases hf; rfl
theorem nm_revoke {d : Dk} {x1 : Int32} {z : Int32 × Dk} (hf : gm_revoke d x1 = some z) : z.2.1 = d.1 := by
  unfold gm_revoke at hf
  by_cases hn : d.1 ≤ 6
  rotate_left
  · rw [if_neg hn] at hf; cases hf
  rw [if_pos hn] at hf
  cases hq : f_X4_revoke d.1 d.2.1 d.2.2 x1 with
  | none => rw [hq] at hf; cases hf
  | some y =>
    rw [hq] at hf
    cases y with
    | inl E => cases hf; rfl
    | inr z => cases hf; rfl
theorem nn_pass {d : Dk} {x1 : Int32} {z : Int32 × Dk} (hf : gn_pass d x1 = some z) : z.2.1 = d.1 := by
  unfold gn_pass at hf
  by_cases hn : d.1 ≤ 6
  rotate_left
  · rw [if_neg hn] at hf; cases hf
  rw [if_pos hn] at hf
  cases hq : f_X4_pass d.1 d.2.1 d.2.2 x1 with
  | none => rw [hq] at hf; cases hf
  | some y =>
    rw [hq] at hf
    cases y with
    | inl E => cases hf
    | inr z => cases hf; rfl
theorem nm_pass {d : Dk} {x1 : Int32} {z : Int32 × Dk} (hf : gm_pass d x1 = some z) : z.2.1 = d.1 := by
  unfold gm_pass at hf
  by_cases hn : d.1 ≤ 6
  rotate_left
  · rw [if_neg hn] at hf; cases hf
  rw [if_pos hn] at hf
  cases hq : f_X4_pass d.1 d.2.1 d.2.2 x1 with
  | none => rw [hq] at hf; cases hf
  | some y =>
    rw [hq] at hf
    cases y with
    | inl E => cases hf; rfl
    | inr z => cases hf; rfl
section
variable {p : Program} {l : Launch} {e : Env} {R : Room} {s : State} {m : MethodId} {args : Array Value} {below : List Frame} {meth : Method} {c : Code} {Q : State → Prop}
variable {D : va_G} {cA : Nat → ClassId} {A : Nat → Prop} {q : Nat → Nat}
abbrev rm_L_low : Room := { frames := 0, cells := 0, slots := 0, locals := 0 }
def f_L_low (x0 x1 : Int32) : Option (Int32) := if ¬ x1 = 0 then (some ((x0 &&& (2147483647 : Int32)) - (x0 &&& (2147483647 : Int32)) / x1 * x1)) else none
set_option maxHeartbeats 400000 in
set_option maxRecDepth 100000 in
theorem k_L_low {cA : Nat → ClassId} {D : va_G} (x0 x1 : Int32) {z : Int32} (hf : f_L_low x0 x1 = some z) : CtR yL_low cL_low 2 (some .int) rm_L_low [.int x0, .int x1] D cA [] (some (.int z)) 0 0 := by
  refine ctR_of (by decide) (Nat.le_of_ble_eq_true rfl) ?_
  intro p l e s m below meth c ls C hr hnm h hl
  have C : Cx p s m _ meth c cL_low 2 RL D cA := C
  obtain ⟨hx, hb, hml, hown, hts, hK, hlk⟩ := id C
  replace hl : lv_has ls 2 [(0, .int x0), (1, .int x1)] := hl
  rw [f_L_low] at hf
  refine lv_iload_n (pc := 0) hx hb dL_low_0 rfl (lv_at hl 0 rfl) ?_
  refine lv_ldc (pc := 1) (v := 2147483647) hx hb hown (hts _ kc_L_9) dL_low_1 ?_
  refine lv_iand (pc := 3) hx hb dL_low_3 ?_
  refine lv_iload_n (pc := 4) hx hb dL_low_4 rfl (lv_at hl 1 rfl) ?_
  obtain ⟨hne, hf⟩ := ifS hf
  refine lv_irem (pc := 5) hx hb dL_low_5 hne ?_
  have hf : (some ((x0 &&& (2147483647 : Int32)) - (x0 &&& (2147483647 : Int32)) / x1 * x1)) = some z := hf
  cases hf
  exact ret_iR (pc := 6) C hr h dL_low_6
abbrev rm_L_many : Room := { frames := 0, cells := 0, slots := 0, locals := 0 }
def f_L_many_4 : Nat → Int32 → Int32 → Int32 → Option (Int32 × Int32)
  | 0, _, _, _ => none
  | n + 1, x0, x1, x2 => (if (8 : Int32) ≤ x2 then some (x1, x2) else (f_L_many_4 n x0 (x1 + ((x0 >>> (x2 &&& 31)) &&& (1 : Int32))) (x2 + (1 : Int32))))
def f_L_many (x0 : Int32) : Option (Int32) := ((f_L_many_4 FU x0 (0 : Int32) (0 : Int32)).bind fun z1 => (some z1.1))
set_option maxHeartbeats 400000 in
set_option maxRecDepth 100000 in
theorem l_L_many_4 (C : Cx p s m args meth c cL_many 3 RL D cA) : ∀ (n : Nat) (x0 x1 x2 : Int32) (z : Int32 × Int32), f_L_many_4 n x0 x1 x2 = some z → ∀ (H : Heap) (locs : List Loc) (ls : Array Slot), SR D s.heap [] H locs → lv_has ls 3 [(0, .int x0), (1, .int x1), (2, .int x2)] → (∀ (H : Heap) (locs : List Loc) (ls : Array Slot), SR D s.heap [] H locs → lv_has ls 3 [(0, .int x0), (1, .int z.1), (2, .int z.2)] → W p l e rm_L_many s m args below meth c H locs 0 0 Q (F0 m 24 ls [])) → W p l e rm_L_many s m args below meth c H locs 0 0 Q (F0 m 4 ls []) := by
  obtain ⟨hx, hb, hml, hown, hts, hK, hlk⟩ := id C
  intro n
  induction n with
  | zero => intro x0 x1 x2 z hf; rw [f_L_many_4] at hf; cases hf
  | succ n ih =>
    intro x0 x1 x2 z hf H locs ls h hl kk
    rw [f_L_many_4] at hf
    refine lv_iload_n (pc := 4) hx hb dL_many_4 rfl (lv_at hl 2 rfl) ?_
    refine lv_bipush (pc := 5) (v := 8) hx hb dL_many_5 (by decide) ?_
    refine lv_icmp_ge (pc := 7) (tgt := 24) hx hb dL_many_7 (by decide) (fun c9 => ?_) (fun c9 => ?_)
    · have hf := ifT c9 hf
      have hf : some (x1, x2) = some z := hf
      cases hf
      exact kk _ _ _ h (lv_sub hl [0, 1, 2] rfl)
    · have hf := ifF c9 hf
      refine lv_iload_n (pc := 10) hx hb dL_many_10 rfl (lv_at hl 1 rfl) ?_
      refine lv_iload_n (pc := 11) hx hb dL_many_11 rfl (lv_at hl 0 rfl) ?_
      refine lv_iload_n (pc := 12) hx hb dL_many_12 rfl (lv_at hl 2 rfl) ?_
      refine lv_ishr (pc := 13) hx hb dL_many_13 ?_
      refine lv_iconst (pc := 14) (v := 1) hx hb dL_many_14 (by decide) ?_
      refine lv_iand (pc := 15) hx hb dL_many_15 ?_
      refine lv_iadd (pc := 16) hx hb dL_many_16 ?_
      refine lv_istore_n (pc := 17) (lv' := [(1, .int (x1 + ((x0 >>> (x2 &&& 31)) &&& (1 : Int32)))), (0, .int x0), (2, .int x2)]) hx hb dL_many_17 rfl hl (by decide) rfl (fun ls hl => ?_)
      refine lv_iinc (pc := 18) (v := (x2 + (1 : Int32))) (lv' := [(2, .int (x2 + (1 : Int32))), (1, .int (x1 + ((x0 >>> (x2 &&& 31)) &&& (1 : Int32)))), (0, .int x0)]) hx hb dL_many_18 hl (k := 2) rfl rfl (by decide) rfl (fun ls hl => ?_)
      refine lv_goto (pc := 21) (tgt := 4) hx hb dL_many_21 (by decide) ?_
      exact ih _ _ _ _ hf _ _ _ h (lv_sub hl [2, 1, 0] rfl) kk
set_option maxHeartbeats 400000 in
set_option maxRecDepth 100000 in
theorem k_L_many {cA : Nat → ClassId} {D : va_G} (x0 : Int32) {z : Int32} (hf : f_L_many x0 = some z) : CtR yL_many cL_many 3 (some .int) rm_L_many [.int x0] D cA [] (some (.int z)) 0 0 := by
  refine ctR_of (by decide) (Nat.le_of_ble_eq_true rfl) ?_
  intro p l e s m below meth c ls C hr hnm h hl
  have C : Cx p s m _ meth c cL_many 3 RL D cA := C
  obtain ⟨hx, hb, hml, hown, hts, hK, hlk⟩ := id C
  replace hl : lv_has ls 3 [(0, .int x0)] := hl
  rw [f_L_many] at hf
  refine lv_iconst (pc := 0) (v := 0) hx hb dL_many_0 (by decide) ?_
  refine lv_istore_n (pc := 1) (lv' := [(1, .int (0 : Int32)), (0, .int x0)]) hx hb dL_many_1 rfl hl (by decide) rfl (fun ls hl => ?_)
  refine lv_iconst (pc := 2) (v := 0) hx hb dL_many_2 (by decide) ?_
  refine lv_istore_n (pc := 3) (lv' := [(2, .int (0 : Int32)), (1, .int (0 : Int32)), (0, .int x0)]) hx hb dL_many_3 rfl hl (by decide) rfl (fun ls hl => ?_)
  obtain ⟨z1, hc1, hf⟩ := bdS hf
  refine l_L_many_4 C _ _ _ _ _ hc1 _ _ _ h (lv_sub hl [2, 1, 0] rfl) (fun H locs ls h hl => ?_)
  refine lv_iload_n (pc := 24) hx hb dL_many_24 rfl (lv_at hl 1 rfl) ?_
  have hf : (some z1.1) = some z := hf
  cases hf
  exact ret_iR (pc := 25) C hr h dL_many_25
end
