section
variable {p : Program} {l : Launch} {e : Env} {R : Room} {s : State} {m : MethodId} {args : Array Value} {below : List Frame} {meth : Method} {c : Code} {Q : State → Prop}
variable {D : va_G} {cA : Nat → ClassId} {A : Nat → Prop} {q : Nat → Nat}
def rmC (N : Nat) : Room := { frames := N + 2, cells := 0, slots := 0, locals := 25 * N + 44 }
theorem rmC_ok (N : Nat) : ((rmC N).frames + 1 ≤ (rmC (N + 1)).frames ∧ 8 + (6 + 11) + (rmC N).locals ≤ (rmC (N + 1)).locals) ∧ True := by
  refine ⟨⟨?_, ?_⟩, trivial⟩
  · show N + 2 + 1 ≤ N + 1 + 2; omega
  · show 8 + (6 + 11) + (25 * N + 44) ≤ 25 * (N + 1) + 44; omega
theorem rm_le {a N : Nat} (h : a ≤ 2) : a ≤ (rmC (N + 1)).frames := by show a ≤ N + 1 + 2; omega
theorem rm_ll {a N : Nat} (h : a ≤ 69) : a ≤ (rmC (N + 1)).locals := by show a ≤ 25 * (N + 1) + 44; omega
theorem eW_alls (q : Nat → Nat) (cA : Nat → ClassId) (σ : Nat → Nat → Int32) : (List.range 20).map (fun i => (eW q cA σ)[i]?) = (eW q cA σ).map some := rfl
def f_X4_countByTrying_30 (rec : Int32 → Int32 → Option Int32) : Nat → (Nat → Nat → Int32) → Int32 → Int32 → Int32 → Int32 → Int32 → Option (Int32 × Int32)
  | 0, _, _, _, _, _, _ => none
  | n + 1, σ, x1, x2, x3, x4, x5 => (if (σ 10 0) ≤ x5 then some (x4, x5) else (if (f_X4_has x3 x5) = 0 then (f_X4_countByTrying_30 rec n σ x1 x2 x3 x4 (x5 + (1 : Int32))) else ((rec (x1 ||| ((1 : Int32) <<< (x5 &&& 31))) (x2 + (1 : Int32))).bind fun z2 => (f_X4_countByTrying_30 rec n σ x1 x2 x3 (x4 + z2) (x5 + (1 : Int32))))))
def f_X4_countByTrying (σ : Nat → Nat → Int32) : Nat → Int32 → Int32 → Option Int32
  | 0, _, _ => none
  | N + 1, x1, x2 => (if x2 < (σ 10 0) then (if x2 < (8 : Int32) then ((f_X0_nextBehind σ x1).bind fun z1 => ((f_X4_countByTrying_30 (f_X4_countByTrying σ N) FU σ x1 x2 z1 (0 : Int32) (0 : Int32)).bind fun z2 => (some z2.1))) else (some (0 : Int32))) else (some (1 : Int32)))
set_option maxHeartbeats 400000 in
set_option maxRecDepth 100000 in
theorem l_X4_countByTrying_30 {N : Nat} (rec : Int32 → Int32 → Option Int32) (σ : Nat → Nat → Int32) (K : ∀ a b z, rec a b = some z → CtR yX4_countByTrying cX4_countByTrying 6 (some .int) (rmC N) [.ref (q 0), .int a, .int b] D cA (eW q cA σ) (some (.int z)) 0 0) (C : Cx p s m args meth c cX4_countByTrying 6 RX4 D cA) : ∀ (n : Nat) (x1 x2 x3 x4 x5 : Int32) (z : Int32 × Int32), f_X4_countByTrying_30 rec n σ x1 x2 x3 x4 x5 = some z → ∀ (H : Heap) (locs : List Loc) (ls : Array Slot), SR D s.heap (eW q cA σ) H locs → lv_has ls 6 [(0, .ref (q 0)), (1, .int x1), (2, .int x2), (3, .int x3), (4, .int x4), (5, .int x5)] → (∀ (H : Heap) (locs : List Loc) (ls : Array Slot), SR D s.heap (eW q cA σ) H locs → lv_has ls 6 [(0, .ref (q 0)), (1, .int x1), (2, .int x2), (3, .int x3), (4, .int z.1), (5, .int z.2)] → W p l e (rmC (N + 1)) s m args below meth c H locs 0 0 Q (F0 m 72 ls [])) → W p l e (rmC (N + 1)) s m args below meth c H locs 0 0 Q (F0 m 30 ls []) := by
  obtain ⟨hx, hb, hml, hown, hts, hK, hlk⟩ := id C
  intro n
  induction n with
  | zero => intro x1 x2 x3 x4 x5 z hf; rw [f_X4_countByTrying_30] at hf; cases hf
  | succ n ih =>
    intro x1 x2 x3 x4 x5 z hf H locs ls h hl kk
    rw [f_X4_countByTrying_30] at hf
    refine lv_iload (pc := 30) hx hb dX4_countByTrying_30 (lv_at hl 5 rfl) ?_
    refine lv_aload_n (pc := 32) hx hb dX4_countByTrying_32 rfl (lv_at hl 0 rfl) ?_
    refine g_get (pc := 33) (v := .int (σ 10 0)) C h.1 0 (eW_c0 _ _ _) fl_X4_63 rfl dX4_countByTrying_33 ?_
    refine lv_icmp_ge (pc := 36) (tgt := 72) hx hb dX4_countByTrying_36 (by decide) (fun c9 => ?_) (fun c9 => ?_)
    · have hf := ifT c9 hf
      have hf : some (x4, x5) = some z := hf
      cases hf
      exact kk _ _ _ h (lv_sub hl [0, 1, 2, 3, 4, 5] rfl)
    · have hf := ifF c9 hf
      refine lv_iload_n (pc := 39) hx hb dX4_countByTrying_39 rfl (lv_at hl 3 rfl) ?_
      refine lv_iload (pc := 40) hx hb dX4_countByTrying_40 (lv_at hl 5 rfl) ?_
      refine call_SRR (pc := 42) (As := [.int x3, .int x5]) (rest := []) (wc := []) C h (k_X4_has x3 x5 rfl) cw_X4_82 [] rfl rfl rfl rfl hl.1 (Nat.le_of_ble_eq_true rfl) dX4_countByTrying_42 ⟨rm_le (by decide) (N := N), rm_ll (by decide) (N := N)⟩ rfl rfl ⟨Nat.zero_le _, Nat.zero_le _⟩ (fun H locs h => ?_)
      refine W.eq (g2 := F0 m 45 ls [.int (f_X4_has x3 x5)]) rfl ?_
      refine lv_if_eq (pc := 45) (tgt := 66) hx hb dX4_countByTrying_45 (by decide) (fun c9 => ?_) (fun c9 => ?_)
      · have hf := ifT c9 hf
        refine lv_iinc (pc := 66) (v := (x5 + (1 : Int32))) (lv' := [(5, .int (x5 + (1 : Int32))), (0, .ref (q 0)), (1, .int x1), (2, .int x2), (3, .int x3), (4, .int x4)]) hx hb dX4_countByTrying_66 hl (k := 5) rfl rfl (by decide) rfl (fun ls hl => ?_)
        refine lv_goto (pc := 69) (tgt := 30) hx hb dX4_countByTrying_69 (by decide) ?_
        exact ih _ _ _ _ _ _ hf _ _ _ h (lv_sub hl [1, 2, 3, 4, 5, 0] rfl) kk
      · have hf := ifF c9 hf
        refine lv_iload (pc := 48) hx hb dX4_countByTrying_48 (lv_at hl 4 rfl) ?_
        refine lv_aload_n (pc := 50) hx hb dX4_countByTrying_50 rfl (lv_at hl 0 rfl) ?_
        refine lv_iload_n (pc := 51) hx hb dX4_countByTrying_51 rfl (lv_at hl 1 rfl) ?_
        refine lv_iconst (pc := 52) (v := 1) hx hb dX4_countByTrying_52 (by decide) ?_
        refine lv_iload (pc := 53) hx hb dX4_countByTrying_53 (lv_at hl 5 rfl) ?_
        refine lv_ishl (pc := 55) hx hb dX4_countByTrying_55 ?_
        refine lv_ior (pc := 56) hx hb dX4_countByTrying_56 ?_
        refine lv_iload_n (pc := 57) hx hb dX4_countByTrying_57 rfl (lv_at hl 2 rfl) ?_
        refine lv_iconst (pc := 58) (v := 1) hx hb dX4_countByTrying_58 (by decide) ?_
        refine lv_iadd (pc := 59) hx hb dX4_countByTrying_59 ?_
        obtain ⟨z2, hc2, hf⟩ := bdS hf
        refine call_SRR (pc := 60) (As := [.ref (q 0), .int (x1 ||| ((1 : Int32) <<< (x5 &&& 31))), .int (x2 + (1 : Int32))]) (rest := [.int x4]) C h (K _ _ _ hc2) cw_X4_192 (List.range 20) (eW_alls ..) (by decide) rfl rfl hl.1 (Nat.le_of_ble_eq_true rfl) dX4_countByTrying_60 (rmC_ok N).1 rfl rfl ⟨Nat.zero_le _, Nat.zero_le _⟩ (fun H locs h => ?_)
        refine W.eq (g2 := F0 m 63 ls [.int z2, .int x4]) rfl ?_
        refine lv_iadd (pc := 63) hx hb dX4_countByTrying_63 ?_
        refine lv_istore (pc := 64) (lv' := [(4, .int (x4 + z2)), (0, .ref (q 0)), (1, .int x1), (2, .int x2), (3, .int x3), (5, .int x5)]) hx hb dX4_countByTrying_64 hl (by decide) rfl (fun ls hl => ?_)
        refine lv_iinc (pc := 66) (v := (x5 + (1 : Int32))) (lv' := [(5, .int (x5 + (1 : Int32))), (4, .int (x4 + z2)), (0, .ref (q 0)), (1, .int x1), (2, .int x2), (3, .int x3)]) hx hb dX4_countByTrying_66 hl (k := 5) rfl rfl (by decide) rfl (fun ls hl => ?_)
        refine lv_goto (pc := 69) (tgt := 30) hx hb dX4_countByTrying_69 (by decide) ?_
        exact ih _ _ _ _ _ _ hf _ _ _ h (lv_sub hl [2, 3, 4, 5, 1, 0] rfl) kk
set_option maxHeartbeats 400000 in
set_option maxRecDepth 100000 in
theorem k_X4_countByTrying {q : Nat → Nat} {cA : Nat → ClassId} {D : va_G} (σ : Nat → Nat → Int32) : ∀ (N : Nat) (x1 x2 z : Int32), f_X4_countByTrying σ N x1 x2 = some z → CtR yX4_countByTrying cX4_countByTrying 6 (some .int) (rmC N) [.ref (q 0), .int x1, .int x2] D cA (eW q cA σ) (some (.int z)) 0 0 := by
  intro N
  induction N with
  | zero => intro x1 x2 z hf; rw [f_X4_countByTrying] at hf; cases hf
  | succ N K =>
    intro x1 x2 z hf
    refine ctR_of (by decide) (Nat.le_of_ble_eq_true rfl) ?_
    intro p l e s m below meth c ls C hr hnm h hl
    have C : Cx p s m _ meth c cX4_countByTrying 6 RX4 D cA := C
    obtain ⟨hx, hb, hml, hown, hts, hK, hlk⟩ := id C
    replace hl : lv_has ls 6 [(0, .ref (q 0)), (1, .int x1), (2, .int x2)] := hl
    rw [f_X4_countByTrying] at hf
    refine lv_iload_n (pc := 0) hx hb dX4_countByTrying_0 rfl (lv_at hl 2 rfl) ?_
    refine lv_aload_n (pc := 1) hx hb dX4_countByTrying_1 rfl (lv_at hl 0 rfl) ?_
    refine g_get (pc := 2) (v := .int (σ 10 0)) C h.1 0 (eW_c0 _ _ _) fl_X4_63 rfl dX4_countByTrying_2 ?_
    refine lv_icmp_lt (pc := 5) (tgt := 10) hx hb dX4_countByTrying_5 (by decide) (fun c9 => ?_) (fun c9 => ?_)
    · have hf := ifT c9 hf
      refine lv_iload_n (pc := 10) hx hb dX4_countByTrying_10 rfl (lv_at hl 2 rfl) ?_
      refine lv_bipush (pc := 11) (v := 8) hx hb dX4_countByTrying_11 (by decide) ?_
      refine lv_icmp_lt (pc := 13) (tgt := 18) hx hb dX4_countByTrying_13 (by decide) (fun c9 => ?_) (fun c9 => ?_)
      · have hf := ifT c9 hf
        refine lv_aload_n (pc := 18) hx hb dX4_countByTrying_18 rfl (lv_at hl 0 rfl) ?_
        refine lv_iload_n (pc := 19) hx hb dX4_countByTrying_19 rfl (lv_at hl 1 rfl) ?_
        obtain ⟨z1, hc1, hf⟩ := bdS hf
        refine call_VRsR (pc := 20) (As := [.int x1]) (rest := []) C h (k_X0_nextBehind σ x1 hc1) cw_X4_229 0 (eW_c0 _ _ _) rfl rfl rfl hl.1 (Nat.le_of_ble_eq_true rfl) dX4_countByTrying_20 ⟨rm_le (by decide) (N := N), rm_ll (by decide) (N := N)⟩ rfl rfl ⟨Nat.zero_le _, Nat.zero_le _⟩ (fun H locs h => ?_)
        refine W.eq (g2 := F0 m 23 ls [.int z1]) rfl ?_
        refine lv_istore_n (pc := 23) (lv' := [(3, .int z1), (0, .ref (q 0)), (1, .int x1), (2, .int x2)]) hx hb dX4_countByTrying_23 rfl hl (by decide) rfl (fun ls hl => ?_)
        refine lv_iconst (pc := 24) (v := 0) hx hb dX4_countByTrying_24 (by decide) ?_
        refine lv_istore (pc := 25) (lv' := [(4, .int (0 : Int32)), (3, .int z1), (0, .ref (q 0)), (1, .int x1), (2, .int x2)]) hx hb dX4_countByTrying_25 hl (by decide) rfl (fun ls hl => ?_)
        refine lv_iconst (pc := 27) (v := 0) hx hb dX4_countByTrying_27 (by decide) ?_
        refine lv_istore (pc := 28) (lv' := [(5, .int (0 : Int32)), (4, .int (0 : Int32)), (3, .int z1), (0, .ref (q 0)), (1, .int x1), (2, .int x2)]) hx hb dX4_countByTrying_28 hl (by decide) rfl (fun ls hl => ?_)
        obtain ⟨z2, hc2, hf⟩ := bdS hf
        refine l_X4_countByTrying_30 (f_X4_countByTrying σ N) σ K C _ _ _ _ _ _ _ hc2 _ _ _ h (lv_sub hl [3, 4, 5, 2, 1, 0] rfl) (fun H locs ls h hl => ?_)
        refine lv_iload (pc := 72) hx hb dX4_countByTrying_72 (lv_at hl 4 rfl) ?_
        have hf : (some z2.1) = some z := hf
        cases hf
        exact ret_iR (pc := 74) C hr h dX4_countByTrying_74
      · have hf := ifF c9 hf
        refine lv_iconst (pc := 16) (v := 0) hx hb dX4_countByTrying_16 (by decide) ?_
        have hf : (some (0 : Int32)) = some z := hf
        cases hf
        exact ret_iR (pc := 17) C hr h dX4_countByTrying_17
    · have hf := ifF c9 hf
      refine lv_iconst (pc := 8) (v := 1) hx hb dX4_countByTrying_8 (by decide) ?_
      have hf : (some (1 : Int32)) = some z := hf
      cases hf
      exact ret_iR (pc := 9) C hr h dX4_countByTrying_9
end
