/-! The class's rows of numbers, and what the walks of the class call them by -/
section
variable {p : Program} {l : Launch} {e : Env} {R : Room} {s : State} {m : MethodId} {args : Array Value} {below : List Frame} {meth : Method} {c : Code} {H : Heap} {locs : List Loc} {cells slots : Nat} {Q : State → Prop}
variable {cc : ByteArray} {nL : Nat} {own : String} {D : va_G} {cA : Nat → ClassId} {A : Nat → Prop} {ws ws' : va_W} {pc : Nat} {ls : Array Slot} {rest : List Value} {H0 : Heap}
def rowW (a b : Nat) (cA : Nat → ClassId) (n : Nat) (g : Nat → Int32) : va_W := [(a, .inr (2, [.ref b])), (b, .inl (cA 0, n, .inl g))]
/-- Row.get -/
def rg (n : Nat) (g : Nat → Int32) (i : Int32) : Int32 := if i < 0 then 0 else if i < Int32.ofNat n then g i.toNatClampNeg else 0
/-- Row.set -/
def rs (n : Nat) (g : Nat → Int32) (i x : Int32) : Nat → Int32 := if i < 0 then g else if Int32.ofNat n ≤ i then g else upd g i.toNatClampNeg x
theorem in_row {i : Int32} {n : Nat} (hn : n < 2 ^ 31) (h0 : ¬ i < 0) (h1 : i < Int32.ofNat n) : vp_in i n := by
  rcases pk_ix i hn with h | h | ⟨j, hj, rfl⟩
  · exact absurd h h0
  · exact absurd h1 (Int32.not_lt.mpr h)
  · exact vp_in_nI hj hn
abbrev rm_row : Room := { frames := 0, cells := 0, slots := 0, locals := 0 }
set_option maxHeartbeats 400000 in
theorem k_X2_get {a b n : Nat} (hn : n < 2 ^ 31) (g : Nat → Int32) (i : Int32) {z : Int32} (hf : rg n g i = z) : CtR yX2_get cX2_get 2 (some .int) rm_row [.ref a, .int i] D cA (rowW a b cA n g) (some (.int z)) 0 0 := by
  refine ctR_of (by decide) (Nat.le_of_ble_eq_true rfl) ?_
  intro p l e s m below meth c ls C hr hnm h hl
  have C : Cx p s m _ meth c cX2_get 2 RX2 D cA := C
  obtain ⟨hx, hb, hml, hown, hts, hK, hlk⟩ := id C
  replace hl : lv_has ls 2 [(0, .ref a), (1, .int i)] := hl
  unfold rg at hf
  refine lv_iload_n (pc := 0) hx hb dX2_get_0 rfl (lv_at hl 1 rfl) ?_
  refine lv_if_lt (pc := 1) (tgt := 13) hx hb dX2_get_1 (by decide) (fun c1 => ?_) (fun c1 => ?_)
  · have hf := ifT c1 hf
    subst hf
    refine lv_iconst (pc := 13) (v := 0) hx hb dX2_get_13 (by decide) ?_
    refine lv_goto (pc := 14) (tgt := 23) hx hb dX2_get_14 (by decide) ?_
    exact ret_iR (pc := 23) C hr h dX2_get_23
  · have hf := ifF c1 hf
    refine lv_iload_n (pc := 4) hx hb dX2_get_4 rfl (lv_at hl 1 rfl) ?_
    refine lv_aload_n (pc := 5) hx hb dX2_get_5 rfl (lv_at hl 0 rfl) ?_
    refine g_get (pc := 6) (v := .ref b) C h.1 0 rfl fl_X2_7 rfl dX2_get_6 ?_
    refine g_ilen (pc := 9) (v := Int32.ofNat n) C h.1 1 rfl rfl dX2_get_9 ?_
    refine lv_icmp_lt (pc := 10) (tgt := 17) hx hb dX2_get_10 (by decide) (fun c2 => ?_) (fun c2 => ?_)
    · have hf := ifT c2 hf
      subst hf
      refine lv_aload_n (pc := 17) hx hb dX2_get_17 rfl (lv_at hl 0 rfl) ?_
      refine g_get (pc := 18) (v := .ref b) C h.1 0 rfl fl_X2_7 rfl dX2_get_18 ?_
      refine lv_iload_n (pc := 21) hx hb dX2_get_21 rfl (lv_at hl 1 rfl) ?_
      refine g_ild (pc := 22) (n := n) (f := g) C h.1 1 rfl (in_row hn c1 c2) dX2_get_22 ?_
      exact ret_iR (pc := 23) C hr h dX2_get_23
    · have hf := ifF c2 hf
      subst hf
      refine lv_iconst (pc := 13) (v := 0) hx hb dX2_get_13 (by decide) ?_
      refine lv_goto (pc := 14) (tgt := 23) hx hb dX2_get_14 (by decide) ?_
      exact ret_iR (pc := 23) C hr h dX2_get_23
set_option maxHeartbeats 400000 in
theorem k_X2_set {a b n : Nat} (hn : n < 2 ^ 31) (g : Nat → Int32) (i x : Int32) {z : Nat → Int32} (hf : rs n g i x = z) : CtU yX2_set cX2_set 3 none rm_row [.ref a, .int i, .int x] D cA (rowW a b cA n g) (rowW a b cA n z) none 0 0 := by
  refine ctU_of (by decide) (Nat.le_of_ble_eq_true rfl) ?_
  intro p l e s m below meth c ls C hr hnm h hl
  have C : Cx p s m _ meth c cX2_set 3 RX2 D cA := C
  obtain ⟨hx, hb, hml, hown, hts, hK, hlk⟩ := id C
  replace hl : lv_has ls 3 [(0, .ref a), (1, .int i), (2, .int x)] := hl
  unfold rs at hf
  refine lv_iload_n (pc := 0) hx hb dX2_set_0 rfl (lv_at hl 1 rfl) ?_
  refine lv_if_lt (pc := 1) (tgt := 20) hx hb dX2_set_1 (by decide) (fun c1 => ?_) (fun c1 => ?_)
  · have hf := ifT c1 hf
    subst hf
    exact ret_vU (pc := 20) C hr h dX2_set_20
  · have hf := ifF c1 hf
    refine lv_iload_n (pc := 4) hx hb dX2_set_4 rfl (lv_at hl 1 rfl) ?_
    refine lv_aload_n (pc := 5) hx hb dX2_set_5 rfl (lv_at hl 0 rfl) ?_
    refine g_get (pc := 6) (v := .ref b) C h.1 0 rfl fl_X2_7 rfl dX2_set_6 ?_
    refine g_ilen (pc := 9) (v := Int32.ofNat n) C h.1 1 rfl rfl dX2_set_9 ?_
    refine lv_icmp_ge (pc := 10) (tgt := 20) hx hb dX2_set_10 (by decide) (fun c2 => ?_) (fun c2 => ?_)
    · have hf := ifT c2 hf
      subst hf
      exact ret_vU (pc := 20) C hr h dX2_set_20
    · have hf := ifF c2 hf
      subst hf
      refine lv_aload_n (pc := 13) hx hb dX2_set_13 rfl (lv_at hl 0 rfl) ?_
      refine g_get (pc := 14) (v := .ref b) C h.1 0 rfl fl_X2_7 rfl dX2_set_14 ?_
      refine lv_iload_n (pc := 17) hx hb dX2_set_17 rfl (lv_at hl 1 rfl) ?_
      refine lv_iload_n (pc := 18) hx hb dX2_set_18 rfl (lv_at hl 2 rfl) ?_
      refine g_ist (pc := 19) (n := n) (f := g) (ws' := rowW a b cA n (upd g i.toNatClampNeg x)) C h 1 rfl (in_row hn c1 (Int32.not_le.mp c2)) rfl dX2_set_19 (fun H locs h => ?_)
      exact ret_vU (pc := 20) C hr h dX2_set_20
theorem set_self {ws : va_W} {k : Nat} {x : Nat × va_E} (h : ws[k]? = some x) : ws.set k x = ws := by
  apply List.ext_getElem?
  intro j
  by_cases hj : k = j
  · subst hj
    have hl := (List.getElem?_eq_some_iff.mp h).1
    rw [List.getElem?_set_self hl, h]
  · rw [List.getElem?_set_ne hj]
theorem row_sub {a b n pr pa : Nat} {g : Nat → Int32} (h1 : ws[pr]? = some (a, .inr (2, [.ref b]))) (h2 : ws[pa]? = some (b, .inl (cA 0, n, .inl g))) : [pr, pa].map (fun i => ws[i]?) = (rowW a b cA n g).map some := by
  show [ws[pr]?, ws[pa]?] = _
  rw [h1, h2]
  rfl
theorem call_rget (C : Cx p s m args meth c cc nL own D cA) (h : St D A s.heap ws H locs) {a b n pr pa idx : Nat} {g : Nat → Int32} {i : Int32} (hn : n < 2 ^ 31) (hnd : va_nd [pr, pa] = true) (h1 : ws[pr]? = some (a, .inr (2, [.ref b]))) (h2 : ws[pa]? = some (b, .inl (cA 0, n, .inl g))) (F : CWv own idx yX2_get cX2_get 2 (some .int) 1)
    (hsz : ls.size = nL) (hW : (rest.map fun v => v.category).sum ≤ 8) (hdg : decode cc pc = .ok (.invokevirtual idx, 3)) (hR : 0 + 1 ≤ R.frames ∧ 8 + (2 + 11) + 0 ≤ R.locals) (hrc : rm_row.cells = 0) (hrs : rm_row.slots = 0) (hfit : cells + 0 ≤ R.cells ∧ slots + 0 ≤ R.slots)
    (kk : ∀ (H1 : Heap) (locs1 : List Loc), St D A s.heap ws H1 locs1 → W p l e R s m args below meth c H1 locs1 cells slots Q (F0 m (pc + 3) ls (.int (rg n g i) :: rest))) : W p l e R s m args below meth c H locs cells slots Q (F0 m pc ls (.int i :: .ref a :: rest)) :=
  call_VR (As := [.int i]) (rest := rest) C h (k_X2_get hn g i rfl) F pr h1 rfl [pr, pa] (row_sub h1 h2) hnd rfl rfl hsz hW hdg hR hrc hrs hfit kk
theorem call_rgetR (C : Cx p s m args meth c cc nL own D cA) (h : SR D s.heap ws H locs) {a b n pr pa idx : Nat} {g : Nat → Int32} {i : Int32} (hn : n < 2 ^ 31) (hnd : va_nd [pr, pa] = true) (h1 : ws[pr]? = some (a, .inr (2, [.ref b]))) (h2 : ws[pa]? = some (b, .inl (cA 0, n, .inl g))) (F : CWv own idx yX2_get cX2_get 2 (some .int) 1)
    (hsz : ls.size = nL) (hW : (rest.map fun v => v.category).sum ≤ 8) (hdg : decode cc pc = .ok (.invokevirtual idx, 3)) (hR : 0 + 1 ≤ R.frames ∧ 8 + (2 + 11) + 0 ≤ R.locals) (hrc : rm_row.cells = 0) (hrs : rm_row.slots = 0) (hfit : cells + 0 ≤ R.cells ∧ slots + 0 ≤ R.slots)
    (kk : ∀ (H1 : Heap) (locs1 : List Loc), SR D s.heap ws H1 locs1 → W p l e R s m args below meth c H1 locs1 cells slots Q (F0 m (pc + 3) ls (.int (rg n g i) :: rest))) : W p l e R s m args below meth c H locs cells slots Q (F0 m pc ls (.int i :: .ref a :: rest)) :=
  call_VRR (As := [.int i]) (rest := rest) C h (k_X2_get hn g i rfl) F pr h1 rfl [pr, pa] (row_sub h1 h2) hnd rfl rfl hsz hW hdg hR hrc hrs hfit kk
theorem call_rset (C : Cx p s m args meth c cc nL own D cA) (h : St D A s.heap ws H locs) {a b n pr pa idx : Nat} {g : Nat → Int32} {i x : Int32} (hn : n < 2 ^ 31) (hnd : va_nd [pr, pa] = true) (h1 : ws[pr]? = some (a, .inr (2, [.ref b]))) (h2 : ws[pa]? = some (b, .inl (cA 0, n, .inl g))) (hput : ws.set pa (b, .inl (cA 0, n, .inl (rs n g i x))) = ws') (F : CWv own idx yX2_set cX2_set 3 none 2)
    (hsz : ls.size = nL) (hW : (rest.map fun v => v.category).sum ≤ 8) (hdg : decode cc pc = .ok (.invokevirtual idx, 3)) (hR : 0 + 1 ≤ R.frames ∧ 8 + (3 + 11) + 0 ≤ R.locals) (hrc : rm_row.cells = 0) (hrs : rm_row.slots = 0) (hfit : cells + 0 ≤ R.cells ∧ slots + 0 ≤ R.slots)
    (kk : ∀ (H1 : Heap) (locs1 : List Loc), St D A s.heap ws' H1 locs1 → W p l e R s m args below meth c H1 locs1 cells slots Q (F0 m (pc + 3) ls rest)) : W p l e R s m args below meth c H locs cells slots Q (F0 m pc ls (.int x :: .int i :: .ref a :: rest)) :=
  call_VU (As := [.int i, .int x]) (rest := rest) (wc' := rowW a b cA n (rs n g i x)) C h (k_X2_set hn g i x rfl) F pr h1 rfl [pr, pa] (row_sub h1 h2) hnd rfl (by
    show (ws.set pr (a, .inr (2, [.ref b]))).set pa (b, .inl (cA 0, n, .inl (rs n g i x))) = ws'
    rw [set_self h1]; exact hput) rfl rfl hsz hW hdg hR hrc hrs hfit kk
theorem sw_out {x : Int32} {n : Nat} (hn : n < 2 ^ 31) (h : ∀ k, k < n → ¬ x = nI k) : x.toInt < 0 ∨ (n : Int) - 1 < x.toInt := by
  rcases pk_ix x hn with h1 | h1 | ⟨j, hj, e⟩
  · exact Or.inl (by rw [Int32.lt_iff_toInt_lt, Int32.toInt_zero] at h1; exact h1)
  · refine Or.inr ?_
    rw [Int32.le_iff_toInt_le, nI_toInt hn] at h1
    omega
  · exact absurd e (h j hj)
end
/-! Math.max, Math.min -/
section
variable {p : Program} {l : Launch} {e : Env} {R : Room} {s : State} {m : MethodId} {args : Array Value} {below : List Frame} {meth : Method} {c : Code} {H : Heap} {locs : List Loc} {cells slots : Nat} {Q : State → Prop}
variable {cc : ByteArray} {nL : Nat} {own : String} {D : va_G} {cA : Nat → ClassId} {pc : Nat} {ls : Array Slot} {rest : List Value}
def mx (x y : Int32) : Int32 := if x < y then y else x
def mn (x y : Int32) : Int32 := if y < x then y else x
def MW2 (own : String) (idx : Nat) (y : MethodName) (cy : ByteArray) : Prop := Cond.methodLink own idx y ∈ WS ∧ Cond.static y ∈ WS ∧ Cond.initialized "java/lang/Math" ∈ WS ∧ Cond.code y cy 2 (some .int) ∈ WS
set_option maxRecDepth 20000 in
theorem mw_max : MW2 RX0 54 Lib.Math.max.name Lib.Math.max.code := ⟨wm 641 (by decide +kernel) rfl, wm 642 (by decide +kernel) rfl, wm 12 (by decide +kernel) rfl, wm 643 rfl rfl⟩
set_option maxRecDepth 20000 in
theorem mw_min : MW2 RX0 112 Lib.Math.min.name Lib.Math.min.code := ⟨wm 360 (by decide +kernel) rfl, wm 361 (by decide +kernel) rfl, wm 12 (by decide +kernel) rfl, wm 362 rfl rfl⟩
theorem g_mmax (C : Cx p s m args meth c cc nL own D cA) {idx : Nat} (F : MW2 own idx Lib.Math.max.name Lib.Math.max.code) (hsz : ls.size = nL) (hf : 1 ≤ R.frames) (hl : (rest.map fun v => v.category).sum + 13 ≤ R.locals) (hc : cells ≤ R.cells) (hs : slots ≤ R.slots) {x y : Int32} (hdg : decode cc pc = .ok (.invokestatic idx, 3))
    (kk : W p l e R s m args below meth c H locs cells slots Q (F0 m (pc + 3) ls (.int (mx x y) :: rest))) : W p l e R s m args below meth c H locs cells slots Q (F0 m pc ls (.int y :: .int x :: rest)) :=
  va_mmax C.1 C.2.1 (C.2.2.1.trans hsz.symm) C.2.2.2.1 (C.2.2.2.2.1 _ F.1) (C.2.2.2.2.1 _ F.2.1) (C.2.2.2.2.1 _ F.2.2.1) (C.2.2.2.2.1 _ F.2.2.2) hf hl hc hs hdg kk
theorem g_mmin (C : Cx p s m args meth c cc nL own D cA) {idx : Nat} (F : MW2 own idx Lib.Math.min.name Lib.Math.min.code) (hsz : ls.size = nL) (hf : 1 ≤ R.frames) (hl : (rest.map fun v => v.category).sum + 13 ≤ R.locals) (hc : cells ≤ R.cells) (hs : slots ≤ R.slots) {x y : Int32} (hdg : decode cc pc = .ok (.invokestatic idx, 3))
    (kk : W p l e R s m args below meth c H locs cells slots Q (F0 m (pc + 3) ls (.int (mn x y) :: rest))) : W p l e R s m args below meth c H locs cells slots Q (F0 m pc ls (.int y :: .int x :: rest)) :=
  va_mmin C.1 C.2.1 (C.2.2.1.trans hsz.symm) C.2.2.2.1 (C.2.2.2.2.1 _ F.1) (C.2.2.2.2.1 _ F.2.1) (C.2.2.2.2.1 _ F.2.2.1) (C.2.2.2.2.1 _ F.2.2.2) hf hl hc hs hdg kk
end
