/-! Making: new objects and arrays, constructors -/
section
variable {p : Program} {l : Launch} {e : Env} {R : Room} {s : State} {m : MethodId} {args : Array Value} {below : List Frame} {meth : Method} {c : Code} {H : Heap} {locs : List Loc} {cells slots : Nat} {Q : State → Prop}
variable {cc : ByteArray} {nL : Nat} {own : String} {D : va_G} {cA : Nat → ClassId} {A : Nat → Prop} {ws ws' wc wr : va_W} {pc : Nat} {ls : Array Slot} {rest : List Value} {a : Nat} {H0 : Heap}
theorem ow_X4 : Cond.methodLink RX4 3 Lib.objectInit ∈ WS := wm 19 (by decide +kernel) rfl
theorem ow_X2 : Cond.methodLink RX2 1 Lib.objectInit ∈ WS := wm 31 (by decide +kernel) rfl
theorem ow_X0 : Cond.methodLink RX0 3 Lib.objectInit ∈ WS := wm 546 (by decide +kernel) rfl
theorem ow_X1 : Cond.methodLink RX1 3 Lib.objectInit ∈ WS := wm 554 (by decide +kernel) rfl
theorem ow_X3 : Cond.methodLink RX3 3 Lib.objectInit ∈ WS := wm 41 (by decide +kernel) rfl
theorem ow_i : Cond.instanceMethod Lib.objectInit ∈ WS := wm 20 (by decide +kernel) rfl
set_option maxRecDepth 20000 in
theorem ow_c : Cond.code Lib.objectInit ⟨#[0xb1]⟩ 1 none ∈ WS := wm 21 (by decide +kernel) rfl
theorem aw_int : Cond.arrayClass .int ∈ WS := wm 36 (by decide +kernel) rfl
theorem iw_X2 : Cond.instantiable RX2 1 ∈ WS ∧ Cond.initialized RX2 ∈ WS := ⟨wm 27 (by decide +kernel) rfl, wm 2 (by decide +kernel) rfl⟩
theorem iw_X3 : Cond.instantiable RX3 5 ∈ WS ∧ Cond.initialized RX3 ∈ WS := ⟨wm 37 (by decide +kernel) rfl, wm 3 (by decide +kernel) rfl⟩
theorem iw_X0 : Cond.instantiable RX0 13 ∈ WS ∧ Cond.initialized RX0 ∈ WS := ⟨wm 542 (by decide +kernel) rfl, wm 9 (by decide +kernel) rfl⟩
theorem iw_X1 : Cond.instantiable RX1 5 ∈ WS ∧ Cond.initialized RX1 ∈ WS := ⟨wm 550 (by decide +kernel) rfl, wm 10 (by decide +kernel) rfl⟩
theorem iw_X4 : Cond.instantiable RX4 5 ∈ WS ∧ Cond.initialized RX4 ∈ WS := ⟨wm 15 (by decide +kernel) rfl, wm 1 (by decide +kernel) rfl⟩
theorem lw_L_11 : Cond.classLink RL 11 RX4 ∈ WS := wm 14 (by decide +kernel) rfl
theorem lw_X4_9 : Cond.classLink RX4 9 RX0 ∈ WS := wm 22 (by decide +kernel) rfl
theorem lw_X4_15 : Cond.classLink RX4 15 RX3 ∈ WS := wm 24 (by decide +kernel) rfl
theorem lw_X4_21 : Cond.classLink RX4 21 RX2 ∈ WS := wm 26 (by decide +kernel) rfl
theorem lw_X0_9 : Cond.classLink RX0 9 RX2 ∈ WS := wm 547 (by decide +kernel) rfl
theorem lw_X0_32 : Cond.classLink RX0 32 RX1 ∈ WS := wm 549 (by decide +kernel) rfl
theorem lw_X1_9 : Cond.classLink RX1 9 RX2 ∈ WS := wm 555 (by decide +kernel) rfl
set_option maxRecDepth 20000 in
theorem cn_L_221 : Cond.methodLink RL 221 yX4_init ∈ WS ∧ Cond.instanceMethod yX4_init ∈ WS ∧ Cond.initialized yX4_init.cls ∈ WS ∧ Cond.code yX4_init cX4_init 2 none ∈ WS := ⟨wm 16 (by decide +kernel) rfl, wm 17 (by decide +kernel) rfl, wm 1 (by decide +kernel) rfl, wm 18 rfl rfl⟩
set_option maxRecDepth 20000 in
theorem cn_X4_23 : Cond.methodLink RX4 23 yX2_init ∈ WS ∧ Cond.instanceMethod yX2_init ∈ WS ∧ Cond.initialized yX2_init.cls ∈ WS ∧ Cond.code yX2_init cX2_init 2 none ∈ WS := ⟨wm 28 (by decide +kernel) rfl, wm 29 (by decide +kernel) rfl, wm 2 (by decide +kernel) rfl, wm 30 rfl rfl⟩
set_option maxRecDepth 20000 in
theorem cn_X0_11 : Cond.methodLink RX0 11 yX2_init ∈ WS ∧ Cond.instanceMethod yX2_init ∈ WS ∧ Cond.initialized yX2_init.cls ∈ WS ∧ Cond.code yX2_init cX2_init 2 none ∈ WS := ⟨wm 548 (by decide +kernel) rfl, wm 29 (by decide +kernel) rfl, wm 2 (by decide +kernel) rfl, wm 30 rfl rfl⟩
set_option maxRecDepth 20000 in
theorem cn_X1_11 : Cond.methodLink RX1 11 yX2_init ∈ WS ∧ Cond.instanceMethod yX2_init ∈ WS ∧ Cond.initialized yX2_init.cls ∈ WS ∧ Cond.code yX2_init cX2_init 2 none ∈ WS := ⟨wm 556 (by decide +kernel) rfl, wm 29 (by decide +kernel) rfl, wm 2 (by decide +kernel) rfl, wm 30 rfl rfl⟩
set_option maxRecDepth 20000 in
theorem cnn_X3 : Cond.instanceMethod yX3_init ∈ WS ∧ Cond.initialized yX3_init.cls ∈ WS ∧ Cond.code yX3_init cX3_init 1 none ∈ WS := ⟨wm 39 (by decide +kernel) rfl, wm 3 (by decide +kernel) rfl, wm 40 rfl rfl⟩
set_option maxRecDepth 20000 in
theorem cnn_X0 : Cond.instanceMethod yX0_init ∈ WS ∧ Cond.initialized yX0_init.cls ∈ WS ∧ Cond.code yX0_init cX0_init 1 none ∈ WS := ⟨wm 544 (by decide +kernel) rfl, wm 9 (by decide +kernel) rfl, wm 545 rfl rfl⟩
set_option maxRecDepth 20000 in
theorem cnn_X1 : Cond.instanceMethod yX1_init ∈ WS ∧ Cond.initialized yX1_init.cls ∈ WS ∧ Cond.code yX1_init cX1_init 1 none ∈ WS := ⟨wm 552 (by decide +kernel) rfl, wm 10 (by decide +kernel) rfl, wm 553 rfl rfl⟩
def PostN (D : va_G) (ws : va_W) (W' : (Nat → Nat) → va_W) (a sz : Nat) : Array Value → State → Outcome → State → Prop := fun _ st oc t => oc = .returned none ∧ ∃ q : Nat → Nat, q 0 = a ∧ va_P D vwCl (W' q) t.heap ∧ va_D (va_A ws sz) (W' q) ∧ va_F (va_A ws sz) st t
/-- a constructor: behind it the object's cells are W' at some addresses -/
def CtN (y : MethodName) (cc : ByteArray) (maxL : Nat) (rm : Room) (As : List Value) (D : va_G) (cA : Nat → ClassId) (ws : va_W) (W' : (Nat → Nat) → va_W) (a : Nat) (mc ms : Nat) : Prop :=
  ∀ (l : Launch) (sz : Nat), Met l y (mws y cc maxL none) rm (PreC D cA sz ws As) (PostN D ws W' a sz) mc ms (va_A ws sz)
theorem ctN_of {y : MethodName} {maxL : Nat} {rm : Room} {As : List Value} {W' : (Nat → Nat) → va_W} {mc ms : Nat} (hy : plainName y.cls = true) (hlen : (lg_sl As).length ≤ maxL)
    (body : ∀ (p : Program) (l : Launch) (e : Env) (s : State) (m : MethodId) (below : List Frame) (meth : Method) (c : Code) (ls : Array Slot), Cx p s m As.toArray meth c cc maxL y.cls D cA → meth.sig.returnType = none → meth.name = y.name →
      St D (va_A ws s.heap.size) s.heap ws s.heap [] → lv_has ls maxL (lv_args 0 As) → W p l e rm s m As.toArray below meth c s.heap [] 0 0 (MQ below (PostN D ws W' a s.heap.size) As.toArray s mc ms (va_A ws s.heap.size)) (F0 m 0 ls [])) :
    CtN y cc maxL rm As D cA ws W' a mc ms := by
  intro l sz
  refine Met.ofW (cc := cc) (maxL := maxL) (ret := none) hy rfl ?_
  intro p e s m args below meth c s₁ B hml hv
  obtain ⟨rfl, hsz, hP, hK, hD0⟩ := hv
  subst hsz
  have hts := atoms_spec (ws := mws y cc maxL none) B.pre
  have hown : s.vm.findClass y.cls = some m.cls := findClass_of_methodNamed B.named
  have hl := lv_entry As (n := maxL) hlen
  rw [lg_entry_eq]
  exact body p l e s m below meth c _ ⟨B.exec, B.bytes, hml, hown, fun w hw => hts w (List.mem_cons_of_mem _ hw), hK, B.notSynchronized⟩ B.returns (name_of_methodNamed B.named B.method).1 ⟨hP, hD0.self, va_S.rf, fun q h => Or.inr h⟩ hl
theorem ret_vN {W' : (Nat → Nat) → va_W} (C : Cx p s m args meth c cc nL own D cA) (hr : meth.sig.returnType = none) (q : Nat → Nat) (hq : q 0 = a) (hP : va_P D vwCl (W' q) H) (hD : va_D (va_A ws s.heap.size) (W' q)) (h : St D (va_A ws s.heap.size) s.heap ws' H locs) (hdg : decode cc pc = .ok (.return_, 1)) :
    W p l e R s m args below meth c H locs cells slots (MQ below (PostN D ws W' a s.heap.size) args s cells slots (va_A ws s.heap.size)) (F0 m pc ls []) :=
  W.vret C.1 C.2.1 hr (fun t ht hW => ⟨rfl, q, hq, by rw [ht]; exact hP, hD, h.2.2.1.F ht⟩) h.2.2.1.2.2 hdg (hlocks := C.2.2.2.2.2.2)
theorem g_obj (C : Cx p s m args meth c cc nL own D cA) {idx : Nat} (F : Cond.methodLink own idx Lib.objectInit ∈ WS) (hsz : ls.size = nL) (hd : decode cc pc = .ok (.invokespecial idx, 3)) (hf : 1 ≤ R.frames) (hl : (rest.map fun v => v.category).sum + 12 ≤ R.locals)
    (kk : W p l e R s m args below meth c H locs cells slots Q (F0 m (pc + 3) ls rest)) : W p l e R s m args below meth c H locs cells slots Q (F0 m pc ls (.ref a :: rest)) :=
  W.objInit C.1 C.2.1 C.2.2.2.1 (C.2.2.2.2.1 _ F) (C.2.2.2.2.1 _ ow_i) (C.2.2.2.2.1 _ ow_c) rfl (by rw [C.2.2.1]; exact hsz) rfl hd hf (by show 2 * 0 + _ + 12 ≤ _; omega) kk
theorem g_new (C : Cx p s m args meth c cc nL own D cA) (h : St D A s.heap ws H locs) {ci N idx : Nat} {Cn : String} {T : u_T} {fs : List Value} (hin : ∀ w ∈ u_ws Cn T N, w ∈ WS) (ty : Nat → FieldType) (hty : ∀ k, k < N → parseFieldDescriptor (T k).2.2.1 = some (ty k)) (hcl : Cond.classLink own idx Cn ∈ WS) (hiw : Cond.instantiable Cn N ∈ WS ∧ Cond.initialized Cn ∈ WS) (hc : vwCl[ci]? = some (Cn, T, N)) (hfs : ∀ j, j < N → defaultValue (ty j) = vp_V fs j) (hcells : cells + 1 ≤ R.cells) (hslots : slots + N ≤ R.slots) (hdg : decode cc pc = .ok (.new idx, 3))
    (kk : ∀ (q : Nat) (H1 : Heap), St D A s.heap (ws ++ [(q, .inr (ci, fs))]) H1 locs → W p l e R s m args below meth c H1 locs (cells + 1) (slots + N) Q (F0 m (pc + 3) ls (.ref q :: rest))) : W p l e R s m args below meth c H locs cells slots Q (F0 m pc ls rest) := by
  obtain ⟨hx, hb, hml, hown, hts, hK, hlk⟩ := C
  obtain ⟨hP, hD, hS, hA⟩ := h
  exact va_new hx hb hts hin ty hty hown (hts _ hcl) (hts _ hiw.1) (hts _ hiw.2) hK.1 hP hD hS hA hc hfs hcells hslots hdg (fun q H1 h1 h2 h3 => kk q H1 ⟨h1, h2, h3, hA⟩)
theorem tyl_uniq {k : Nat} {ty : FieldType} {x : ClassId} (hk : (tyl cA)[k]? = some (cA k, ty)) (h : va_K D vwCl (tyl cA ++ [(x, ty)]) s) : x = cA k := by
  have hl : (tyl cA).length = 3 := rfl
  have hk5 : k < 3 := by have := (List.getElem?_eq_some_iff.mp hk).1; omega
  have h1 := (h.2 k (cA k, ty) (by rw [List.getElem?_append_left (by omega)]; exact hk)).2
  have h2 := (h.2 3 (x, ty) (by rw [List.getElem?_append_right (by omega)]; rfl)).2
  cases ty with
  | object C =>
    obtain ⟨_, _, _, _, _, e1⟩ := h1
    obtain ⟨_, _, _, _, _, e2⟩ := h2
    exact (Option.some.inj (e1.symm.trans e2)).symm
  | _ => exact (Option.some.inj (Eq.trans (Eq.symm h1) h2)).symm
theorem g_newi (C : Cx p s m args meth c cc nL own D cA) (h : St D A s.heap ws H locs) {n : Int32} {N' : Nat} (hn : ¬ n < 0) (hN : n.toNatClampNeg = N') (hbytes : N' * 4 ≤ 536870912) (hcells : cells + 1 ≤ R.cells) (hslots : slots + N' ≤ R.slots) (hdg : decode cc pc = .ok (.newarray .int, 2))
    (kk : ∀ (q : Nat) (H1 : Heap), St D A s.heap (ws ++ [(q, .inl (cA 0, N', .inl (fun _ => 0)))]) H1 locs → W p l e R s m args below meth c H1 locs (cells + 1) (slots + N') Q (F0 m (pc + 2) ls (.ref q :: rest))) : W p l e R s m args below meth c H locs cells slots Q (F0 m pc ls (.int n :: rest)) := by
  obtain ⟨hx, hb, hml, hown, hts, hK, hlk⟩ := C
  obtain ⟨hP, hD, hS, hA⟩ := h
  refine va_newa (atype := .int) (ty := .int) (a0 := (N', .inl (fun _ => 0))) hx hb (hts _ aw_int) rfl hK.1 hP hD hS hA (fun cA => rfl) hn hN hbytes hcells hslots hdg (fun q cA' H1 h1 h2 h3 h4 => ?_)
  have he := tyl_uniq (k := 0) rfl h1
  subst he
  exact kk q H1 ⟨h2, h3, h4, hA⟩
theorem g_newq (C : Cx p s m args meth c cc nL own D cA) (h : St D A s.heap ws H locs) {idx k : Nat} {Cn : String} (hcl : Cond.classLink own idx Cn ∈ WS) (hao : va_AO Cn s) (hk : (tyl cA)[k]? = some (cA k, .object Cn)) {n : Int32} {N' : Nat} (hn : ¬ n < 0) (hN : n.toNatClampNeg = N') (hbytes : N' * 4 ≤ 536870912) (hcells : cells + 1 ≤ R.cells) (hslots : slots + N' ≤ R.slots) (hdg : decode cc pc = .ok (.anewarray idx, 3))
    (kk : ∀ (q : Nat) (H1 : Heap), St D A s.heap (ws ++ [(q, .inl (cA k, N', .inr (.inr (.inr (.inr (fun _ => none))))))]) H1 locs → W p l e R s m args below meth c H1 locs (cells + 1) (slots + N') Q (F0 m (pc + 3) ls (.ref q :: rest))) : W p l e R s m args below meth c H locs cells slots Q (F0 m pc ls (.int n :: rest)) := by
  obtain ⟨hx, hb, hml, hown, hts, hK, hlk⟩ := C
  obtain ⟨hP, hD, hS, hA⟩ := h
  refine va_newq hx hb hown (hts _ hcl) hao hK.1 hP hD hS hA hn hN hbytes hcells hslots hdg (fun q cA' H1 h1 h2 h3 h4 => ?_)
  have he := tyl_uniq hk h1
  subst he
  exact kk q H1 ⟨h2, h3, h4, hA⟩
theorem g_astq (C : Cx p s m args meth c cc nL own D cA) (h : St D A H0 ws H locs) (q0 t0 qk ci : Nat) {r : vw_C} {n v : Nat} {vs : List Value} {f : Nat → Option Nat} (ha : ws[q0]? = some (a, .inl (cA t0, n, .inr (.inr (.inr (.inr f)))))) (ht : (tyl cA)[t0]? = some (cA t0, .object r.1)) (hv : ws[qk]? = some (v, .inr (ci, vs))) (hc : vwCl[ci]? = some r) {i : Int32} (hin : vp_in i n) (hw : ws.set q0 (a, .inl (cA t0, n, .inr (.inr (.inr (.inr (va_up f i.toNatClampNeg (some v))))))) = ws') (hdg : decode cc pc = .ok (.aastore, 1))
    (kk : ∀ (H1 : Heap) (locs1 : List Loc), St D A H0 ws' H1 locs1 → W p l e R s m args below meth c H1 locs1 cells slots Q (F0 m (pc + 1) ls rest)) : W p l e R s m args below meth c H locs cells slots Q (F0 m pc ls (.ref v :: .int i :: .ref a :: rest)) := by
  obtain ⟨hP, hD, hS, hA⟩ := h
  subst hw
  exact va_astq C.1 C.2.1 C.2.2.2.2.2.1.1 hP hD hS q0 t0 qk ci ha ht hv hc hin hdg (fun H1 locs1 h1 h2 h3 => kk H1 locs1 ⟨h1, h2, h3, hA⟩)
theorem g_putF (C : Cx p s m args meth c cc nL own D cA) (hin2 : meth.name = "<init>") (h : St D A H0 ws H locs) (q0 : Nat) {ci idx k : Nat} {fs : List Value} {v : Value} {ty : FieldType} (he : ws[q0]? = some (a, .inr (ci, fs))) (F : FP own idx ci k true ty) (hdecl : ∀ (C : String) (T : u_T) (N : Nat), vwCl[ci]? = some (C, T, N) → (T k).1 = own) (hn : narrow ty v = v) (hfit : fits ty v = true) (hl : k < fs.length) (hw : ws.set q0 (a, .inr (ci, fs.set k v)) = ws') (hdg : decode cc pc = .ok (.putfield idx, 3))
    (kk : ∀ (H1 : Heap) (locs1 : List Loc), St D A H0 ws' H1 locs1 → W p l e R s m args below meth c H1 locs1 cells slots Q (F0 m (pc + 3) ls rest)) : W p l e R s m args below meth c H locs cells slots Q (F0 m pc ls (v :: .ref a :: rest)) := by
  obtain ⟨hx, hb, hml, hown, hts, hK, hlk⟩ := C
  obtain ⟨Cn, T, N, ty0, hc, hin, hk, hlink, hty, hnm, hfin, hd⟩ := F
  obtain ⟨hP, hD, hS, hA⟩ := h
  subst hw
  exact va_putF hx hb hts hin ty0 hty hnm hown hK.1 hP hD hS q0 he hc k hk (hts _ hlink) (fun x hx => hx) hfin hin2 (hdecl _ _ _ hc) hd hn hfit hl hdg (fun H1 locs1 h1 h2 h3 => kk H1 locs1 ⟨h1, h2, h3, hA⟩)
variable {y : MethodName} {cy : ByteArray} {maxL n mc ms idx : Nat} {rm : Room} {As st0 : List Value} {b : Nat} {Av : Array Value} {W' : (Nat → Nat) → va_W}
theorem run_N (hr : va_Run p l e R s m args below meth c H locs cells slots mc ms (F0 m pc ls st0) rest (PostN D wc W' b H.size Av) (va_A wc H.size)) (h : St D A s.heap ws H locs) (isC isR : List Nat) (hC : isC.map (fun i => ws[i]?) = wc.map some) (hR : isR.map (fun i => ws[i]?) = wr.map some) (hn : va_nd isR = true) (hdis : ∀ i ∈ isR, i ∉ isC)
    (kk : ∀ (q : Nat → Nat) (H1 : Heap) (locs1 : List Loc), q 0 = b → St D A s.heap (wr ++ W' q) H1 locs1 → W p l e R s m args below meth c H1 locs1 (cells + mc) (slots + ms) Q (F0 m (pc + 3) ls rest)) : W p l e R s m args below meth c H locs cells slots Q (F0 m pc ls st0) := by
  intro T hT X
  obtain ⟨hP, hD, hS, hA⟩ := h
  obtain ⟨v', st₀, t, T', L, h0, X', hL, e1, e2, ⟨hv, q, hq, hp, hd, hz, hk⟩, st⟩ := hr T hT X
  cases Outcome.returned.inj hv
  rw [h0] at hz hk
  have hfree : ∀ q : Nat, va_A wc H.size q → A q := by
    intro q hq
    rcases hq with ⟨j, e, hj⟩ | hq
    · obtain ⟨i, -, hi⟩ := map_at hC hj
      exact hD.2 i _ hi
    · exact hA q (Nat.le_trans hS.1 hq)
  obtain ⟨hP1, hD1⟩ := va_join hP hD isC isR hC hR hn hdis (fun q h1 h2 => hk q h1 h2) hfree hp hd
  obtain ⟨t2, a1, b1⟩ := kk q T'.heap (locs ++ L) hq ⟨by rw [e1]; exact hP1, hD1, ⟨Nat.le_trans hS.1 (by rw [e1]; exact hz), fun q h1 h2 => by rw [e1, hk q (Nat.lt_of_lt_of_le h1 hS.1) (fun z => h2 (hfree q z))]; exact hS.2.1 q h1 h2, fun q hq => by
      rcases List.mem_append.mp hq with h | h
      · exact hS.2.2 q h
      · exact hfree _ (hL q h)⟩, hA⟩ T' rfl X'
  exact ⟨t2, st t2 a1, b1⟩
theorem call_N (C : Cx p s m args meth c cc nL own D cA) (h : St D A s.heap ws H locs) (K : CtN y cy maxL rm (.ref b :: As) D cA wc W' b mc ms) (F : Cond.methodLink own idx y ∈ WS ∧ Cond.instanceMethod y ∈ WS ∧ Cond.initialized y.cls ∈ WS ∧ Cond.code y cy maxL none ∈ WS) (hy1 : y.name = "<init>") (hd : y.cls ≠ "java/lang/invoke/MethodHandle" ∧ y.cls ≠ "java/lang/invoke/VarHandle" ∧ (parseMethodDescriptor y.desc).map (fun d => d.parameters.length) = some n)
    (isC isR : List Nat) (hC : isC.map (fun i => ws[i]?) = wc.map some) (hnd : va_nd isC = true) (hR' : isR.map (fun i => ws[i]?) = wr.map some) (hn' : va_nd isR = true) (hdis : ∀ i ∈ isR, i ∉ isC) (hn : As.length = n) (hst : st0 = As.reverse ++ .ref b :: rest) (hsz : ls.size = nL) (hW : (rest.map fun v => v.category).sum ≤ 8) (hdg : decode cc pc = .ok (.invokespecial idx, 3))
    (hR : rm.frames + 1 ≤ R.frames ∧ 8 + (maxL + 11) + rm.locals ≤ R.locals) (hrc : rm.cells = mc) (hrs : rm.slots = ms) (hfit : cells + mc ≤ R.cells ∧ slots + ms ≤ R.slots)
    (kk : ∀ (q : Nat → Nat) (H1 : Heap) (locs1 : List Loc), q 0 = b → St D A s.heap (wr ++ W' q) H1 locs1 → W p l e R s m args below meth c H1 locs1 (cells + mc) (slots + ms) Q (F0 m (pc + 3) ls rest)) : W p l e R s m args below meth c H locs cells slots Q (F0 m pc ls st0) :=
  run_N (va_runI (As := As) (rest := rest) ⟨C.1, C.2.1, C.2.2.1, C.2.2.2.1, C.2.2.2.2.1⟩ (K l H.size) (cwI n C.2.2.2.2.1 (ws_goodIn (mws_in F.2.2.2)) rfl hrc hrs (C.2.2.2.2.1 _ F.2.2.1) (C.2.2.2.2.1 _ F.1) (C.2.2.2.2.1 _ F.2.1) hy1 hd hR) ⟨PreC.blind, pre_ok C (sub_P h.1 hC) ((sub_D h.2.1 hC hnd).weaken (fun _ _ _ _ => trivial))⟩ rfl hn hsz hst (lv_room hW) hdg hfit) h isC isR hC hR' hn' hdis kk
theorem call_NN {host : String} (C : Cx p s m args meth c cc nL own D cA) (h : St D A s.heap ws H locs) (K : CtN y cy maxL rm (.ref b :: As) D cA wc W' b mc ms) (hl9 : va_Nw (.methodLinkNest own idx y host) s) (F : Cond.instanceMethod y ∈ WS ∧ Cond.initialized y.cls ∈ WS ∧ Cond.code y cy maxL none ∈ WS) (hy1 : y.name = "<init>") (hd : y.cls ≠ "java/lang/invoke/MethodHandle" ∧ y.cls ≠ "java/lang/invoke/VarHandle" ∧ (parseMethodDescriptor y.desc).map (fun d => d.parameters.length) = some n)
    (isC isR : List Nat) (hC : isC.map (fun i => ws[i]?) = wc.map some) (hnd : va_nd isC = true) (hR' : isR.map (fun i => ws[i]?) = wr.map some) (hn' : va_nd isR = true) (hdis : ∀ i ∈ isR, i ∉ isC) (hn : As.length = n) (hst : st0 = As.reverse ++ .ref b :: rest) (hsz : ls.size = nL) (hW : (rest.map fun v => v.category).sum ≤ 8) (hdg : decode cc pc = .ok (.invokespecial idx, 3))
    (hR : rm.frames + 1 ≤ R.frames ∧ 8 + (maxL + 11) + rm.locals ≤ R.locals) (hrc : rm.cells = mc) (hrs : rm.slots = ms) (hfit : cells + mc ≤ R.cells ∧ slots + ms ≤ R.slots)
    (kk : ∀ (q : Nat → Nat) (H1 : Heap) (locs1 : List Loc), q 0 = b → St D A s.heap (wr ++ W' q) H1 locs1 → W p l e R s m args below meth c H1 locs1 (cells + mc) (slots + ms) Q (F0 m (pc + 3) ls rest)) : W p l e R s m args below meth c H locs cells slots Q (F0 m pc ls st0) :=
  run_N (va_runIN (As := As) (rest := rest) ⟨C.1, C.2.1, C.2.2.1, C.2.2.2.1, C.2.2.2.2.1⟩ (K l H.size) ⟨va_cnB n C.2.2.2.2.1 (ws_goodIn (mws_in F.2.2)) rfl hrc hrs hl9 (C.2.2.2.2.1 _ F.2.1) hd hR, hy1, C.2.2.2.2.1 _ F.1⟩ ⟨PreC.blind, pre_ok C (sub_P h.1 hC) ((sub_D h.2.1 hC hnd).weaken (fun _ _ _ _ => trivial))⟩ rfl hn hsz hst (lv_room hW) hdg hfit) h isC isR hC hR' hn' hdis kk
end
