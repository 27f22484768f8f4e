/-! The law's methods: their contracts, their calls -/
section
variable {p : Program} {l : Launch} {e : Env} {R : Room} {s : State} {m : MethodId} {args : Array Value} {below : List Frame} {meth : Method} {c : Code} {H : Heap} {locs : List Loc} {cells slots : Nat} {Q : State → Prop}
variable {cc : ByteArray} {nL : Nat} {own : String} {D : va_G} {cA : Nat → ClassId} {A : Nat → Prop} {ws ws' wc wc' wr : va_W} {pc : Nat} {ls : Array Slot} {rest : List Value} {a : Nat} {H0 : Heap}
def IOB : String := "java/lang/IndexOutOfBoundsException"
def IAE : String := "java/lang/IllegalArgumentException"
def ISE : String := "java/lang/IllegalStateException"
def ncs : List (String × String) := [(IAE, ISE), (IAE, IOB), (ISE, IAE), (ISE, IOB), (IOB, IAE), (IOB, ISE)]
def NcG (U : State) : Prop := ∀ x ∈ ncs, va_Nc x.1 x.2 U
theorem NcG.warm {U : State} (hv : s.vm.Alike U.vm) (h : NcG s) : NcG U := fun x hx => va_Nc.moved hv (h x hx)
/-- what a throw wants of a state, beside the cells A -/
def XGA (A : Nat → Prop) (U : State) : Prop := StrG U ∧ TG U ∧ ZG A U U.heap
theorem XGA.toXG {ws : va_W} {sz : Nat} (h : XGA (va_A ws sz) s) : XG sz s := ⟨h.1, h.2.1, ZG.go (u := s) (U := s) (Vm.Alike.refl _) (fun _ _ _ => rfl) (fun q hq => Or.inr hq) h.2.2⟩
def PreL (D : va_G) (cA : Nat → ClassId) (sz : Nat) (ws : va_W) (As : List Value) : Array Value → State → Prop := va_Pc As (fun U => ((U.heap.size = sz ∧ va_P D vwCl ws U.heap ∧ KG D cA U ∧ va_D (fun _ => True) ws) ∧ XGA (va_A ws sz) U) ∧ NcG U)
theorem PreL.blind {sz : Nat} {As : List Value} : FrameBlind (PreL D cA sz ws As) := fun a U g mk h => ⟨h.1, ⟨⟨h.2.1.1.1, h.2.1.1.2.1, KG.same (s := U) (U := U.calling g mk a) rfl h.2.1.1.2.2.1, h.2.1.1.2.2.2⟩, StrG.same (s := U) (U := U.calling g mk a) rfl h.2.1.2.1, TG.same (s := U) (U := U.calling g mk a) rfl h.2.1.2.2.1, ZG.go (u := U) (U := U.calling g mk a) (Vm.Alike.refl _) (fun _ _ _ => rfl) (fun _ h => h) h.2.1.2.2.2⟩, NcG.warm (s := U) (U := U.calling g mk a) (Vm.Alike.refl _) h.2.2⟩
def XN : String → State → State → Prop := fun _ _ _ => False
def CtV (y : MethodName) (w : Cond) (rm : Room) (As : List Value) (D : va_G) (cA : Nat → ClassId) (ws ws' : va_W) (v : Value) (mc ms : Nat) : Prop :=
  ∀ (l : Launch) (sz : Nat), l.stackTraces = false → vx_Met l y (w :: WS) rm (PreL D cA sz ws As) (PostU D ws ws' sz (some v)) XN mc ms (va_A ws sz)
/-- .. that may leave new cells -/
def PostE {α : Type} (D : va_G) (ws : va_W) (W' : α → va_W) (sz : Nat) (v : Value) : Array Value → State → Outcome → State → Prop := fun _ st oc t => oc = .returned (some v) ∧ ∃ q : α, va_P D vwCl (W' q) t.heap ∧ va_D (va_A ws sz) (W' q) ∧ va_F (va_A ws sz) st t
def CtE {α : Type} (y : MethodName) (w : Cond) (rm : Room) (As : List Value) (D : va_G) (cA : Nat → ClassId) (ws : va_W) (W' : α → va_W) (v : Value) (mc ms : Nat) : Prop :=
  ∀ (l : Launch) (sz : Nat), l.stackTraces = false → vx_Met l y (w :: WS) rm (PreL D cA sz ws As) (PostE D ws W' sz v) XN mc ms (va_A ws sz)
def LCx (p : Program) (l : Launch) (s : State) (m : MethodId) (args : Array Value) (meth : Method) (c : Code) (cc : ByteArray) (nL : Nat) (D : va_G) (cA : Nat → ClassId) (A : Nat → Prop) : Prop := Cx p s m args meth c cc nL RL D cA ∧ l.stackTraces = false ∧ XGA A s ∧ NcG s
theorem vxL_ofH {y : MethodName} {maxL : Nat} {hh : List (Nat × Nat × Nat × Nat)} {ret : Option FieldType} {rm : Room} {As : List Value} {Qc : Nat → Array Value → State → Outcome → State → Prop} {mc ms : Nat} (hy : plainName y.cls = true) (hlen : (lg_sl As).length ≤ maxL)
    (body : ∀ (p : Program) (l : Launch) (e : Env) (s : State) (m : MethodId) (below : List Frame) (meth : Method) (c : Code) (ls : Array Slot), l.stackTraces = false → Cx p s m As.toArray meth c cc maxL y.cls D cA → meth.sig.returnType = ret → c.exceptionTable.toList = tableOf hh →
      XGA (va_A ws s.heap.size) s → NcG s → SR D s.heap ws s.heap [] → St D (va_A ws s.heap.size) s.heap ws s.heap [] → lv_has ls maxL (lv_args 0 As) → W p l e rm s m As.toArray below meth c s.heap [] 0 0 (vx_MQ below (Qc s.heap.size) XN As.toArray s mc ms (va_A ws s.heap.size)) (F0 m 0 ls [])) :
    ∀ (l : Launch) (sz : Nat), l.stackTraces = false → vx_Met l y (.codeWith y cc maxL ret hh :: WS) rm (PreL D cA sz ws As) (Qc sz) XN mc ms (va_A ws sz) := by
  intro l sz hl0
  refine vx_ofWH (cc := cc) (maxL := maxL) (ret := ret) (hh := hh) hy rfl ?_
  intro p e s m args below meth c s₁ B hml hv
  obtain ⟨rfl, ⟨⟨hsz, hP, hK, hD0⟩, hX⟩, hN⟩ := hv
  subst hsz
  have hts := atoms_spec (ws := Cond.codeWith y cc maxL ret hh :: WS) B.pre
  have hown : s.vm.findClass y.cls = some m.cls := findClass_of_methodNamed B.named
  have hl := lv_entry As (n := maxL) hlen
  rw [lg_entry_eq]
  exact body p l e s m below meth c _ hl0 ⟨B.exec, B.bytes, hml, hown, fun w hw => hts w (List.mem_cons_of_mem _ hw), hK, B.notSynchronized⟩ B.returns (vx_table (x := y) B (hts _ List.mem_cons_self)) hX hN ⟨hP, hD0, va_S.rf⟩ ⟨hP, hD0.self, va_S.rf, fun q h => Or.inr h⟩ hl
theorem vxL_of {y : MethodName} {maxL : Nat} {ret : Option FieldType} {rm : Room} {As : List Value} {Qc : Nat → Array Value → State → Outcome → State → Prop} {mc ms : Nat} (hy : plainName y.cls = true) (hlen : (lg_sl As).length ≤ maxL) (hRL : y.cls = RL)
    (body : ∀ (p : Program) (l : Launch) (e : Env) (s : State) (m : MethodId) (below : List Frame) (meth : Method) (c : Code) (ls : Array Slot), LCx p l s m As.toArray meth c cc maxL D cA (va_A ws s.heap.size) → meth.sig.returnType = ret →
      St D (va_A ws s.heap.size) s.heap ws s.heap [] → lv_has ls maxL (lv_args 0 As) → W p l e rm s m As.toArray below meth c s.heap [] 0 0 (vx_MQ below (Qc s.heap.size) XN As.toArray s mc ms (va_A ws s.heap.size)) (F0 m 0 ls [])) :
    ∀ (l : Launch) (sz : Nat), l.stackTraces = false → vx_Met l y (.code y cc maxL ret :: WS) rm (PreL D cA sz ws As) (Qc sz) XN mc ms (va_A ws sz) := by
  intro l sz hl0
  refine vx_ofW (cc := cc) (maxL := maxL) (ret := ret) hy rfl ?_
  intro p e s m args below meth c s₁ B hml hex hv
  obtain ⟨rfl, ⟨⟨hsz, hP, hK, hD0⟩, hX⟩, hN⟩ := hv
  subst hsz
  have hts := atoms_spec (ws := Cond.code y cc maxL ret :: WS) B.pre
  have hown : s.vm.findClass y.cls = some m.cls := findClass_of_methodNamed B.named
  rw [hRL] at hown
  have hl := lv_entry As (n := maxL) hlen
  rw [lg_entry_eq]
  exact body p l e s m below meth c _ ⟨⟨B.exec, B.bytes, hml, hown, fun w hw => hts w (List.mem_cons_of_mem _ hw), hK, B.notSynchronized⟩, hl0, hX, hN⟩ B.returns ⟨hP, hD0.self, va_S.rf, fun q h => Or.inr h⟩ hl
/-- the callee throws: on at the handler -/
theorem run_C {st0 : List Value} {Av : Array Value} {E : String} {hpc : Nat} (hr : vx_Run p l e R s m args below meth c H locs 0 0 1 6 (F0 m pc ls st0) rest (QF Av) (XX E) (fun q => H.size ≤ q)) (h : St D A s.heap ws H locs)
    (hcat : ∀ (H1 : Heap) (locs1 : List Loc) (q9 : Nat) (ce : Cell), H1[q9]? = some ce → ce.vm = .none → s.vm.findClass E = some ce.cls → W p l e R s m args below meth c H1 locs1 1 6 Q (F0 m hpc ls [.ref q9]) → vx_W p l e R s m args below meth c H1 locs1 1 6 Q (F0 m pc ls rest) q9)
    (kk : ∀ (q9 : Nat) (H1 : Heap) (locs1 : List Loc), St D A s.heap ws H1 locs1 → W p l e R s m args below meth c H1 locs1 1 6 Q (F0 m hpc ls [.ref q9])) : W p l e R s m args below meth c H locs 0 0 Q (F0 m pc ls st0) := by
  intro T hT X
  obtain ⟨hP, hD, hS, hA⟩ := h
  rcases hr T hT X with ⟨v, st₀, t, T', L, h0, X', hL, e1, e2, hf, st⟩ | ⟨q, st₀, t, T', L, E', ce, h0, X', hL, e1, e2, ⟨hE, hz, hk⟩, hce, hcv, hcl, st⟩
  · exact hf.elim
  · subst hE
    rw [h0] at hz hk
    have hk' : ∀ q : Nat, q < H.size → T'.heap[q]? = H[q]? := fun q hq => by rw [e1]; exact hk q hq (Nat.not_le.mpr hq)
    obtain ⟨t2, a1, b1⟩ := hcat T'.heap (locs ++ L) q ce (by rw [e1]; exact hce) hcv hcl (kk q T'.heap (locs ++ L) ⟨hP.kept (fun k q hq => hk' q.1 (hP k q hq).lt), hD, ⟨Nat.le_trans hS.1 (by rw [e1]; exact hz), fun q h1 h2 => by rw [hk' q (Nat.lt_of_lt_of_le h1 hS.1)]; exact hS.2.1 q h1 h2, fun q hq => by
      rcases List.mem_append.mp hq with h | h
      · exact hS.2.2 q h
      · exact hA _ (Nat.le_trans hS.1 (hL q h))⟩, hA⟩) T' rfl X'
    exact ⟨t2, st.trans a1, b1⟩
theorem SR_of (h : St D (fun q => s.heap.size ≤ q) s.heap ws H locs) : SR D s.heap ws H locs := ⟨h.1, h.2.1.weaken (fun _ _ _ _ => trivial), h.2.2.1⟩
theorem app_map (a b : va_W) : (List.range a.length).map (fun i => (a ++ b)[i]?) = a.map some := by
  apply List.ext_getElem
  · simp
  · intro i h1 h2
    simp at h1
    simp [List.getElem?_append_left h1, h1]
theorem app_mapR (a b : va_W) : (List.range' a.length b.length).map (fun i => (a ++ b)[i]?) = b.map some := by
  apply List.ext_getElem
  · simp
  · intro i h1 h2
    simp at h1
    simp [List.getElem?_append_right (Nat.le_add_right a.length i), h1]
theorem app_put {a a' : va_W} (b : va_W) (h : a.length = a'.length) : putl (a ++ b) ((List.range a.length).zip a') = a' ++ b := by
  rw [List.range_eq_range']
  exact putl_seg a a' [] b h
theorem app_at {a : va_W} {i : Nat} {x : Nat × va_E} (h : a[i]? = some x) (b : va_W) : (a ++ b)[i]? = some x := by
  rw [List.getElem?_append_left (List.getElem?_eq_some_iff.mp h).1]
  exact h
theorem fst_len {a a' : va_W} (h : a'.map (fun q => q.1) = a.map (fun q => q.1)) : a.length = a'.length := by
  have h1 := congrArg List.length h
  simp only [List.length_map] at h1
  exact h1.symm
theorem full_map (l : va_W) : (List.range l.length).map (fun i => l[i]?) = l.map some := by
  apply List.ext_getElem
  · simp
  · intro i h1 h2
    simp at h1
    simp [h1]
variable {y : MethodName} {cy : ByteArray} {maxL n mc ms idx b : Nat} {ret : Option FieldType} {hh : List (Nat × Nat × Nat × Nat)} {rm : Room} {As st0 : List Value} {v : Option Value} {E : String}
theorem call_C (C : Cx p s m args meth c cc nL own D cA) (hl0 : l.stackTraces = false) (hX : XG s.heap.size s) (hR0 : SR D s.heap ws H locs) (h : St D A s.heap ws H locs) (K : CtT y cy maxL ret rm (.ref b :: As) D cA wc E) (F : CWv own idx y cy maxL ret n) (q0 : Nat) {ci : Nat} {fs : List Value} {T : u_T} {N : Nat} (he : ws[q0]? = some (b, .inr (ci, fs))) (hc : vwCl[ci]? = some (y.cls, T, N))
    (isC : List Nat) (hC : isC.map (fun i => ws[i]?) = wc.map some) (hnd : va_nd isC = true) (hn : As.length = n) (hst : st0 = As.reverse ++ .ref b :: rest) (hsz : ls.size = nL) (hW : (rest.map fun v => v.category).sum ≤ 8) (hdg : decode cc pc = .ok (.invokevirtual idx, 3))
    (hR : rm.frames + 1 ≤ R.frames ∧ 8 + (maxL + 11) + rm.locals ≤ R.locals) (hrc : rm.cells = 1) (hrs : rm.slots = 6) (hfit : 0 + 1 ≤ R.cells ∧ 0 + 6 ≤ R.slots) {hpc : Nat}
    (hcat : ∀ (H1 : Heap) (locs1 : List Loc) (q9 : Nat) (ce : Cell), H1[q9]? = some ce → ce.vm = .none → s.vm.findClass E = some ce.cls → W p l e R s m args below meth c H1 locs1 1 6 Q (F0 m hpc ls [.ref q9]) → vx_W p l e R s m args below meth c H1 locs1 1 6 Q (F0 m pc ls rest) q9)
    (kk : ∀ (q9 : Nat) (H1 : Heap) (locs1 : List Loc), St D A s.heap ws H1 locs1 → W p l e R s m args below meth c H1 locs1 1 6 Q (F0 m hpc ls [.ref q9])) :
    W p l e R s m args below meth c H locs 0 0 Q (F0 m pc ls st0) :=
  run_C (rest := rest) (vx_runV (As := As) (rest := rest) ⟨C.1, C.2.1, C.2.2.1, C.2.2.2.1, C.2.2.2.2.1⟩ (K l H.size hl0) (F.use C.2.2.2.2.1 hrc hrs hR) ⟨PreX.blind, recv_ok C h.1 q0 he hc, preX_ok C hX hR0 (sub_P h.1 hC) (sub_D hR0.2.1 hC hnd)⟩ rfl hn hsz hst (lv_room hW) hdg hfit) h hcat kk
def CWx (idx : Nat) (y : MethodName) (cc : ByteArray) (maxL : Nat) (ret : Option FieldType) (hh : List (Nat × Nat × Nat × Nat)) (n : Nat) : Prop := Cond.methodLink RL idx y ∈ WS ∧ Cond.static y ∈ WS ∧ Cond.initialized y.cls ∈ WS ∧ Cond.codeWith y cc maxL ret hh ∈ WS ∧
  y.cls ≠ "java/lang/invoke/MethodHandle" ∧ y.cls ≠ "java/lang/invoke/VarHandle" ∧ (parseMethodDescriptor y.desc).map (fun d => d.parameters.length) = some n
theorem CWx.use {idx : Nat} {y : MethodName} {cy : ByteArray} {maxL n mc ms : Nat} {ret : Option FieldType} {hh : List (Nat × Nat × Nat × Nat)} {rm : Room} (F : CWx idx y cy maxL ret hh n) (hts : ∀ w ∈ WS, w.before args s = true) (hrc : rm.cells = mc) (hrs : rm.slots = ms) (hR : rm.frames + 1 ≤ R.frames ∧ 8 + (maxL + 11) + rm.locals ≤ R.locals) :
    vx_CSW R s args RL idx y cy maxL ret hh (.codeWith y cy maxL ret hh :: WS) rm mc ms n := by
  obtain ⟨h1, h2, h4, h5, h6, h7, h8⟩ := F
  refine vx_cwSW n hts (ws_goodIn (fun w hw => ?_)) rfl hrc hrs ⟨h6, h7, h8⟩ hR
  rcases List.mem_append.mp hw with hw | hw
  · simp only [List.mem_cons, List.not_mem_nil, or_false] at hw
    rcases hw with rfl | rfl | rfl
    · exact h1
    · exact h2
    · exact h4
  · rcases List.mem_cons.mp hw with rfl | hw
    · exact h5
    · exact hw
theorem runX {mc ms : Nat} {free : Addr → Prop} {Qa : State → Outcome → State → Prop} {g : JFrame} (hr : vx_Run p l e R s m args below meth c H locs cells slots mc ms g rest Qa XN free) : va_Run p l e R s m args below meth c H locs cells slots mc ms g rest Qa free := fun T hT X => by
  rcases hr T hT X with h | ⟨q, st₀, t, T', L, E, ce, h0, X', hL, e1, e2, hq, h9⟩
  · exact h
  · exact hq.elim
theorem preL_ok {As : List Value} (X : LCx p l s m args meth c cc nL D cA A) (h : St D A s.heap ws H locs) (hp : ws.Perm (wc ++ wr)) : ∀ U : State, U.heap = H → s.WarmedH U.vm → PreL D cA H.size wc As As.toArray U := by
  intro U hU hW
  obtain ⟨C, hl0, hX, hN⟩ := X
  have h' := St_perm hp h
  have hP : va_P D vwCl wc H := sub_P h'.1 (app_map wc wr)
  have hD : va_D A wc := sub_D h'.2.1 (app_map wc wr) (nd_of _ List.nodup_range)
  refine ⟨rfl, ⟨⟨by rw [hU], by rw [hU]; exact hP, KG.warm hW C.2.2.2.2.2.1, hD.weaken (fun _ _ _ _ => trivial)⟩, hX.1.warm hW, hX.2.1.warm hW, ?_⟩, NcG.warm hW.alike hN⟩
  rw [hU]
  refine ZG.go hW.alike h.2.2.1.2.1 (fun q hq => ?_) hX.2.2
  rcases hq with ⟨j, e9, hj⟩ | hq
  · exact hD.2 j _ hj
  · exact h.2.2.2 q (Nat.le_trans h.2.2.1.1 hq)
/-- a call of the law's own, that catches -/
theorem call_H (X : LCx p l s m args meth c cc nL D cA A) (h : St D A s.heap ws H locs) {v : Value} (K : CtV y (.codeWith y cy maxL ret hh) rm As D cA wc wc' v mc ms) (F : CWx idx y cy maxL ret hh n)
    (hp : ws.Perm (wc ++ wr)) (hp' : (wc' ++ wr).Perm ws') (hf : wc'.map (fun q => q.1) = wc.map (fun q => q.1)) (hn : As.length = n) (hst : st0 = As.reverse ++ rest) (hsz : ls.size = nL) (hW : (rest.map fun v => v.category).sum ≤ 8) (hdg : decode cc pc = .ok (.invokestatic idx, 3))
    (hR : rm.frames + 1 ≤ R.frames ∧ 8 + (maxL + 11) + rm.locals ≤ R.locals) (hrc : rm.cells = mc) (hrs : rm.slots = ms) (hfit : cells + mc ≤ R.cells ∧ slots + ms ≤ R.slots)
    (kk : ∀ (H1 : Heap) (locs1 : List Loc), St D A s.heap ws' H1 locs1 → W p l e R s m args below meth c H1 locs1 (cells + mc) (slots + ms) Q (F0 m (pc + 3) ls (v :: rest))) : W p l e R s m args below meth c H locs cells slots Q (F0 m pc ls st0) := by
  obtain ⟨C, hl0, hX, hN⟩ := id X
  have h' := St_perm hp h
  have hC := app_map wc wr
  exact run_U (v := some v) (rest := rest) (runX (vx_runSX (As := As) (rest := rest) ⟨C.1, C.2.1, C.2.2.1, C.2.2.2.1, C.2.2.2.2.1⟩ (K l H.size hl0) (F.use C.2.2.2.2.1 hrc hrs hR) ⟨PreL.blind, preL_ok X h hp⟩ rfl hn hsz hst (lv_room hW) hdg hfit)) h' (List.range wc.length) hC hf (app_put wr (fst_len hf)) (fun H1 locs1 h1 => kk H1 locs1 (St_perm hp' h1))
/-- a call of the law's own -/
theorem call_K (X : LCx p l s m args meth c cc nL D cA A) (h : St D A s.heap ws H locs) {v : Value} (K : CtV y (.code y cy maxL ret) rm As D cA wc wc' v mc ms) (F : CWs RL idx y cy maxL ret n)
    (hp : ws.Perm (wc ++ wr)) (hp' : (wc' ++ wr).Perm ws') (hf : wc'.map (fun q => q.1) = wc.map (fun q => q.1)) (hn : As.length = n) (hst : st0 = As.reverse ++ rest) (hsz : ls.size = nL) (hW : (rest.map fun v => v.category).sum ≤ 8) (hdg : decode cc pc = .ok (.invokestatic idx, 3))
    (hR : rm.frames + 1 ≤ R.frames ∧ 8 + (maxL + 11) + rm.locals ≤ R.locals) (hrc : rm.cells = mc) (hrs : rm.slots = ms) (hfit : cells + mc ≤ R.cells ∧ slots + ms ≤ R.slots)
    (kk : ∀ (H1 : Heap) (locs1 : List Loc), St D A s.heap ws' H1 locs1 → W p l e R s m args below meth c H1 locs1 (cells + mc) (slots + ms) Q (F0 m (pc + 3) ls (v :: rest))) : W p l e R s m args below meth c H locs cells slots Q (F0 m pc ls st0) := by
  obtain ⟨C, hl0, hX, hN⟩ := id X
  have h' := St_perm hp h
  have hC := app_map wc wr
  exact run_U (v := some v) (rest := rest) (runX (vx_runS (As := As) (rest := rest) ⟨C.1, C.2.1, C.2.2.1, C.2.2.2.1, C.2.2.2.2.1⟩ (K l H.size hl0) (F.use C.2.2.2.2.1 hrc hrs hR) ⟨PreL.blind, preL_ok X h hp⟩ rfl hn hsz hst (lv_room hW) hdg hfit)) h' (List.range wc.length) hC hf (app_put wr (fst_len hf)) (fun H1 locs1 h1 => kk H1 locs1 (St_perm hp' h1))
/-- one that leaves new cells too -/
theorem run_E {α : Type} {W' : α → va_W} {Qa : State → Outcome → State → Prop} (hQ : ∀ st oc t, Qa st oc t → oc = .returned v ∧ ∃ q : α, va_P D vwCl (W' q) t.heap ∧ va_D (va_A wc H.size) (W' q) ∧ va_F (va_A wc H.size) st t) (hr : va_Run p l e R s m args below meth c H locs cells slots mc ms (F0 m pc ls st0) rest Qa (va_A wc H.size)) (h : St D A s.heap (wc ++ wr) H locs)
    (kk : ∀ (q : α) (H1 : Heap) (locs1 : List Loc), St D A s.heap (W' q ++ wr) H1 locs1 → W p l e R s m args below meth c H1 locs1 (cells + mc) (slots + ms) Q (F0 m (pc + 3) ls (v.toList ++ rest))) : W p l e R s m args below meth c H locs cells slots Q (F0 m pc ls st0) := by
  intro T hT X
  obtain ⟨hP, hD, hS, hA⟩ := h
  obtain ⟨v', st₀, t, T', L, h0, X', hL, e1, e2, hq9, st⟩ := hr T hT X
  obtain ⟨hv, q, hp, hd, hz, hk⟩ := hQ _ _ _ hq9
  cases Outcome.returned.inj hv
  rw [h0] at hz hk
  have hfree : ∀ q : Nat, va_A wc H.size q → A q := by
    intro q hq
    rcases hq with ⟨j, e, hj⟩ | hq
    · exact hD.2 j _ (app_at hj wr)
    · exact hA q (Nat.le_trans hS.1 hq)
  obtain ⟨hP1, hD1⟩ := va_join hP hD (List.range wc.length) (List.range' wc.length wr.length) (app_map wc wr) (app_mapR wc wr) (nd_of _ List.nodup_range') (fun i hi hj => by
    have h1 := List.mem_range.mp hj
    have h2 := List.mem_range'_1.mp hi
    omega) (fun q h1 h2 => hk q h1 h2) hfree hp hd
  have h9 : St D A s.heap (wr ++ W' q) T'.heap (locs ++ L) := ⟨by rw [e1]; exact hP1, hD1, ⟨Nat.le_trans hS.1 (by rw [e1]; exact hz), fun q h1 h2 => by rw [e1, hk q (Nat.lt_of_lt_of_le h1 hS.1) (fun z => h2 (hfree q z))]; exact hS.2.1 q h1 h2, fun q hq => by
      rcases List.mem_append.mp hq with h | h
      · exact hS.2.2 q h
      · exact hfree _ (hL q h)⟩, hA⟩
  obtain ⟨t2, a1, b1⟩ := kk q T'.heap (locs ++ L) (St_perm List.perm_append_comm h9) T' rfl X'
  exact ⟨t2, st t2 a1, b1⟩
theorem call_EH {α : Type} {W' : α → va_W} (X : LCx p l s m args meth c cc nL D cA A) (h : St D A s.heap ws H locs) {v : Value} (K : CtE y (.codeWith y cy maxL ret hh) rm As D cA wc W' v mc ms) (F : CWx idx y cy maxL ret hh n)
    (hp : ws.Perm (wc ++ wr)) (hn : As.length = n) (hst : st0 = As.reverse ++ rest) (hsz : ls.size = nL) (hW : (rest.map fun v => v.category).sum ≤ 8) (hdg : decode cc pc = .ok (.invokestatic idx, 3))
    (hR : rm.frames + 1 ≤ R.frames ∧ 8 + (maxL + 11) + rm.locals ≤ R.locals) (hrc : rm.cells = mc) (hrs : rm.slots = ms) (hfit : cells + mc ≤ R.cells ∧ slots + ms ≤ R.slots)
    (kk : ∀ (q : α) (H1 : Heap) (locs1 : List Loc), St D A s.heap (W' q ++ wr) H1 locs1 → W p l e R s m args below meth c H1 locs1 (cells + mc) (slots + ms) Q (F0 m (pc + 3) ls (v :: rest))) : W p l e R s m args below meth c H locs cells slots Q (F0 m pc ls st0) := by
  obtain ⟨C, hl0, hX, hN⟩ := id X
  exact run_E (v := some v) (rest := rest) (fun st oc t h => h) (runX (vx_runSX (As := As) (rest := rest) ⟨C.1, C.2.1, C.2.2.1, C.2.2.2.1, C.2.2.2.2.1⟩ (K l H.size hl0) (F.use C.2.2.2.2.1 hrc hrs hR) ⟨PreL.blind, preL_ok X h hp⟩ rfl hn hsz hst (lv_room hW) hdg hfit)) (St_perm hp h) kk
theorem call_EK {α : Type} {W' : α → va_W} (X : LCx p l s m args meth c cc nL D cA A) (h : St D A s.heap ws H locs) {v : Value} (K : CtE y (.code y cy maxL ret) rm As D cA wc W' v mc ms) (F : CWs RL idx y cy maxL ret n)
    (hp : ws.Perm (wc ++ wr)) (hn : As.length = n) (hst : st0 = As.reverse ++ rest) (hsz : ls.size = nL) (hW : (rest.map fun v => v.category).sum ≤ 8) (hdg : decode cc pc = .ok (.invokestatic idx, 3))
    (hR : rm.frames + 1 ≤ R.frames ∧ 8 + (maxL + 11) + rm.locals ≤ R.locals) (hrc : rm.cells = mc) (hrs : rm.slots = ms) (hfit : cells + mc ≤ R.cells ∧ slots + ms ≤ R.slots)
    (kk : ∀ (q : α) (H1 : Heap) (locs1 : List Loc), St D A s.heap (W' q ++ wr) H1 locs1 → W p l e R s m args below meth c H1 locs1 (cells + mc) (slots + ms) Q (F0 m (pc + 3) ls (v :: rest))) : W p l e R s m args below meth c H locs cells slots Q (F0 m pc ls st0) := by
  obtain ⟨C, hl0, hX, hN⟩ := id X
  exact run_E (v := some v) (rest := rest) (fun st oc t h => h) (runX (vx_runS (As := As) (rest := rest) ⟨C.1, C.2.1, C.2.2.1, C.2.2.2.1, C.2.2.2.2.1⟩ (K l H.size hl0) (F.use C.2.2.2.2.1 hrc hrs hR) ⟨PreL.blind, preL_ok X h hp⟩ rfl hn hsz hst (lv_room hW) hdg hfit)) (St_perm hp h) kk
/-- a call of the desk's own that reads and doesn't throw -/
theorem call_VRp (C : Cx p s m args meth c cc nL own D cA) (h : St D A s.heap ws H locs) (K : CtR y cy maxL ret rm (.ref b :: As) D cA wc v mc ms) (F : CWv own idx y cy maxL ret n) {ci : Nat} {fs : List Value} {T : u_T} {N : Nat} (he : wc[0]? = some (b, .inr (ci, fs))) (hc : vwCl[ci]? = some (y.cls, T, N))
    (hp : ws.Perm (wc ++ wr)) (hn : As.length = n) (hst : st0 = As.reverse ++ .ref b :: rest) (hsz : ls.size = nL) (hW : (rest.map fun v => v.category).sum ≤ 8) (hdg : decode cc pc = .ok (.invokevirtual idx, 3))
    (hR : rm.frames + 1 ≤ R.frames ∧ 8 + (maxL + 11) + rm.locals ≤ R.locals) (hrc : rm.cells = mc) (hrs : rm.slots = ms) (hfit : cells + mc ≤ R.cells ∧ slots + ms ≤ R.slots)
    (kk : ∀ (H1 : Heap) (locs1 : List Loc), St D A s.heap ws H1 locs1 → W p l e R s m args below meth c H1 locs1 (cells + mc) (slots + ms) Q (F0 m (pc + 3) ls (v.toList ++ rest))) : W p l e R s m args below meth c H locs cells slots Q (F0 m pc ls st0) :=
  call_VR C (St_perm hp h) K F 0 (app_at he wr) hc (List.range wc.length) (app_map wc wr) (nd_of _ List.nodup_range) hn hst hsz hW hdg hR hrc hrs hfit (fun H1 locs1 h1 => kk H1 locs1 (St_perm hp.symm h1))
theorem ret_lU (C : Cx p s m args meth c cc nL own D cA) (hr : meth.sig.returnType = some .long) {v : Int64} (h : St D (va_A ws s.heap.size) s.heap ws' H locs) (hdg : decode cc pc = .ok (.lreturn, 1)) :
    W p l e R s m args below meth c H locs cells slots (MQ below (PostU D ws ws' s.heap.size (some (.long v))) args s cells slots (va_A ws s.heap.size)) (F0 m pc ls [.long v]) :=
  W.lret C.1 C.2.1 hr (fun t ht hW => ⟨rfl, by rw [ht]; exact h.1, h.2.2.1.F ht⟩) h.2.2.1.2.2 hdg (hlocks := C.2.2.2.2.2.2)
-- the ends
theorem end_i {k : Int32} (C : Cx p s m args meth c cc nL own D cA) (hr : meth.sig.returnType = some .int) (hc : cells ≤ mc) (hs : slots ≤ ms) (h : St D (va_A ws s.heap.size) s.heap ws' H locs) (hdg : decode cc pc = .ok (.ireturn, 1)) :
    W p l e R s m args below meth c H locs cells slots (vx_MQ below (PostU D ws ws' s.heap.size (some (.int k))) XN args s mc ms (va_A ws s.heap.size)) (F0 m pc ls [.int k]) :=
  W.widen hc hs (vx_ret (ret_iU C hr h hdg))
theorem end_f {k : UInt32} (C : Cx p s m args meth c cc nL own D cA) (hr : meth.sig.returnType = some .float) (hc : cells ≤ mc) (hs : slots ≤ ms) (h : St D (va_A ws s.heap.size) s.heap ws' H locs) (hdg : decode cc pc = .ok (.freturn, 1)) :
    W p l e R s m args below meth c H locs cells slots (vx_MQ below (PostU D ws ws' s.heap.size (some (.float k))) XN args s mc ms (va_A ws s.heap.size)) (F0 m pc ls [.float k]) :=
  W.widen hc hs (vx_ret (ret_fU C hr h hdg))
theorem end_l {k : Int64} (C : Cx p s m args meth c cc nL own D cA) (hr : meth.sig.returnType = some .long) (hc : cells ≤ mc) (hs : slots ≤ ms) (h : St D (va_A ws s.heap.size) s.heap ws' H locs) (hdg : decode cc pc = .ok (.lreturn, 1)) :
    W p l e R s m args below meth c H locs cells slots (vx_MQ below (PostU D ws ws' s.heap.size (some (.long k))) XN args s mc ms (va_A ws s.heap.size)) (F0 m pc ls [.long k]) :=
  W.widen hc hs (vx_ret (ret_lU C hr h hdg))
theorem nb01 {k : Int32} (h : k = 0 ∨ k = 1) : narrow .boolean (.int k) = .int k := by
  rcases h with rfl | rfl
  · exact nb0
  · exact nb1
theorem end_z {k : Int32} (C : Cx p s m args meth c cc nL own D cA) (hr : meth.sig.returnType = some .boolean) (hb : k = 0 ∨ k = 1) (hc : cells ≤ mc) (hs : slots ≤ ms) (h : St D (va_A ws s.heap.size) s.heap ws' H locs) (hdg : decode cc pc = .ok (.ireturn, 1)) :
    W p l e R s m args below meth c H locs cells slots (vx_MQ below (PostU D ws ws' s.heap.size (some (.int k))) XN args s mc ms (va_A ws s.heap.size)) (F0 m pc ls [.int k]) :=
  W.widen hc hs (vx_ret (ret_zU C hr (nb01 hb) h hdg))
theorem end_zE {α : Type} {W' : α → va_W} (q : α) {k : Int32} (C : Cx p s m args meth c cc nL own D cA) (hr : meth.sig.returnType = some .boolean) (hb : k = 0 ∨ k = 1) (hc : cells ≤ mc) (hs : slots ≤ ms) (h : St D (va_A ws s.heap.size) s.heap (W' q) H locs) (hdg : decode cc pc = .ok (.ireturn, 1)) :
    W p l e R s m args below meth c H locs cells slots (vx_MQ below (PostE D ws W' s.heap.size (.int k)) XN args s mc ms (va_A ws s.heap.size)) (F0 m pc ls [.int k]) :=
  W.widen hc hs (vx_ret (W.zret C.1 C.2.1 hr (nb01 hb) (fun t ht hW => ⟨rfl, q, by rw [ht]; exact h.1, h.2.1, h.2.2.1.F ht⟩) h.2.2.1.2.2 hdg (hlocks := C.2.2.2.2.2.2)))
theorem end_iE {α : Type} {W' : α → va_W} (q : α) {k : Int32} (C : Cx p s m args meth c cc nL own D cA) (hr : meth.sig.returnType = some .int) (hc : cells ≤ mc) (hs : slots ≤ ms) (h : St D (va_A ws s.heap.size) s.heap (W' q) H locs) (hdg : decode cc pc = .ok (.ireturn, 1)) :
    W p l e R s m args below meth c H locs cells slots (vx_MQ below (PostE D ws W' s.heap.size (.int k)) XN args s mc ms (va_A ws s.heap.size)) (F0 m pc ls [.int k]) :=
  W.widen hc hs (vx_ret (W.iret C.1 C.2.1 hr (fun t ht hW => ⟨rfl, q, by rw [ht]; exact h.1, h.2.1, h.2.2.1.F ht⟩) h.2.2.1.2.2 hdg (hlocks := C.2.2.2.2.2.2)))
theorem cast_ok {E : String} (h : TG s) (hE : E ∈ cst) : (Cond.castable E E).before args s = true := va_Nw.use rfl (h.2 E hE)
theorem cs1 : IOB ∈ cst ∧ IAE ∈ cst ∧ ISE ∈ cst := by decide +kernel
-- the worlds
abbrev Dk : Type := Nat × (Nat → Nat → Int32) × (Nat → Nat → Nat → Int32)
def kW (q0 : Nat → Nat) (q : Nat → Nat → Nat) (cA : Nat → ClassId) (d : Dk) : va_W := sW d.1 q0 q cA d.2.1 d.2.2
def bW (cA : Nat → ClassId) (ab aw : Nat) (b w : Nat → Int32) : va_W := [(ab, .inl (cA 0, 48, .inl b)), (aw, .inl (cA 0, 48, .inl w))]
def kbW (q0 : Nat → Nat) (q : Nat → Nat → Nat) (cA : Nat → ClassId) (d : Dk) (ab aw : Nat) (b w : Nat → Int32) : va_W := bW cA ab aw b w ++ kW q0 q cA d
def kkW (q0 : Nat → Nat) (q : Nat → Nat → Nat) (cA : Nat → ClassId) (d : Dk) (t0 : Nat → Nat) (tq : Nat → Nat → Nat) (u : Dk) : va_W := kW q0 q cA d ++ kW t0 tq cA u
def aW (q0 : Nat → Nat) (q : Nat → Nat → Nat) (cA : Nat → ClassId) (d : Dk) (t0 : Nat → Nat) (tq : Nat → Nat → Nat) (u : Dk) (ab aw : Nat) (b w : Nat → Int32) : va_W := bW cA ab aw b w ++ kkW q0 q cA d t0 tq u
section
variable (q0 : Nat → Nat) (q : Nat → Nat → Nat) (cA : Nat → ClassId) (d d' : Dk) (t0 : Nat → Nat) (tq : Nat → Nat → Nat) (u u' : Dk) (ab aw : Nat) (b w : Nat → Int32)
theorem kW_fst (hn : d'.1 = d.1) : (kW q0 q cA d').map (fun q => q.1) = (kW q0 q cA d).map (fun q => q.1) := by
  unfold kW
  rw [hn]
  exact sW_fst ..
theorem kW_c0 : (kW q0 q cA d)[0]? = some (q0 0, .inr (4, [.ref (q0 1), .ref (q0 2), .ref (q0 3), .int (nI d.1), .int (d.2.1 1 0)])) := rfl
theorem kW_self : (kW q0 q cA d).Perm (kW q0 q cA d ++ []) := by rw [List.append_nil]
theorem kkW_fst (hn : d'.1 = d.1) (hu : u'.1 = u.1) : (kkW q0 q cA d' t0 tq u').map (fun q => q.1) = (kkW q0 q cA d t0 tq u).map (fun q => q.1) := by
  unfold kkW
  rw [List.map_append, List.map_append, kW_fst q0 q cA d d' hn, kW_fst t0 tq cA u u' hu]
theorem kbW_fst (hn : d'.1 = d.1) : (kbW q0 q cA d' ab aw b w).map (fun q => q.1) = (kbW q0 q cA d ab aw b w).map (fun q => q.1) := by
  unfold kbW
  rw [List.map_append, List.map_append, kW_fst q0 q cA d d' hn]
theorem kbW_o : (kbW q0 q cA d ab aw b w).Perm (kW q0 q cA d ++ bW cA ab aw b w) := List.perm_append_comm
theorem kbW_self : (kbW q0 q cA d ab aw b w).Perm (kbW q0 q cA d ab aw b w ++ []) := by rw [List.append_nil]
theorem kkW_self : (kkW q0 q cA d t0 tq u).Perm (kkW q0 q cA d t0 tq u ++ []) := by rw [List.append_nil]
theorem aW_self : (aW q0 q cA d t0 tq u ab aw b w).Perm (aW q0 q cA d t0 tq u ab aw b w ++ []) := by rw [List.append_nil]
theorem kkW_o : (kkW q0 q cA d t0 tq u).Perm (kW q0 q cA d ++ kW t0 tq cA u) := List.Perm.refl _
theorem kkW_t : (kkW q0 q cA d t0 tq u).Perm (kW t0 tq cA u ++ kW q0 q cA d) := List.perm_append_comm
theorem aW_p : (aW q0 q cA d t0 tq u ab aw b w).Perm (kkW q0 q cA d t0 tq u ++ bW cA ab aw b w) := List.perm_append_comm
theorem aW_o : (aW q0 q cA d t0 tq u ab aw b w).Perm (kW q0 q cA d ++ (kW t0 tq cA u ++ bW cA ab aw b w)) := by
  refine (aW_p ..).trans ?_
  unfold kkW
  rw [List.append_assoc]
theorem aW_t : (aW q0 q cA d t0 tq u ab aw b w).Perm (kW t0 tq cA u ++ (kW q0 q cA d ++ bW cA ab aw b w)) := by
  refine (aW_p ..).trans ?_
  refine ((kkW_t q0 q cA d t0 tq u).append_right _).trans ?_
  rw [List.append_assoc]
theorem aW_k : (aW q0 q cA d t0 tq u ab aw b w).Perm (kbW q0 q cA d ab aw b w ++ kW t0 tq cA u) := by
  unfold aW kbW kkW
  rw [List.append_assoc]
theorem kbW_0 : (kbW q0 q cA d ab aw b w)[0]? = some (ab, .inl (cA 0, 48, .inl b)) := rfl
theorem kbW_1 : (kbW q0 q cA d ab aw b w)[1]? = some (aw, .inl (cA 0, 48, .inl w)) := rfl
theorem aW_0 : (aW q0 q cA d t0 tq u ab aw b w)[0]? = some (ab, .inl (cA 0, 48, .inl b)) := rfl
theorem aW_1 : (aW q0 q cA d t0 tq u ab aw b w)[1]? = some (aw, .inl (cA 0, 48, .inl w)) := rfl
theorem aW_s0 (g : Nat → Int32) : (aW q0 q cA d t0 tq u ab aw b w).set 0 (ab, .inl (cA 0, 48, .inl g)) = aW q0 q cA d t0 tq u ab aw g w := rfl
theorem aW_s1 (g : Nat → Int32) : (aW q0 q cA d t0 tq u ab aw b w).set 1 (aw, .inl (cA 0, 48, .inl g)) = aW q0 q cA d t0 tq u ab aw b g := rfl
end
def cE (E : String) : Int32 := if E = IOB then -1000001 else if E = IAE then -1000002 else -1000003
theorem cE_IOB : cE IOB = -1000001 := rfl
theorem cE_IAE : cE IAE = -1000002 := by decide
theorem cE_ISE : cE ISE = -1000003 := by decide
theorem cl_23 : Cond.classLink RL 23 IOB ∈ WS := wm 93 (by decide +kernel) rfl
theorem cl_26 : Cond.classLink RL 26 IAE ∈ WS := wm 275 (by decide +kernel) rfl
theorem cl_16 : Cond.classLink RL 16 ISE ∈ WS := wm 94 (by decide +kernel) rfl
theorem kc_L_7 : Cond.constant RL 7 (1831385571) ∈ WS := wm 88 (by decide +kernel) rfl
theorem kc_L_8 : Cond.constant RL 8 (1237708913) ∈ WS := wm 89 (by decide +kernel) rfl
theorem kc_L_25 : Cond.constant RL 25 (-1000001) ∈ WS := wm 225 (by decide +kernel) rfl
theorem kc_L_18 : Cond.constant RL 18 (-1000003) ∈ WS := wm 226 (by decide +kernel) rfl
theorem kc_L_28 : Cond.constant RL 28 (-1000002) ∈ WS := wm 298 (by decide +kernel) rfl
theorem kc_L_183 : Cond.constant RL 183 (65521) ∈ WS := wm 492 (by decide +kernel) rfl
theorem kc_L_9 : Cond.constant RL 9 (2147483647) ∈ WS := wm 533 (by decide +kernel) rfl
theorem kl_L_128 : Cond.constantLong RL 128 (41) ∈ WS := wm 316 (by decide +kernel) rfl
end
