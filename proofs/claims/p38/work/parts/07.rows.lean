/-! rows over the context: entry, ends, fields, arrays, calls -/
section GR
variable {p : Program} {l : Launch} {e : Env} {R : Room} {s : State} {m : MethodId} {args : Array Value} {below : List Frame} {meth : Method} {c : Code} {H : Heap} {locs : List Loc} {cells slots : Nat} {Q : State → Prop}
variable {cc : ByteArray} {nL : Nat} {own : String} {D : va_G} {cA : Nat → ClassId} {A : Nat → Prop} {ws ws' wc wc' : va_W} {pc : Nat} {ls : Array Slot} {rest : List Value} {a : Nat} {H0 : Heap}
theorem ctU_of {y : MethodName} {maxL : Nat} {ret : Option FieldType} {rm : Room} {As : List Value} {v : Option Value} {mc ms : Nat} (hy : plainName y.cls = true) (hlen : (lg_sl As).length ≤ maxL)
    (body : ∀ (p : Program) (l : Launch) (e : Env) (s : State) (m : MethodId) (below : List Frame) (meth : Method) (c : Code) (ls : Array Slot), Cx p s m As.toArray meth c cc maxL y.cls D cA → meth.sig.returnType = ret → meth.name = y.name →
      St D (va_A ws s.heap.size) s.heap ws s.heap [] → lv_has ls maxL (lv_args 0 As) → W p l e rm s m As.toArray below meth c s.heap [] 0 0 (MQ below (PostU D ws ws' s.heap.size v) As.toArray s mc ms (va_A ws s.heap.size)) (F0 m 0 ls [])) :
    CtU y cc maxL ret rm As D cA ws ws' v mc ms := by
  intro l sz
  refine Met.ofW (cc := cc) (maxL := maxL) (ret := ret) hy rfl ?_
  intro p e s m args below meth c s₁ B hml hv
  obtain ⟨rfl, hsz, hP, hK, hD0⟩ := hv
  subst hsz
  have hts := atoms_spec (ws := mws y cc maxL ret) B.pre
  have hown : s.vm.findClass y.cls = some m.cls := findClass_of_methodNamed B.named
  have hl := lv_entry As (n := maxL) hlen
  rw [lg_entry_eq]
  exact body p l e s m below meth c _ ⟨B.exec, B.bytes, hml, hown, fun w hw => hts w (List.mem_cons_of_mem _ hw), hK, B.notSynchronized⟩ B.returns (name_of_methodNamed B.named B.method).1 ⟨hP, hD0.self, va_S.rf, fun q h => Or.inr h⟩ hl
theorem ctR_of {y : MethodName} {maxL : Nat} {ret : Option FieldType} {rm : Room} {As : List Value} {v : Option Value} {mc ms : Nat} (hy : plainName y.cls = true) (hlen : (lg_sl As).length ≤ maxL)
    (body : ∀ (p : Program) (l : Launch) (e : Env) (s : State) (m : MethodId) (below : List Frame) (meth : Method) (c : Code) (ls : Array Slot), Cx p s m As.toArray meth c cc maxL y.cls D cA → meth.sig.returnType = ret → meth.name = y.name →
      SR D s.heap ws s.heap [] → lv_has ls maxL (lv_args 0 As) → W p l e rm s m As.toArray below meth c s.heap [] 0 0 (MQ below (PostR v) As.toArray s mc ms (fun q => s.heap.size ≤ q)) (F0 m 0 ls [])) :
    CtR y cc maxL ret rm As D cA ws v mc ms := by
  intro l sz
  refine Met.ofW (cc := cc) (maxL := maxL) (ret := ret) hy rfl ?_
  intro p e s m args below meth c s₁ B hml hv
  obtain ⟨rfl, hsz, hP, hK, hD0⟩ := hv
  subst hsz
  have hts := atoms_spec (ws := mws y cc maxL ret) B.pre
  have hown : s.vm.findClass y.cls = some m.cls := findClass_of_methodNamed B.named
  have hl := lv_entry As (n := maxL) hlen
  rw [lg_entry_eq]
  exact body p l e s m below meth c _ ⟨B.exec, B.bytes, hml, hown, fun w hw => hts w (List.mem_cons_of_mem _ hw), hK, B.notSynchronized⟩ B.returns (name_of_methodNamed B.named B.method).1 ⟨hP, hD0, va_S.rf⟩ hl
-- ends
theorem ret_iU (C : Cx p s m args meth c cc nL own D cA) (hr : meth.sig.returnType = some .int) {v : Int32} (h : St D (va_A ws s.heap.size) s.heap ws' H locs) (hdg : decode cc pc = .ok (.ireturn, 1)) :
    W p l e R s m args below meth c H locs cells slots (MQ below (PostU D ws ws' s.heap.size (some (.int v))) args s cells slots (va_A ws s.heap.size)) (F0 m pc ls [.int v]) :=
  W.iret C.1 C.2.1 hr (fun t ht hW => ⟨rfl, by rw [ht]; exact h.1, h.2.2.1.F ht⟩) h.2.2.1.2.2 hdg (hlocks := C.2.2.2.2.2.2)
theorem ret_zU (C : Cx p s m args meth c cc nL own D cA) (hr : meth.sig.returnType = some .boolean) {v : Int32} (hn : narrow .boolean (.int v) = .int v) (h : St D (va_A ws s.heap.size) s.heap ws' H locs) (hdg : decode cc pc = .ok (.ireturn, 1)) :
    W p l e R s m args below meth c H locs cells slots (MQ below (PostU D ws ws' s.heap.size (some (.int v))) args s cells slots (va_A ws s.heap.size)) (F0 m pc ls [.int v]) :=
  W.zret C.1 C.2.1 hr hn (fun t ht hW => ⟨rfl, by rw [ht]; exact h.1, h.2.2.1.F ht⟩) h.2.2.1.2.2 hdg (hlocks := C.2.2.2.2.2.2)
theorem ret_vU (C : Cx p s m args meth c cc nL own D cA) (hr : meth.sig.returnType = none) (h : St D (va_A ws s.heap.size) s.heap ws' H locs) (hdg : decode cc pc = .ok (.return_, 1)) :
    W p l e R s m args below meth c H locs cells slots (MQ below (PostU D ws ws' s.heap.size none) args s cells slots (va_A ws s.heap.size)) (F0 m pc ls []) :=
  W.vret C.1 C.2.1 hr (fun t ht hW => ⟨rfl, by rw [ht]; exact h.1, h.2.2.1.F ht⟩) h.2.2.1.2.2 hdg (hlocks := C.2.2.2.2.2.2)
theorem ret_iR (C : Cx p s m args meth c cc nL own D cA) (hr : meth.sig.returnType = some .int) {v : Int32} (h : SR D s.heap ws H locs) (hdg : decode cc pc = .ok (.ireturn, 1)) :
    W p l e R s m args below meth c H locs cells slots (MQ below (PostR (some (.int v))) args s cells slots (fun q => s.heap.size ≤ q)) (F0 m pc ls [.int v]) :=
  W.iret C.1 C.2.1 hr (fun t ht hW => ⟨rfl, h.2.2.F ht⟩) h.2.2.2.2 hdg (hlocks := C.2.2.2.2.2.2)
theorem ret_zR (C : Cx p s m args meth c cc nL own D cA) (hr : meth.sig.returnType = some .boolean) {v : Int32} (hn : narrow .boolean (.int v) = .int v) (h : SR D s.heap ws H locs) (hdg : decode cc pc = .ok (.ireturn, 1)) :
    W p l e R s m args below meth c H locs cells slots (MQ below (PostR (some (.int v))) args s cells slots (fun q => s.heap.size ≤ q)) (F0 m pc ls [.int v]) :=
  W.zret C.1 C.2.1 hr hn (fun t ht hW => ⟨rfl, h.2.2.F ht⟩) h.2.2.2.2 hdg (hlocks := C.2.2.2.2.2.2)
-- fields
def FL (own : String) (idx ci k : Nat) : Prop := ∃ (C : String) (T : u_T) (N : Nat), vwCl[ci]? = some (C, T, N) ∧ (∀ w ∈ u_ws C T N, w ∈ WS) ∧ k < N ∧ Cond.fieldLink own idx (T k).1 (T k).2.1 (T k).2.2.1 ∈ WS
def FP (own : String) (idx ci k : Nat) (fin : Bool) (ty : FieldType) : Prop := ∃ (C : String) (T : u_T) (N : Nat) (ty0 : Nat → FieldType), vwCl[ci]? = some (C, T, N) ∧ (∀ w ∈ u_ws C T N, w ∈ WS) ∧ k < N ∧ Cond.fieldLink own idx (T k).1 (T k).2.1 (T k).2.2.1 ∈ WS ∧
  (∀ k, k < N → parseFieldDescriptor (T k).2.2.1 = some (ty0 k)) ∧ (∀ a, a < N → ∀ b, b < N → a ≠ b → (T a).2.1 ≠ (T b).2.1) ∧ (T k).2.2.2 = fin ∧ parseFieldDescriptor (T k).2.2.1 = some ty
theorem g_get (C : Cx p s m args meth c cc nL own D cA) (hP : va_P D vwCl ws H) (q0 : Nat) {ci idx k : Nat} {fs : List Value} {v : Value} (he : ws[q0]? = some (a, .inr (ci, fs))) (F : FL own idx ci k) (hv : fs[k]? = some v) (hdg : decode cc pc = .ok (.getfield idx, 3))
    (kk : W p l e R s m args below meth c H locs cells slots Q (F0 m (pc + 3) ls (v :: rest))) : W p l e R s m args below meth c H locs cells slots Q (F0 m pc ls (.ref a :: rest)) := by
  obtain ⟨hx, hb, hml, hown, hts, hK, hlk⟩ := C
  obtain ⟨Cn, T, N, hc, hin, hk, hlink⟩ := F
  exact va_get hx hb hts hin hown hK.1 hP q0 he hc k hk (hts _ hlink) (fun x hx => hx) hv hdg kk
theorem g_puti (C : Cx p s m args meth c cc nL own D cA) (h : St D A H0 ws H locs) (q0 : Nat) {ci idx k : Nat} {fs : List Value} {v : Int32} (he : ws[q0]? = some (a, .inr (ci, fs))) (F : FP own idx ci k false .int) (hl : k < fs.length) (hw : ws.set q0 (a, .inr (ci, fs.set k (.int v))) = ws') (hdg : decode cc pc = .ok (.putfield idx, 3))
    (kk : ∀ (H1 : Heap) (locs1 : List Loc), St D A H0 ws' H1 locs1 → W p l e R s m args below meth c H1 locs1 cells slots Q (F0 m (pc + 3) ls rest)) : W p l e R s m args below meth c H locs cells slots Q (F0 m pc ls (.int v :: .ref a :: rest)) := by
  obtain ⟨hx, hb, hml, hown, hts, hK, hlk⟩ := C
  obtain ⟨Cn, T, N, ty0, hc, hin, hk, hlink, hty, hnm, hfin, hd⟩ := F
  obtain ⟨hP, hD, hS, hA⟩ := h
  subst hw
  exact va_put hx hb hts hin ty0 hty hnm hown hK.1 hP hD hS q0 he hc k hk (hts _ hlink) (fun x hx => hx) hfin hd rfl rfl hl hdg (fun H1 locs1 h1 h2 h3 => kk H1 locs1 ⟨h1, h2, h3, hA⟩)
-- int arrays
theorem g_ild (C : Cx p s m args meth c cc nL own D cA) (hP : va_P D vwCl ws H) (q0 : Nat) {n : Nat} {f : Nat → Int32} {i : Int32} (he : ws[q0]? = some (a, .inl (cA 0, n, .inl f))) (hin : vp_in i n) (hdg : decode cc pc = .ok (.iaload, 1))
    (kk : W p l e R s m args below meth c H locs cells slots Q (F0 m (pc + 1) ls (.int (f i.toNatClampNeg) :: rest))) : W p l e R s m args below meth c H locs cells slots Q (F0 m pc ls (.int i :: .ref a :: rest)) :=
  va_iald C.1 C.2.1 C.2.2.2.2.2.1.1 hP q0 0 he rfl hin hdg kk
theorem g_ist (C : Cx p s m args meth c cc nL own D cA) (h : St D A H0 ws H locs) (q0 : Nat) {n : Nat} {f : Nat → Int32} {i x : Int32} (he : ws[q0]? = some (a, .inl (cA 0, n, .inl f))) (hin : vp_in i n) (hw : ws.set q0 (a, .inl (cA 0, n, .inl (upd f i.toNatClampNeg x))) = ws') (hdg : decode cc pc = .ok (.iastore, 1))
    (kk : ∀ (H1 : Heap) (locs1 : List Loc), St D A H0 ws' H1 locs1 → W p l e R s m args below meth c H1 locs1 cells slots Q (F0 m (pc + 1) ls rest)) : W p l e R s m args below meth c H locs cells slots Q (F0 m pc ls (.int x :: .int i :: .ref a :: rest)) := by
  obtain ⟨hP, hD, hS, hA⟩ := h
  subst hw
  exact va_iast C.1 C.2.1 C.2.2.2.2.2.1.1 hP hD hS q0 0 he rfl hin hdg (fun H1 locs1 h1 h2 h3 => kk H1 locs1 ⟨h1, h2, h3, hA⟩)
theorem g_ilen (C : Cx p s m args meth c cc nL own D cA) (hP : va_P D vwCl ws H) (q0 : Nat) {n : Nat} {f : Nat → Int32} {v : Int32} (he : ws[q0]? = some (a, .inl (cA 0, n, .inl f))) (hv : Int32.ofNat n = v) (hdg : decode cc pc = .ok (.arraylength, 1))
    (kk : W p l e R s m args below meth c H locs cells slots Q (F0 m (pc + 1) ls (.int v :: rest))) : W p l e R s m args below meth c H locs cells slots Q (F0 m pc ls (.ref a :: rest)) :=
  va_alen C.1 C.2.1 C.2.2.2.2.2.1.1 hP q0 0 he rfl hv hdg kk
-- calls: the words
def CWv (own : String) (idx : Nat) (y : MethodName) (cc : ByteArray) (maxL : Nat) (ret : Option FieldType) (n : Nat) : Prop := Cond.methodLink own idx y ∈ WS ∧ Cond.instanceMethod y ∈ WS ∧ Cond.selects y.cls y y ∈ WS ∧ Cond.initialized y.cls ∈ WS ∧ Cond.code y cc maxL ret ∈ WS ∧
  y.cls ≠ "java/lang/invoke/MethodHandle" ∧ y.cls ≠ "java/lang/invoke/VarHandle" ∧ (parseMethodDescriptor y.desc).map (fun d => d.parameters.length) = some n
def CWs (own : String) (idx : Nat) (y : MethodName) (cc : ByteArray) (maxL : Nat) (ret : Option FieldType) (n : Nat) : Prop := Cond.methodLink own idx y ∈ WS ∧ Cond.static y ∈ WS ∧ Cond.initialized y.cls ∈ WS ∧ Cond.code y cc maxL ret ∈ WS ∧
  y.cls ≠ "java/lang/invoke/MethodHandle" ∧ y.cls ≠ "java/lang/invoke/VarHandle" ∧ (parseMethodDescriptor y.desc).map (fun d => d.parameters.length) = some n
theorem CWv.use {idx : Nat} {y : MethodName} {cy : ByteArray} {maxL n mc ms : Nat} {ret : Option FieldType} {rm : Room} (F : CWv own idx y cy maxL ret n) (hts : ∀ w ∈ WS, w.before args s = true) (hrc : rm.cells = mc) (hrs : rm.slots = ms) (hR : rm.frames + 1 ≤ R.frames ∧ 8 + (maxL + 11) + rm.locals ≤ R.locals) :
    CallW R s args own y.cls idx y cy maxL ret (mws y cy maxL ret) rm mc ms n := by
  obtain ⟨h1, h2, h3, h4, h5, h6, h7, h8⟩ := F
  refine cwV n hts (ws_goodIn (fun w hw => ?_)) rfl hrc hrs ⟨rfl, h6, h7, h8⟩ hR
  rcases List.mem_append.mp hw with hw | hw
  · simp only [List.mem_cons, List.not_mem_nil, or_false] at hw
    rcases hw with rfl | rfl | rfl | rfl
    · exact h1
    · exact h2
    · exact h3
    · exact h4
  · exact mws_in h5 w hw
theorem CWs.use {idx : Nat} {y : MethodName} {cy : ByteArray} {maxL n mc ms : Nat} {ret : Option FieldType} {rm : Room} (F : CWs own idx y cy maxL ret n) (hts : ∀ w ∈ WS, w.before args s = true) (hrc : rm.cells = mc) (hrs : rm.slots = ms) (hR : rm.frames + 1 ≤ R.frames ∧ 8 + (maxL + 11) + rm.locals ≤ R.locals) :
    CallB R s args own idx y cy maxL ret (mws y cy maxL ret) rm mc ms n ∧ (Cond.static y).before args s = true := by
  obtain ⟨h1, h2, h4, h5, h6, h7, h8⟩ := F
  refine va_cwS n hts (ws_goodIn (fun w hw => ?_)) rfl hrc hrs ⟨h6, h7, h8⟩ hR
  rcases List.mem_append.mp hw with hw | hw
  · simp only [List.mem_cons, List.not_mem_nil, or_false] at hw
    rcases hw with rfl | rfl | rfl
    · exact h1
    · exact h2
    · exact h4
  · exact mws_in h5 w hw
-- calls: what comes behind
variable {y : MethodName} {cy : ByteArray} {maxL n mc ms idx : Nat} {ret : Option FieldType} {rm : Room} {As st0 : List Value} {v : Option Value} {b : Nat} {Av : Array Value}
theorem run_U (hr : va_Run p l e R s m args below meth c H locs cells slots mc ms (F0 m pc ls st0) rest (PostU D wc wc' H.size v Av) (va_A wc H.size)) (h : St D A s.heap ws H locs) (isC : List Nat) (hC : isC.map (fun i => ws[i]?) = wc.map some) (hf : wc'.map (fun q => q.1) = wc.map (fun q => q.1)) (hput : putl ws (isC.zip wc') = ws')
    (kk : ∀ (H1 : Heap) (locs1 : List Loc), St D A s.heap ws' H1 locs1 → W p l e R s m args below meth c H1 locs1 (cells + mc) (slots + ms) Q (F0 m (pc + 3) ls (v.toList ++ rest))) : W p l e R s m args below meth c H locs cells slots Q (F0 m pc ls st0) := by
  intro T hT X
  obtain ⟨hP, hD, hS, hA⟩ := h
  obtain ⟨v', st₀, t, T', L, h0, X', hL, e1, e2, ⟨hv, hp, hz, hk⟩, st⟩ := hr T hT X
  cases Outcome.returned.inj hv
  rw [h0] at hz hk
  have hfree : ∀ q : Nat, va_A wc H.size q → A q := by
    intro q hq
    rcases hq with ⟨j, e, hj⟩ | hq
    · obtain ⟨i, -, hi⟩ := map_at hC hj
      exact hD.2 i _ hi
    · exact hA q (Nat.le_trans hS.1 hq)
  have hlen : isC.length = wc'.length := by
    have h1 := congrArg List.length hC
    have h2 := congrArg List.length hf
    simp only [List.length_map] at h1 h2
    omega
  obtain ⟨hP1, hD1⟩ := join_S hP hD hC hf hlen (fun q h1 h2 => hk q h1 h2) hp
  subst hput
  obtain ⟨t2, a1, b1⟩ := kk T'.heap (locs ++ L) ⟨by rw [e1]; exact hP1, hD1, ⟨Nat.le_trans hS.1 (by rw [e1]; exact hz), fun q h1 h2 => by rw [e1, hk q (Nat.lt_of_lt_of_le h1 hS.1) (fun z => h2 (hfree q z))]; exact hS.2.1 q h1 h2, fun q hq => by
      rcases List.mem_append.mp hq with h | h
      · exact hS.2.2 q h
      · exact hfree _ (hL q h)⟩, hA⟩ T' rfl X'
  exact ⟨t2, st t2 a1, b1⟩
theorem run_R (hr : va_Run p l e R s m args below meth c H locs cells slots mc ms (F0 m pc ls st0) rest (PostR v Av) (fun q => H.size ≤ q)) (h : St D A s.heap ws H locs)
    (kk : ∀ (H1 : Heap) (locs1 : List Loc), St D A s.heap ws H1 locs1 → W p l e R s m args below meth c H1 locs1 (cells + mc) (slots + ms) Q (F0 m (pc + 3) ls (v.toList ++ rest))) : W p l e R s m args below meth c H locs cells slots Q (F0 m pc ls st0) := by
  intro T hT X
  obtain ⟨hP, hD, hS, hA⟩ := h
  obtain ⟨v', st₀, t, T', L, h0, X', hL, e1, e2, ⟨hv, hz, hk⟩, st⟩ := hr T hT X
  cases Outcome.returned.inj hv
  rw [h0] at hz hk
  have hk' : ∀ q : Nat, q < H.size → T'.heap[q]? = H[q]? := fun q hq => by rw [e1]; exact hk q hq (Nat.not_le.mpr hq)
  obtain ⟨t2, a1, b1⟩ := kk T'.heap (locs ++ L) ⟨hP.kept (fun k q hq => hk' q.1 (hP k q hq).lt), hD, ⟨Nat.le_trans hS.1 (by rw [e1]; exact hz), fun q h1 h2 => by rw [hk' q (Nat.lt_of_lt_of_le h1 hS.1)]; exact hS.2.1 q h1 h2, fun q hq => by
      rcases List.mem_append.mp hq with h | h
      · exact hS.2.2 q h
      · exact hA _ (Nat.le_trans hS.1 (hL q h))⟩, hA⟩ T' rfl X'
  exact ⟨t2, st t2 a1, b1⟩
theorem run_RR (hr : va_Run p l e R s m args below meth c H locs cells slots mc ms (F0 m pc ls st0) rest (PostR v Av) (fun q => H.size ≤ q)) (h : SR D s.heap ws H locs)
    (kk : ∀ (H1 : Heap) (locs1 : List Loc), SR D s.heap ws H1 locs1 → W p l e R s m args below meth c H1 locs1 (cells + mc) (slots + ms) Q (F0 m (pc + 3) ls (v.toList ++ rest))) : W p l e R s m args below meth c H locs cells slots Q (F0 m pc ls st0) := by
  intro T hT X
  obtain ⟨hP, hD, hS⟩ := h
  obtain ⟨v', st₀, t, T', L, h0, X', hL, e1, e2, ⟨hv, hz, hk⟩, st⟩ := hr T hT X
  cases Outcome.returned.inj hv
  rw [h0] at hz hk
  have hk' : ∀ q : Nat, q < H.size → T'.heap[q]? = H[q]? := fun q hq => by rw [e1]; exact hk q hq (Nat.not_le.mpr hq)
  obtain ⟨t2, a1, b1⟩ := kk T'.heap (locs ++ L) ⟨hP.kept (fun k q hq => hk' q.1 (hP k q hq).lt), hD, ⟨Nat.le_trans hS.1 (by rw [e1]; exact hz), fun q h1 h2 => by rw [hk' q (Nat.lt_of_lt_of_le h1 hS.1)]; exact hS.2.1 q h1 h2, fun q hq => by
      rcases List.mem_append.mp hq with h | h
      · exact hS.2.2 q h
      · exact Nat.le_trans hS.1 (hL q h)⟩⟩ T' rfl X'
  exact ⟨t2, st t2 a1, b1⟩
theorem pre_ok {As : List Value} (C : Cx p s m args meth c cc nL own D cA) (hP : va_P D vwCl wc H) (hD : va_D (fun _ => True) wc) : ∀ U : State, U.heap = H → s.WarmedH U.vm → PreC D cA H.size wc As As.toArray U :=
  fun U hU hW => ⟨rfl, by rw [hU], by rw [hU]; exact hP, KG.warm hW C.2.2.2.2.2.1, hD⟩
theorem recv_ok (C : Cx p s m args meth c cc nL own D cA) (hP : va_P D vwCl ws H) (q0 : Nat) {ci : Nat} {fs : List Value} {q : vw_C} (he : ws[q0]? = some (b, .inr (ci, fs))) (hc : vwCl[ci]? = some q) : ∃ cellB : Cell, H[b]? = some cellB ∧ cellB.vm.isStatics = false ∧ s.vm.findClass q.1 = some cellB.cls :=
  va_recv C.2.2.2.2.2.1.1 hP hc he
theorem call_VU (C : Cx p s m args meth c cc nL own D cA) (h : St D A s.heap ws H locs) (K : CtU y cy maxL ret rm (.ref b :: As) D cA wc wc' v mc ms) (F : CWv own idx y cy maxL ret n) (q0 : Nat) {ci : Nat} {fs : List Value} {T : u_T} {N : Nat} (he : ws[q0]? = some (b, .inr (ci, fs))) (hc : vwCl[ci]? = some (y.cls, T, N))
    (isC : List Nat) (hC : isC.map (fun i => ws[i]?) = wc.map some) (hnd : va_nd isC = true) (hf : wc'.map (fun q => q.1) = wc.map (fun q => q.1)) (hput : putl ws (isC.zip wc') = ws') (hn : As.length = n) (hst : st0 = As.reverse ++ .ref b :: rest) (hsz : ls.size = nL) (hW : (rest.map fun v => v.category).sum ≤ 8) (hdg : decode cc pc = .ok (.invokevirtual idx, 3))
    (hR : rm.frames + 1 ≤ R.frames ∧ 8 + (maxL + 11) + rm.locals ≤ R.locals) (hrc : rm.cells = mc) (hrs : rm.slots = ms) (hfit : cells + mc ≤ R.cells ∧ slots + ms ≤ R.slots)
    (kk : ∀ (H1 : Heap) (locs1 : List Loc), St D A s.heap ws' H1 locs1 → W p l e R s m args below meth c H1 locs1 (cells + mc) (slots + ms) Q (F0 m (pc + 3) ls (v.toList ++ rest))) : W p l e R s m args below meth c H locs cells slots Q (F0 m pc ls st0) :=
  run_U (va_runV (As := As) (rest := rest) ⟨C.1, C.2.1, C.2.2.1, C.2.2.2.1, C.2.2.2.2.1⟩ (K l H.size) (F.use C.2.2.2.2.1 hrc hrs hR) ⟨PreC.blind, recv_ok C h.1 q0 he hc, pre_ok C (sub_P h.1 hC) ((sub_D h.2.1 hC hnd).weaken (fun _ _ _ _ => trivial))⟩ rfl hn hsz hst (lv_room hW) hdg hfit) h isC hC hf hput kk
theorem call_VR (C : Cx p s m args meth c cc nL own D cA) (h : St D A s.heap ws H locs) (K : CtR y cy maxL ret rm (.ref b :: As) D cA wc v mc ms) (F : CWv own idx y cy maxL ret n) (q0 : Nat) {ci : Nat} {fs : List Value} {T : u_T} {N : Nat} (he : ws[q0]? = some (b, .inr (ci, fs))) (hc : vwCl[ci]? = some (y.cls, T, N))
    (isC : List Nat) (hC : isC.map (fun i => ws[i]?) = wc.map some) (hnd : va_nd isC = true) (hn : As.length = n) (hst : st0 = As.reverse ++ .ref b :: rest) (hsz : ls.size = nL) (hW : (rest.map fun v => v.category).sum ≤ 8) (hdg : decode cc pc = .ok (.invokevirtual idx, 3))
    (hR : rm.frames + 1 ≤ R.frames ∧ 8 + (maxL + 11) + rm.locals ≤ R.locals) (hrc : rm.cells = mc) (hrs : rm.slots = ms) (hfit : cells + mc ≤ R.cells ∧ slots + ms ≤ R.slots)
    (kk : ∀ (H1 : Heap) (locs1 : List Loc), St D A s.heap ws H1 locs1 → W p l e R s m args below meth c H1 locs1 (cells + mc) (slots + ms) Q (F0 m (pc + 3) ls (v.toList ++ rest))) : W p l e R s m args below meth c H locs cells slots Q (F0 m pc ls st0) :=
  run_R (va_runV (As := As) (rest := rest) ⟨C.1, C.2.1, C.2.2.1, C.2.2.2.1, C.2.2.2.2.1⟩ (K l H.size) (F.use C.2.2.2.2.1 hrc hrs hR) ⟨PreC.blind, recv_ok C h.1 q0 he hc, pre_ok C (sub_P h.1 hC) ((sub_D h.2.1 hC hnd).weaken (fun _ _ _ _ => trivial))⟩ rfl hn hsz hst (lv_room hW) hdg hfit) h kk
theorem call_VRR (C : Cx p s m args meth c cc nL own D cA) (h : SR D s.heap ws H locs) (K : CtR y cy maxL ret rm (.ref b :: As) D cA wc v mc ms) (F : CWv own idx y cy maxL ret n) (q0 : Nat) {ci : Nat} {fs : List Value} {T : u_T} {N : Nat} (he : ws[q0]? = some (b, .inr (ci, fs))) (hc : vwCl[ci]? = some (y.cls, T, N))
    (isC : List Nat) (hC : isC.map (fun i => ws[i]?) = wc.map some) (hnd : va_nd isC = true) (hn : As.length = n) (hst : st0 = As.reverse ++ .ref b :: rest) (hsz : ls.size = nL) (hW : (rest.map fun v => v.category).sum ≤ 8) (hdg : decode cc pc = .ok (.invokevirtual idx, 3))
    (hR : rm.frames + 1 ≤ R.frames ∧ 8 + (maxL + 11) + rm.locals ≤ R.locals) (hrc : rm.cells = mc) (hrs : rm.slots = ms) (hfit : cells + mc ≤ R.cells ∧ slots + ms ≤ R.slots)
    (kk : ∀ (H1 : Heap) (locs1 : List Loc), SR D s.heap ws H1 locs1 → W p l e R s m args below meth c H1 locs1 (cells + mc) (slots + ms) Q (F0 m (pc + 3) ls (v.toList ++ rest))) : W p l e R s m args below meth c H locs cells slots Q (F0 m pc ls st0) :=
  run_RR (va_runV (As := As) (rest := rest) ⟨C.1, C.2.1, C.2.2.1, C.2.2.2.1, C.2.2.2.2.1⟩ (K l H.size) (F.use C.2.2.2.2.1 hrc hrs hR) ⟨PreC.blind, recv_ok C h.1 q0 he hc, pre_ok C (sub_P h.1 hC) (sub_D h.2.1 hC hnd)⟩ rfl hn hsz hst (lv_room hW) hdg hfit) h kk
theorem D_fst {ws1 : va_W} (hD : va_D A ws) (hf : ws1.map (fun q => q.1) = ws.map (fun q => q.1)) : va_D A ws1 := by
  have key : ∀ (k : Nat) (q : Nat × va_E), ws1[k]? = some q → ∃ q0, ws[k]? = some q0 ∧ q0.1 = q.1 := by
    intro k q hq
    have h4 : (ws1.map (fun q => q.1))[k]? = some q.1 := by rw [List.getElem?_map, hq]; rfl
    rw [hf, List.getElem?_map] at h4
    cases hz : ws[k]? with
    | none => rw [hz] at h4; cases h4
    | some q0 => rw [hz] at h4; exact ⟨q0, rfl, Option.some.inj h4⟩
  refine ⟨fun i j x y hi hj hxy => ?_, fun k q hq => ?_⟩
  · obtain ⟨x0, h1, h2⟩ := key i x hi
    obtain ⟨y0, h3, h4⟩ := key j y hj
    exact hD.1 i j x0 y0 h1 h3 (h2.trans (hxy.trans h4.symm))
  · obtain ⟨q0, h1, h2⟩ := key k q hq
    rw [← h2]
    exact hD.2 k q0 h1
theorem run_Us (hr : va_Run p l e R s m args below meth c H locs cells slots mc ms (F0 m pc ls st0) rest (PostU D ws ws' H.size v Av) (va_A ws H.size)) (h : St D A s.heap ws H locs) (hf : ws'.map (fun q => q.1) = ws.map (fun q => q.1))
    (kk : ∀ (H1 : Heap) (locs1 : List Loc), St D A s.heap ws' H1 locs1 → W p l e R s m args below meth c H1 locs1 (cells + mc) (slots + ms) Q (F0 m (pc + 3) ls (v.toList ++ rest))) : W p l e R s m args below meth c H locs cells slots Q (F0 m pc ls st0) := by
  intro T hT X
  obtain ⟨hP, hD, hS, hA⟩ := h
  obtain ⟨v', st₀, t, T', L, h0, X', hL, e1, e2, ⟨hv, hp, hz, hk⟩, st⟩ := hr T hT X
  cases Outcome.returned.inj hv
  rw [h0] at hz hk
  have hfree : ∀ q : Nat, va_A ws H.size q → A q := by
    intro q hq
    rcases hq with ⟨j, e, hj⟩ | hq
    · exact hD.2 j _ hj
    · exact hA q (Nat.le_trans hS.1 hq)
  obtain ⟨t2, a1, b1⟩ := kk T'.heap (locs ++ L) ⟨by rw [e1]; exact hp, D_fst hD hf, ⟨Nat.le_trans hS.1 (by rw [e1]; exact hz), fun q h1 h2 => by rw [e1, hk q (Nat.lt_of_lt_of_le h1 hS.1) (fun z => h2 (hfree q z))]; exact hS.2.1 q h1 h2, fun q hq => by
      rcases List.mem_append.mp hq with h | h
      · exact hS.2.2 q h
      · exact hfree _ (hL q h)⟩, hA⟩ T' rfl X'
  exact ⟨t2, st t2 a1, b1⟩
theorem call_VUs (C : Cx p s m args meth c cc nL own D cA) (h : St D A s.heap ws H locs) (K : CtU y cy maxL ret rm (.ref b :: As) D cA ws ws' v mc ms) (F : CWv own idx y cy maxL ret n) (q0 : Nat) {ci : Nat} {fs : List Value} {T : u_T} {N : Nat} (he : ws[q0]? = some (b, .inr (ci, fs))) (hc : vwCl[ci]? = some (y.cls, T, N))
    (hf : ws'.map (fun q => q.1) = ws.map (fun q => q.1)) (hn : As.length = n) (hst : st0 = As.reverse ++ .ref b :: rest) (hsz : ls.size = nL) (hW : (rest.map fun v => v.category).sum ≤ 8) (hdg : decode cc pc = .ok (.invokevirtual idx, 3))
    (hR : rm.frames + 1 ≤ R.frames ∧ 8 + (maxL + 11) + rm.locals ≤ R.locals) (hrc : rm.cells = mc) (hrs : rm.slots = ms) (hfit : cells + mc ≤ R.cells ∧ slots + ms ≤ R.slots)
    (kk : ∀ (H1 : Heap) (locs1 : List Loc), St D A s.heap ws' H1 locs1 → W p l e R s m args below meth c H1 locs1 (cells + mc) (slots + ms) Q (F0 m (pc + 3) ls (v.toList ++ rest))) : W p l e R s m args below meth c H locs cells slots Q (F0 m pc ls st0) :=
  run_Us (va_runV (As := As) (rest := rest) ⟨C.1, C.2.1, C.2.2.1, C.2.2.2.1, C.2.2.2.2.1⟩ (K l H.size) (F.use C.2.2.2.2.1 hrc hrs hR) ⟨PreC.blind, recv_ok C h.1 q0 he hc, pre_ok C h.1 (h.2.1.weaken (fun _ _ _ _ => trivial))⟩ rfl hn hsz hst (lv_room hW) hdg hfit) h hf kk
theorem call_VRs (C : Cx p s m args meth c cc nL own D cA) (h : St D A s.heap ws H locs) (K : CtR y cy maxL ret rm (.ref b :: As) D cA ws v mc ms) (F : CWv own idx y cy maxL ret n) (q0 : Nat) {ci : Nat} {fs : List Value} {T : u_T} {N : Nat} (he : ws[q0]? = some (b, .inr (ci, fs))) (hc : vwCl[ci]? = some (y.cls, T, N))
    (hn : As.length = n) (hst : st0 = As.reverse ++ .ref b :: rest) (hsz : ls.size = nL) (hW : (rest.map fun v => v.category).sum ≤ 8) (hdg : decode cc pc = .ok (.invokevirtual idx, 3))
    (hR : rm.frames + 1 ≤ R.frames ∧ 8 + (maxL + 11) + rm.locals ≤ R.locals) (hrc : rm.cells = mc) (hrs : rm.slots = ms) (hfit : cells + mc ≤ R.cells ∧ slots + ms ≤ R.slots)
    (kk : ∀ (H1 : Heap) (locs1 : List Loc), St D A s.heap ws H1 locs1 → W p l e R s m args below meth c H1 locs1 (cells + mc) (slots + ms) Q (F0 m (pc + 3) ls (v.toList ++ rest))) : W p l e R s m args below meth c H locs cells slots Q (F0 m pc ls st0) :=
  run_R (va_runV (As := As) (rest := rest) ⟨C.1, C.2.1, C.2.2.1, C.2.2.2.1, C.2.2.2.2.1⟩ (K l H.size) (F.use C.2.2.2.2.1 hrc hrs hR) ⟨PreC.blind, recv_ok C h.1 q0 he hc, pre_ok C h.1 (h.2.1.weaken (fun _ _ _ _ => trivial))⟩ rfl hn hsz hst (lv_room hW) hdg hfit) h kk
theorem call_VRsR (C : Cx p s m args meth c cc nL own D cA) (h : SR D s.heap ws H locs) (K : CtR y cy maxL ret rm (.ref b :: As) D cA ws v mc ms) (F : CWv own idx y cy maxL ret n) (q0 : Nat) {ci : Nat} {fs : List Value} {T : u_T} {N : Nat} (he : ws[q0]? = some (b, .inr (ci, fs))) (hc : vwCl[ci]? = some (y.cls, T, N))
    (hn : As.length = n) (hst : st0 = As.reverse ++ .ref b :: rest) (hsz : ls.size = nL) (hW : (rest.map fun v => v.category).sum ≤ 8) (hdg : decode cc pc = .ok (.invokevirtual idx, 3))
    (hR : rm.frames + 1 ≤ R.frames ∧ 8 + (maxL + 11) + rm.locals ≤ R.locals) (hrc : rm.cells = mc) (hrs : rm.slots = ms) (hfit : cells + mc ≤ R.cells ∧ slots + ms ≤ R.slots)
    (kk : ∀ (H1 : Heap) (locs1 : List Loc), SR D s.heap ws H1 locs1 → W p l e R s m args below meth c H1 locs1 (cells + mc) (slots + ms) Q (F0 m (pc + 3) ls (v.toList ++ rest))) : W p l e R s m args below meth c H locs cells slots Q (F0 m pc ls st0) :=
  run_RR (va_runV (As := As) (rest := rest) ⟨C.1, C.2.1, C.2.2.1, C.2.2.2.1, C.2.2.2.2.1⟩ (K l H.size) (F.use C.2.2.2.2.1 hrc hrs hR) ⟨PreC.blind, recv_ok C h.1 q0 he hc, pre_ok C h.1 h.2.1⟩ rfl hn hsz hst (lv_room hW) hdg hfit) h kk
theorem call_SR (C : Cx p s m args meth c cc nL own D cA) (h : St D A s.heap ws H locs) (K : CtR y cy maxL ret rm As D cA wc v mc ms) (F : CWs own idx y cy maxL ret n)
    (isC : List Nat) (hC : isC.map (fun i => ws[i]?) = wc.map some) (hnd : va_nd isC = true) (hn : As.length = n) (hst : st0 = As.reverse ++ rest) (hsz : ls.size = nL) (hW : (rest.map fun v => v.category).sum ≤ 8) (hdg : decode cc pc = .ok (.invokestatic idx, 3))
    (hR : rm.frames + 1 ≤ R.frames ∧ 8 + (maxL + 11) + rm.locals ≤ R.locals) (hrc : rm.cells = mc) (hrs : rm.slots = ms) (hfit : cells + mc ≤ R.cells ∧ slots + ms ≤ R.slots)
    (kk : ∀ (H1 : Heap) (locs1 : List Loc), St D A s.heap ws H1 locs1 → W p l e R s m args below meth c H1 locs1 (cells + mc) (slots + ms) Q (F0 m (pc + 3) ls (v.toList ++ rest))) : W p l e R s m args below meth c H locs cells slots Q (F0 m pc ls st0) :=
  run_R (va_runS (As := As) (rest := rest) ⟨C.1, C.2.1, C.2.2.1, C.2.2.2.1, C.2.2.2.2.1⟩ (K l H.size) (F.use C.2.2.2.2.1 hrc hrs hR) ⟨PreC.blind, pre_ok C (sub_P h.1 hC) ((sub_D h.2.1 hC hnd).weaken (fun _ _ _ _ => trivial))⟩ rfl hn hsz hst (lv_room hW) hdg hfit) h kk
theorem call_SRR (C : Cx p s m args meth c cc nL own D cA) (h : SR D s.heap ws H locs) (K : CtR y cy maxL ret rm As D cA wc v mc ms) (F : CWs own idx y cy maxL ret n)
    (isC : List Nat) (hC : isC.map (fun i => ws[i]?) = wc.map some) (hnd : va_nd isC = true) (hn : As.length = n) (hst : st0 = As.reverse ++ rest) (hsz : ls.size = nL) (hW : (rest.map fun v => v.category).sum ≤ 8) (hdg : decode cc pc = .ok (.invokestatic idx, 3))
    (hR : rm.frames + 1 ≤ R.frames ∧ 8 + (maxL + 11) + rm.locals ≤ R.locals) (hrc : rm.cells = mc) (hrs : rm.slots = ms) (hfit : cells + mc ≤ R.cells ∧ slots + ms ≤ R.slots)
    (kk : ∀ (H1 : Heap) (locs1 : List Loc), SR D s.heap ws H1 locs1 → W p l e R s m args below meth c H1 locs1 (cells + mc) (slots + ms) Q (F0 m (pc + 3) ls (v.toList ++ rest))) : W p l e R s m args below meth c H locs cells slots Q (F0 m pc ls st0) :=
  run_RR (va_runS (As := As) (rest := rest) ⟨C.1, C.2.1, C.2.2.1, C.2.2.2.1, C.2.2.2.2.1⟩ (K l H.size) (F.use C.2.2.2.2.1 hrc hrs hR) ⟨PreC.blind, pre_ok C (sub_P h.1 hC) (sub_D h.2.1 hC hnd)⟩ rfl hn hsz hst (lv_room hW) hdg hfit) h kk
theorem has_nest (C : Cx p s m args meth c cc nL RX0 D cA) (F : Cond.static yX4_has ∈ WS ∧ Cond.initialized RX4 ∈ WS ∧ Cond.code yX4_has cX4_has 2 (some .boolean) ∈ WS) (hR : rm.frames + 1 ≤ R.frames ∧ 8 + (2 + 11) + rm.locals ≤ R.locals) (hrc : rm.cells = mc) (hrs : rm.slots = ms) :
    va_CN R s args RX0 46 yX4_has RX4 cX4_has 2 (some .boolean) (mws yX4_has cX4_has 2 (some .boolean)) rm mc ms 2 ∧ (Cond.static yX4_has).before args s = true ∧ True :=
  ⟨va_cnB 2 C.2.2.2.2.1 (ws_goodIn (mws_in F.2.2)) rfl hrc hrs C.2.2.2.2.2.1.2.2.2.2 (C.2.2.2.2.1 _ F.2.1) (by decide +kernel) hR, C.2.2.2.2.1 _ F.1, trivial⟩
theorem call_has (C : Cx p s m args meth c cc nL RX0 D cA) (h : St D A s.heap ws H locs) {x1 x2 : Int32} (K : CtR yX4_has cX4_has 2 (some .boolean) rm [.int x1, .int x2] D cA [] v 0 0) (F : Cond.static yX4_has ∈ WS ∧ Cond.initialized RX4 ∈ WS ∧ Cond.code yX4_has cX4_has 2 (some .boolean) ∈ WS)
    (hsz : ls.size = nL) (hW : (rest.map fun v => v.category).sum ≤ 8) (hdg : decode cc pc = .ok (.invokestatic 46, 3)) (hR : rm.frames + 1 ≤ R.frames ∧ 8 + (2 + 11) + rm.locals ≤ R.locals) (hrc : rm.cells = 0) (hrs : rm.slots = 0) (hfit : cells + 0 ≤ R.cells ∧ slots + 0 ≤ R.slots)
    (kk : ∀ (H1 : Heap) (locs1 : List Loc), St D A s.heap ws H1 locs1 → W p l e R s m args below meth c H1 locs1 (cells + 0) (slots + 0) Q (F0 m (pc + 3) ls (v.toList ++ rest))) : W p l e R s m args below meth c H locs cells slots Q (F0 m pc ls (.int x2 :: .int x1 :: rest)) :=
  run_R (va_runSN (As := [.int x1, .int x2]) (rest := rest) ⟨C.1, C.2.1, C.2.2.1, C.2.2.2.1, C.2.2.2.2.1⟩ (K l H.size) (has_nest C F hR hrc hrs) ⟨PreC.blind, pre_ok C (fun k q hq => by simp at hq) ⟨fun i j p q hq => by simp at hq, fun k q hq => by simp at hq⟩⟩ rfl rfl hsz rfl (lv_room hW) hdg hfit) h kk
theorem call_hasR (C : Cx p s m args meth c cc nL RX0 D cA) (h : SR D s.heap ws H locs) {x1 x2 : Int32} (K : CtR yX4_has cX4_has 2 (some .boolean) rm [.int x1, .int x2] D cA [] v 0 0) (F : Cond.static yX4_has ∈ WS ∧ Cond.initialized RX4 ∈ WS ∧ Cond.code yX4_has cX4_has 2 (some .boolean) ∈ WS)
    (hsz : ls.size = nL) (hW : (rest.map fun v => v.category).sum ≤ 8) (hdg : decode cc pc = .ok (.invokestatic 46, 3)) (hR : rm.frames + 1 ≤ R.frames ∧ 8 + (2 + 11) + rm.locals ≤ R.locals) (hrc : rm.cells = 0) (hrs : rm.slots = 0) (hfit : cells + 0 ≤ R.cells ∧ slots + 0 ≤ R.slots)
    (kk : ∀ (H1 : Heap) (locs1 : List Loc), SR D s.heap ws H1 locs1 → W p l e R s m args below meth c H1 locs1 (cells + 0) (slots + 0) Q (F0 m (pc + 3) ls (v.toList ++ rest))) : W p l e R s m args below meth c H locs cells slots Q (F0 m pc ls (.int x2 :: .int x1 :: rest)) :=
  run_RR (va_runSN (As := [.int x1, .int x2]) (rest := rest) ⟨C.1, C.2.1, C.2.2.1, C.2.2.2.1, C.2.2.2.2.1⟩ (K l H.size) (has_nest C F hR hrc hrs) ⟨PreC.blind, pre_ok C (fun k q hq => by simp at hq) ⟨fun i j p q hq => by simp at hq, fun k q hq => by simp at hq⟩⟩ rfl rfl hsz rfl (lv_room hW) hdg hfit) h kk
-- pure helps
theorem ifT {c : Prop} {i : Decidable c} {α : Sort _} {x y z : α} (h : c) (e : @ite α c i x y = z) : x = z := (if_pos h).symm.trans e
theorem ifF {c : Prop} {i : Decidable c} {α : Sort _} {x y z : α} (h : ¬ c) (e : @ite α c i x y = z) : y = z := (if_neg h).symm.trans e
theorem ifS {c : Prop} {i : Decidable c} {α : Type _} {x : Option α} {z : α} (e : @ite _ c i x none = some z) : c ∧ x = some z := by
  by_cases h : c
  · exact ⟨h, ifT h e⟩
  · exact absurd (ifF h e) (by simp)
theorem bdS {α β : Type _} {x : Option α} {f : α → Option β} {z : β} (e : x.bind f = some z) : ∃ y, x = some y ∧ f y = some z := Option.bind_eq_some_iff.mp e
end GR
