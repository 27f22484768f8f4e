/-! The law's calls of the desk: each by a method of its own that catches -/
section
variable {p : Program} {l : Launch} {e : Env} {R : Room} {s : State} {m : MethodId} {args : Array Value} {below : List Frame} {meth : Method} {c : Code} {H : Heap} {locs : List Loc} {cells slots : Nat} {Q : State → Prop}
variable {cc : ByteArray} {nL : Nat} {own : String} {D : va_G} {cA : Nat → ClassId} {A : Nat → Prop} {ws ws' wc wc' : va_W} {pc : Nat} {ls : Array Slot} {rest : List Value} {a : Nat} {H0 : Heap}
def IOB : String := "java/lang/IndexOutOfBoundsException"
def IAE : String := "java/lang/IllegalArgumentException"
def ISE : String := "java/lang/IllegalStateException"
def ncs : List (String × String) := [(IAE, ISE), (IAE, IOB), (ISE, IAE), (ISE, IOB), (IOB, IAE), (IOB, ISE)]
def NcG (U : State) : Prop := ∀ x ∈ ncs, va_Nc x.1 x.2 U
theorem NcG.warm {U : State} (hv : s.vm.Alike U.vm) (h : NcG s) : NcG U := fun x hx => va_Nc.moved hv (h x hx)
def PreW (D : va_G) (cA : Nat → ClassId) (sz : Nat) (ws : va_W) (As : List Value) : Array Value → State → Prop := va_Pc As (fun U => ((U.heap.size = sz ∧ va_P D vwCl ws U.heap ∧ KG D cA U ∧ va_D (fun _ => True) ws) ∧ XG sz U) ∧ NcG U)
theorem PreW.blind {sz : Nat} {As : List Value} : FrameBlind (PreW D cA sz ws As) := fun a U g mk h => ⟨h.1, (PreX.blind (ws := ws) (sz := sz) (As := As) (D := D) (cA := cA) a U g mk ⟨h.1, h.2.1⟩).2, NcG.warm (s := U) (U := U.calling g mk a) (Vm.Alike.refl _) h.2.2⟩
def XN : String → State → State → Prop := fun _ _ _ => False
def CtW (y : MethodName) (cc : ByteArray) (maxL : Nat) (hh : List (Nat × Nat × Nat × Nat)) (rm : Room) (As : List Value) (D : va_G) (cA : Nat → ClassId) (ws ws' : va_W) (k : Int32) : Prop :=
  ∀ (l : Launch) (sz : Nat), l.stackTraces = false → vx_Met l y (.codeWith y cc maxL (some .int) hh :: WS) rm (PreW D cA sz ws As) (PostU D ws ws' sz (some (.int k))) XN 1 6 (va_A ws sz)
theorem vxW_of {y : MethodName} {maxL : Nat} {hh : List (Nat × Nat × Nat × Nat)} {rm : Room} {As : List Value} {Qc : Nat → Array Value → State → Outcome → State → Prop} {mc ms : Nat} (hy : plainName y.cls = true) (hlen : (lg_sl As).length ≤ maxL)
    (body : ∀ (p : Program) (l : Launch) (e : Env) (s : State) (m : MethodId) (below : List Frame) (meth : Method) (c : Code) (ls : Array Slot), l.stackTraces = false → Cx p s m As.toArray meth c cc maxL y.cls D cA → meth.sig.returnType = some .int → c.exceptionTable.toList = tableOf hh →
      XG s.heap.size s → NcG s → SR D s.heap ws s.heap [] → St D (va_A ws s.heap.size) s.heap ws s.heap [] → lv_has ls maxL (lv_args 0 As) → W p l e rm s m As.toArray below meth c s.heap [] 0 0 (vx_MQ below (Qc s.heap.size) XN As.toArray s mc ms (va_A ws s.heap.size)) (F0 m 0 ls [])) :
    ∀ (l : Launch) (sz : Nat), l.stackTraces = false → vx_Met l y (.codeWith y cc maxL (some .int) hh :: WS) rm (PreW D cA sz ws As) (Qc sz) XN mc ms (va_A ws sz) := by
  intro l sz hl0
  refine vx_ofWH (cc := cc) (maxL := maxL) (ret := some .int) (hh := hh) hy rfl ?_
  intro p e s m args below meth c s₁ B hml hv
  obtain ⟨rfl, ⟨⟨hsz, hP, hK, hD0⟩, hX⟩, hN⟩ := hv
  subst hsz
  have hts := atoms_spec (ws := Cond.codeWith y cc maxL (some .int) hh :: WS) B.pre
  have hown : s.vm.findClass y.cls = some m.cls := findClass_of_methodNamed B.named
  have hl := lv_entry As (n := maxL) hlen
  rw [lg_entry_eq]
  exact body p l e s m below meth c _ hl0 ⟨B.exec, B.bytes, hml, hown, fun w hw => hts w (List.mem_cons_of_mem _ hw), hK, B.notSynchronized⟩ B.returns (vx_table (x := y) B (hts _ List.mem_cons_self)) hX hN ⟨hP, hD0, va_S.rf⟩ ⟨hP, hD0.self, va_S.rf, fun q h => Or.inr h⟩ hl
/-- the callee throws: on at the handler -/
theorem run_C {st0 : List Value} {Av : Array Value} {E : String} {hpc : Nat} (hr : vx_Run p l e R s m args below meth c H locs 0 0 1 6 (F0 m pc ls st0) rest (QF Av) (XX E) (fun q => H.size ≤ q)) (h : St D A s.heap ws H locs)
    (hcat : ∀ (H1 : Heap) (locs1 : List Loc) (q9 : Nat) (ce : Cell), H1[q9]? = some ce → ce.vm = .none → s.vm.findClass E = some ce.cls → W p l e R s m args below meth c H1 locs1 1 6 Q (F0 m hpc ls [.ref q9]) → vx_W p l e R s m args below meth c H1 locs1 1 6 Q (F0 m pc ls rest) q9)
    (kk : ∀ (q9 : Nat) (H1 : Heap) (locs1 : List Loc), St D A s.heap ws H1 locs1 → W p l e R s m args below meth c H1 locs1 1 6 Q (F0 m hpc ls [.ref q9])) : W p l e R s m args below meth c H locs 0 0 Q (F0 m pc ls st0) := by
  intro T hT X
  obtain ⟨hP, hD, hS, hA⟩ := h
  rcases hr T hT X with ⟨v, st₀, t, T', L, h0, X', hL, e1, e2, hf, st⟩ | ⟨q, st₀, t, T', L, E', ce, h0, X', hL, e1, e2, ⟨hE, hz, hk⟩, hce, hcv, hcl, st⟩
  · exact hf.elim
  · subst hE
    rw [h0] at hz hk
    have hk' : ∀ q : Nat, q < H.size → T'.heap[q]? = H[q]? := fun q hq => by rw [e1]; exact hk q hq (Nat.not_le.mpr hq)
    obtain ⟨t2, a1, b1⟩ := hcat T'.heap (locs ++ L) q ce (by rw [e1]; exact hce) hcv hcl (kk q T'.heap (locs ++ L) ⟨hP.kept (fun k q hq => hk' q.1 (hP k q hq).lt), hD, ⟨Nat.le_trans hS.1 (by rw [e1]; exact hz), fun q h1 h2 => by rw [hk' q (Nat.lt_of_lt_of_le h1 hS.1)]; exact hS.2.1 q h1 h2, fun q hq => by
      rcases List.mem_append.mp hq with h | h
      · exact hS.2.2 q h
      · exact hA _ (Nat.le_trans hS.1 (hL q h))⟩, hA⟩) T' rfl X'
    exact ⟨t2, st.trans a1, b1⟩
variable {y : MethodName} {cy : ByteArray} {maxL n idx : Nat} {ret : Option FieldType} {rm : Room} {As st0 : List Value} {b : Nat} {E : String}
theorem call_C (C : Cx p s m args meth c cc nL own D cA) (hl0 : l.stackTraces = false) (hX : XG s.heap.size s) (hR0 : SR D s.heap ws H locs) (h : St D A s.heap ws H locs) (K : CtT y cy maxL ret rm (.ref b :: As) D cA wc E) (F : CWv own idx y cy maxL ret n) (q0 : Nat) {ci : Nat} {fs : List Value} {T : u_T} {N : Nat} (he : ws[q0]? = some (b, .inr (ci, fs))) (hc : vwCl[ci]? = some (y.cls, T, N))
    (isC : List Nat) (hC : isC.map (fun i => ws[i]?) = wc.map some) (hnd : va_nd isC = true) (hn : As.length = n) (hst : st0 = As.reverse ++ .ref b :: rest) (hsz : ls.size = nL) (hW : (rest.map fun v => v.category).sum ≤ 8) (hdg : decode cc pc = .ok (.invokevirtual idx, 3))
    (hR : rm.frames + 1 ≤ R.frames ∧ 8 + (maxL + 11) + rm.locals ≤ R.locals) (hrc : rm.cells = 1) (hrs : rm.slots = 6) (hfit : 0 + 1 ≤ R.cells ∧ 0 + 6 ≤ R.slots) {hpc : Nat}
    (hcat : ∀ (H1 : Heap) (locs1 : List Loc) (q9 : Nat) (ce : Cell), H1[q9]? = some ce → ce.vm = .none → s.vm.findClass E = some ce.cls → W p l e R s m args below meth c H1 locs1 1 6 Q (F0 m hpc ls [.ref q9]) → vx_W p l e R s m args below meth c H1 locs1 1 6 Q (F0 m pc ls rest) q9)
    (kk : ∀ (q9 : Nat) (H1 : Heap) (locs1 : List Loc), St D A s.heap ws H1 locs1 → W p l e R s m args below meth c H1 locs1 1 6 Q (F0 m hpc ls [.ref q9])) :
    W p l e R s m args below meth c H locs 0 0 Q (F0 m pc ls st0) :=
  run_C (rest := rest) (vx_runV (As := As) (rest := rest) ⟨C.1, C.2.1, C.2.2.1, C.2.2.2.1, C.2.2.2.2.1⟩ (K l H.size hl0) (F.use C.2.2.2.2.1 hrc hrs hR) ⟨PreX.blind, recv_ok C h.1 q0 he hc, preX_ok C hX hR0 (sub_P h.1 hC) (sub_D hR0.2.1 hC hnd)⟩ rfl hn hsz hst (lv_room hW) hdg hfit) h hcat kk
theorem tail_map (x : Nat × va_E) (l : va_W) : (List.range' 1 l.length).map (fun i => (x :: l)[i]?) = l.map some := by
  apply List.ext_getElem
  · simp
  · intro i h1 h2
    simp at h1
    simp [Nat.add_comm 1 i, h1]
theorem tail_put (x : Nat × va_E) {l l' : va_W} (h : l.length = l'.length) : putl (x :: l) ((List.range' 1 l.length).zip l') = x :: l' := by
  have h1 := putl_seg l l' [x] [] h
  simpa using h1
theorem full_map (l : va_W) : (List.range l.length).map (fun i => l[i]?) = l.map some := by
  apply List.ext_getElem
  · simp
  · intro i h1 h2
    simp at h1
    simp [h1]
theorem sW_len (n : Nat) (q0 : Nat → Nat) (q : Nat → Nat → Nat) (cA : Nat → ClassId) (σ0 τ0 : Nat → Nat → Int32) (σ σ' : Nat → Nat → Nat → Int32) : (sW n q0 q cA σ0 σ).length = (sW n q0 q cA τ0 σ').length := by
  have h := congrArg List.length (sW_fst n q0 q cA σ0 τ0 σ σ')
  simp only [List.length_map] at h
  exact h.symm
/-- the desk behind the law's row of one long, of one double -/
def xL (n : Nat) (q0 : Nat → Nat) (q : Nat → Nat → Nat) (cA : Nat → ClassId) (σ0 : Nat → Nat → Int32) (σ : Nat → Nat → Nat → Int32) (o : Nat) (f : Nat → Int64) : va_W := (o, .inl (cA 3, 1, .inr (.inl f))) :: sW n q0 q cA σ0 σ
def xD (n : Nat) (q0 : Nat → Nat) (q : Nat → Nat → Nat) (cA : Nat → ClassId) (σ0 : Nat → Nat → Int32) (σ : Nat → Nat → Nat → Int32) (o : Nat) (f : Nat → UInt64) : va_W := (o, .inl (cA 4, 1, .inr (.inr (.inr (.inl f))))) :: sW n q0 q cA σ0 σ
theorem g_last (C : Cx p s m args meth c cc nL own D cA) (h : St D A H0 ws H locs) (q0 : Nat) {n : Nat} {f : Nat → Int64} {i : Int32} {x : Int64} (he : ws[q0]? = some (a, .inl (cA 3, n, .inr (.inl f)))) (hin : vp_in i n) (hw : ws.set q0 (a, .inl (cA 3, n, .inr (.inl (vp_updL f i.toNatClampNeg x)))) = ws') (hdg : decode cc pc = .ok (.lastore, 1))
    (kk : ∀ (H1 : Heap) (locs1 : List Loc), St D A H0 ws' H1 locs1 → W p l e R s m args below meth c H1 locs1 cells slots Q (F0 m (pc + 1) ls rest)) : W p l e R s m args below meth c H locs cells slots Q (F0 m pc ls (.long x :: .int i :: .ref a :: rest)) := by
  obtain ⟨hP, hD, hS, hA⟩ := h
  subst hw
  exact va_last C.1 C.2.1 C.2.2.2.2.2.1.1 hP hD hS q0 3 he rfl hin hdg (fun H1 locs1 h1 h2 h3 => kk H1 locs1 ⟨h1, h2, h3, hA⟩)
theorem g_dast (C : Cx p s m args meth c cc nL own D cA) (h : St D A H0 ws H locs) (q0 : Nat) {n : Nat} {f : Nat → UInt64} {i : Int32} {x : UInt64} (he : ws[q0]? = some (a, .inl (cA 4, n, .inr (.inr (.inr (.inl f)))))) (hin : vp_in i n) (hw : ws.set q0 (a, .inl (cA 4, n, .inr (.inr (.inr (.inl (vf_upd f i.toNatClampNeg x)))))) = ws') (hdg : decode cc pc = .ok (.dastore, 1))
    (kk : ∀ (H1 : Heap) (locs1 : List Loc), St D A H0 ws' H1 locs1 → W p l e R s m args below meth c H1 locs1 cells slots Q (F0 m (pc + 1) ls rest)) : W p l e R s m args below meth c H locs cells slots Q (F0 m pc ls (.double x :: .int i :: .ref a :: rest)) := by
  obtain ⟨hP, hD, hS, hA⟩ := h
  subst hw
  exact va_dast C.1 C.2.1 C.2.2.2.2.2.1.1 hP hD hS q0 4 he rfl hin hdg (fun H1 locs1 h1 h2 h3 => kk H1 locs1 ⟨h1, h2, h3, hA⟩)
theorem end_W {k : Int32} (C : Cx p s m args meth c cc nL own D cA) (hr : meth.sig.returnType = some .int) (hc : cells ≤ 1) (hs : slots ≤ 6) (h : St D (va_A ws s.heap.size) s.heap ws' H locs) (hdg : decode cc pc = .ok (.ireturn, 1)) :
    W p l e R s m args below meth c H locs cells slots (vx_MQ below (PostU D ws ws' s.heap.size (some (.int k))) XN args s 1 6 (va_A ws s.heap.size)) (F0 m pc ls [.int k]) :=
  W.widen hc hs (vx_ret (ret_iU C hr h hdg))
theorem cl_13 : Cond.classLink RL 13 ISE ∈ WS := wm 89 (by decide +kernel) rfl
theorem cl_19 : Cond.classLink RL 19 IOB ∈ WS := wm 250 (by decide +kernel) rfl
theorem cl_21 : Cond.classLink RL 21 IAE ∈ WS := wm 251 (by decide +kernel) rfl
theorem cast_ok {E : String} (h : TG s) (hE : E ∈ cst) : (Cond.castable E E).before args s = true := va_Nw.use rfl (h.2 E hE)
theorem cs1 : IOB ∈ cst ∧ IAE ∈ cst ∧ ISE ∈ cst := by decide +kernel
end
