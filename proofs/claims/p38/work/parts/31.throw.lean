/-! Throwing: the contract of a call that throws, the throw itself, and the throw that goes on -/
section
variable {p : Program} {l : Launch} {e : Env} {R : Room} {s : State} {m : MethodId} {args : Array Value} {below : List Frame} {meth : Method} {c : Code} {H : Heap} {locs : List Loc} {cells slots : Nat} {Q : State → Prop}
variable {cc : ByteArray} {nL : Nat} {own : String} {D : va_G} {cA : Nat → ClassId} {ws ws' wc : va_W} {pc : Nat} {ls : Array Slot} {rest : List Value} {H0 : Heap}
def strs : List (Nat × String) := [(37, "there are 6 envelopes"), (56, "before has a slot that the envelope does not have"), (66, "the envelope has 8 slots"), (72, "people is not 1 to 255"), (80, "the envelope would have more than 8 slots"), (86, "pace is not 0 to 30"), (88, "term is not 0 to 60"), (96, "the envelope has no slots"), (112, "the person cannot sign the slot now"), (131, "the person cannot decline the slot now"), (140, "the envelope is not sent"), (142, "person and other are the same"), (144, "first is before today, or last before first"), (146, "limit is not 1 to 9"), (160, "the person has no delegate"), (165, "days is not 1 to 60"), (234, "there is no such envelope"), (237, "there is no such person"), (239, "there is no such slot"), (241, "there is no such event"), (243, "there are not so many events"), (245, "the envelope is no draft")]
def dcl : List MethodName := [⟨"java/lang/RuntimeException", "<init>", "()V"⟩, ⟨"java/lang/RuntimeException", "<init>", "(Ljava/lang/String;)V"⟩, ⟨"java/lang/Exception", "<init>", "()V"⟩, ⟨"java/lang/Exception", "<init>", "(Ljava/lang/String;)V"⟩, ⟨"java/lang/Throwable", "<init>", "()V"⟩, ⟨"java/lang/Throwable", "<init>", "(Ljava/lang/String;)V"⟩]
def cst : List String := ["java/lang/IndexOutOfBoundsException", "java/lang/IllegalStateException", "java/lang/IllegalArgumentException"]
def exN : List String := ["java/lang/RuntimeException", "java/lang/Exception"]
def StrG (U : State) : Prop := ∀ x ∈ strs, ∃ sa, vk_R RX4 x.1 x.2 sa U
def TG (U : State) : Prop := (∀ y ∈ dcl, va_Nw (.declares y) U) ∧ ∀ x ∈ cst, va_Nw (.castable x x) U
def ZG (A : Nat → Prop) (U : State) (H : Heap) : Prop := vx_Zq Bundle.tN "UNASSIGNED_STACK" Bundle.steD A U H ∧ vx_Zq Bundle.tN "SUPPRESSED_SENTINEL" Bundle.listD A U H
/-- what a throw wants of a state, beside the world -/
def XG (sz : Nat) (U : State) : Prop := StrG U ∧ TG U ∧ ZG (fun q => sz ≤ q) U U.heap
theorem StrG.warm {U : State} (hW : s.WarmedH U.vm) (h : StrG s) : StrG U := fun x hx => by obtain ⟨sa, h1⟩ := h x hx; exact ⟨sa, h1.warm hW⟩
theorem TG.warm {U : State} (hW : s.WarmedH U.vm) (h : TG s) : TG U := ⟨fun y hy => va_Nw.warmD hW (h.1 y hy), fun x hx => va_Nw.warmC hW (h.2 x hx)⟩
theorem StrG.same {U : State} (hv : s.vm = U.vm) (h : StrG s) : StrG U := fun x hx => by obtain ⟨sa, h1⟩ := h x hx; exact ⟨sa, vk_R.same hv.symm h1⟩
theorem TG.same {U : State} (hv : s.vm = U.vm) (h : TG s) : TG U := ⟨fun y hy => va_Nw.same rfl hv (h.1 y hy), fun x hx => va_Nw.same rfl hv (h.2 x hx)⟩
theorem ZG.go {A B : Nat → Prop} {u U : State} {H H1 : Heap} (hvm : u.vm.Alike U.vm) (hk : ∀ a : Nat, a < H.size → ¬ A a → H1[a]? = H[a]?) (hAB : ∀ q, B q → A q) (h : ZG A u H) : ZG B U H1 :=
  ⟨((vx_Zq.moved hvm h.1).kept hk).narrow hAB, ((vx_Zq.moved hvm h.2).kept hk).narrow hAB⟩
/-- .. at a later heap of the same walk, for a call -/
theorem XG.call {U : State} (hW : s.WarmedH U.vm) (hS : va_S (fun q => s.heap.size ≤ q) s.heap H locs) (hU : U.heap = H) (h : XG s.heap.size s) : XG H.size U :=
  ⟨h.1.warm hW, h.2.1.warm hW, by rw [hU]; exact ZG.go hW.alike hS.2.1 (fun q hq => Nat.le_trans hS.1 hq) h.2.2⟩
def PreX (D : va_G) (cA : Nat → ClassId) (sz : Nat) (ws : va_W) (As : List Value) : Array Value → State → Prop := va_Pc As (fun U => (U.heap.size = sz ∧ va_P D vwCl ws U.heap ∧ KG D cA U ∧ va_D (fun _ => True) ws) ∧ XG sz U)
theorem PreX.blind {sz : Nat} {As : List Value} : FrameBlind (PreX D cA sz ws As) := fun a U g mk h => ⟨h.1, ⟨h.2.1.1, h.2.1.2.1, KG.same (s := U) (U := U.calling g mk a) rfl h.2.1.2.2.1, h.2.1.2.2.2⟩,
  StrG.same (s := U) (U := U.calling g mk a) rfl h.2.2.1, TG.same (s := U) (U := U.calling g mk a) rfl h.2.2.2.1, ZG.go (u := U) (U := U.calling g mk a) (Vm.Alike.refl _) (fun _ _ _ => rfl) (fun _ h => h) h.2.2.2.2⟩
def XX (E : String) : String → State → State → Prop := fun E' st t => E' = E ∧ va_F (fun q => st.heap.size ≤ q) st t
def QF : Array Value → State → Outcome → State → Prop := fun _ _ _ _ => False
/-- the method throws E, and changes nothing -/
def CtT (y : MethodName) (cc : ByteArray) (maxL : Nat) (ret : Option FieldType) (rm : Room) (As : List Value) (D : va_G) (cA : Nat → ClassId) (ws : va_W) (E : String) : Prop :=
  ∀ (l : Launch) (sz : Nat), l.stackTraces = false → vx_Met l y (mws y cc maxL ret) rm (PreX D cA sz ws As) QF (XX E) 1 6 (fun q => sz ≤ q)
theorem ctT_of {y : MethodName} {maxL : Nat} {ret : Option FieldType} {rm : Room} {As : List Value} {E : String} (hy : plainName y.cls = true) (hlen : (lg_sl As).length ≤ maxL)
    (body : ∀ (p : Program) (l : Launch) (e : Env) (s : State) (m : MethodId) (below : List Frame) (meth : Method) (c : Code) (ls : Array Slot), l.stackTraces = false → Cx p s m As.toArray meth c cc maxL y.cls D cA → (∀ x ∈ c.exceptionTable.toList, False) →
      XG s.heap.size s → SR D s.heap ws s.heap [] → lv_has ls maxL (lv_args 0 As) → W p l e rm s m As.toArray below meth c s.heap [] 0 0 (vx_MQ below QF (XX E) As.toArray s 1 6 (fun q => s.heap.size ≤ q)) (F0 m 0 ls [])) :
    CtT y cc maxL ret rm As D cA ws E := by
  intro l sz hl0
  refine vx_ofW (cc := cc) (maxL := maxL) (ret := ret) hy rfl ?_
  intro p e s m args below meth c s₁ B hml hex hv
  obtain ⟨rfl, ⟨hsz, hP, hK, hD0⟩, hX⟩ := hv
  subst hsz
  have hts := atoms_spec (ws := mws y cc maxL ret) B.pre
  have hown : s.vm.findClass y.cls = some m.cls := findClass_of_methodNamed B.named
  have hl := lv_entry As (n := maxL) hlen
  rw [lg_entry_eq]
  exact body p l e s m below meth c _ hl0 ⟨B.exec, B.bytes, hml, hown, fun w hw => hts w (List.mem_cons_of_mem _ hw), hK, B.notSynchronized⟩ hex hX ⟨hP, hD0, va_S.rf⟩ hl
def ngB : List Cond := dcl.map Cond.declares ++ cst.map (fun x => Cond.castable x x)
/-- the words of a throw of E in the class -/
def TW (E : String) (ik ic : Nat) : Prop := Cond.classLink RX4 ik E ∈ WS ∧ Cond.initialized E ∈ WS ∧ (∀ w ∈ (vx_atS RX4 ic E exN).filter goodWord, w ∈ lw_tbl) ∧ (∀ w ∈ (vx_atS RX4 ic E exN).filter (fun w => !goodWord w), w ∈ ngB) ∧
  (∀ w ∈ Cond.classLink RX4 ik E :: Cond.initialized E :: vx_atS RX4 ic E exN, vx_ot w = true) ∧ Bundle.fit E = true
theorem exN_fit : ∀ n ∈ exN, Bundle.fit n = true := by decide +kernel
theorem tw_IllegalStateException : TW "java/lang/IllegalStateException" 35 39 := ⟨wm 174 (by decide +kernel) rfl, wm 8 (by decide +kernel) rfl, by decide +kernel, by decide +kernel, by decide +kernel, by decide +kernel⟩
theorem tw_IllegalArgumentException : TW "java/lang/IllegalArgumentException" 54 58 := ⟨wm 280 (by decide +kernel) rfl, wm 11 (by decide +kernel) rfl, by decide +kernel, by decide +kernel, by decide +kernel, by decide +kernel⟩
theorem tw_IndexOutOfBoundsException : TW "java/lang/IndexOutOfBoundsException" 232 236 := ⟨wm 103 (by decide +kernel) rfl, wm 7 (by decide +kernel) rfl, by decide +kernel, by decide +kernel, by decide +kernel, by decide +kernel⟩
theorem ng_ok {args : Array Value} (h : TG s) : ∀ w ∈ ngB, w.before args s = true := by
  intro w hw
  rcases List.mem_append.mp hw with h1 | h1
  · obtain ⟨y, hy, rfl⟩ := List.mem_map.mp h1
    exact va_Nw.use rfl (h.1 y hy)
  · obtain ⟨x, hx, rfl⟩ := List.mem_map.mp h1
    exact va_Nw.use rfl (h.2 x hx)
/-- throw new E(text) -/
theorem g_throw (C : Cx p s m args meth c cc nL RX4 D cA) (hl0 : l.stackTraces = false) (hex : ∀ x ∈ c.exceptionTable.toList, False) (hX : XG s.heap.size s) (h : SR D s.heap ws H locs) {E text : String} {ik ic is : Nat} (F : TW E ik ic) (hs : (is, text) ∈ strs) (hsz : ls.size = nL)
    (d0 : decode cc pc = .ok (.new ik, 3)) (d3 : decode cc (pc + 3) = .ok (.dup, 1)) (d4 : decode cc (pc + 4) = .ok (.ldc is, 2)) (d6 : decode cc (pc + 6) = .ok (.invokespecial ic, 3)) (d9 : decode cc (pc + 9) = .ok (.athrow, 1))
    (hRf : 5 < R.frames) (hRl : (rest.map fun v => v.category).sum + 82 ≤ R.locals) (hRc : cells + 1 ≤ R.cells) (hRs : slots + 6 ≤ R.slots) (hc : cells + 1 ≤ 1) (hs6 : slots + 6 ≤ 6) {Qc : Array Value → State → Outcome → State → Prop} :
    W p l e R s m args below meth c H locs cells slots (vx_MQ below Qc (XX E) args s 1 6 (fun q => s.heap.size ≤ q)) (F0 m pc ls rest) := by
  obtain ⟨hx, hb, hml, hown, hts, hK, hlk⟩ := C
  obtain ⟨sa, hstr⟩ := hX.1 _ hs
  obtain ⟨f1, f2, f3, f4, f5, f6⟩ := F
  refine vx_throwS hx hb hl0 hown f6 exN_fit (hts _ f1) (hts _ f2) hstr (vx_hat (fun w hw => hts w (ws_mem (f3 w hw) (List.mem_filter.mp hw).2)) f4 (ng_ok hX.2.1)) f5 hX.2.2.1 hX.2.2.2 h.2.2 (hsz.trans hml.symm) d0 d3 d4 d6 d9 (fun x hx => (hex x hx).elim) hRf hRl hRc hRs hlk ?_ h.2.2.2.2 hc hs6
  intro t hv hz hk
  exact ⟨rfl, Nat.le_trans h.2.2.1 hz, fun q h1 h2 => by rw [hk q (Nat.lt_of_lt_of_le h1 h.2.2.1)]; exact h.2.2.2.1 q h1 h2⟩
theorem run_T {rm : Room} {st0 : List Value} {Av : Array Value} {E : String} {Qc Qd : Array Value → State → Outcome → State → Prop} (C : Cx p s m args meth c cc nL own D cA) (hex : ∀ x ∈ c.exceptionTable.toList, False) (hr : vx_Run p l e R s m args below meth c H locs 0 0 1 6 (F0 m pc ls st0) rest (QF Av) (XX E) (fun q => H.size ≤ q)) (h : SR D s.heap ws H locs) :
    W p l e R s m args below meth c H locs 0 0 (vx_MQ below Qc (XX E) args s 1 6 (fun q => s.heap.size ≤ q)) (F0 m pc ls st0) := by
  intro T hT X
  obtain ⟨hP, hD, hS⟩ := h
  rcases hr T hT X with ⟨v, st₀, t, T', L, h0, X', hL, e1, e2, hf, st⟩ | ⟨q, st₀, t, T', L, E', ce, h0, X', hL, e1, e2, ⟨hE, hz, hk⟩, hce, hcv, hcl, st⟩
  · exact hf.elim
  · subst hE
    rw [h0] at hz hk
    have hk' : ∀ q : Nat, q < s.heap.size → T'.heap[q]? = s.heap[q]? := fun q hq => by
      have h1 : q < H.size := Nat.lt_of_lt_of_le hq hS.1
      rw [e1, hk q h1 (Nat.not_le.mpr h1)]
      exact hS.2.1 q hq (Nat.not_le.mpr hq)
    obtain ⟨t2, a1, b1⟩ := vx_out (Qc := Qc) (XC := XX E') (free := fun q => s.heap.size ≤ q) (mc := 1) (ms := 6) (ls := ls) (rest := rest) (pc := pc) (below := below) (args := args) (locs := locs ++ L) (fun x hx => (hex x hx).elim) C.2.2.2.2.2.2 (by rw [e1]; exact hce) hcv hcl
      (fun t3 ht3 _ => ⟨rfl, by rw [ht3, e1]; exact Nat.le_trans hS.1 hz, fun q h1 _ => by rw [ht3]; exact hk' q h1⟩)
      (fun z hz9 => by
        rcases List.mem_append.mp hz9 with h | h
        · exact hS.2.2 z h
        · exact Nat.le_trans hS.1 (hL z h)) (Nat.le_refl _) (Nat.le_refl _) T' rfl X'
    exact ⟨t2, st.trans a1, b1⟩
theorem preX_ok {As : List Value} (C : Cx p s m args meth c cc nL own D cA) (hX : XG s.heap.size s) (h : SR D s.heap ws H locs) (hP : va_P D vwCl wc H) (hD : va_D (fun _ => True) wc) : ∀ U : State, U.heap = H → s.WarmedH U.vm → PreX D cA H.size wc As As.toArray U :=
  fun U hU hW => ⟨rfl, ⟨by rw [hU], by rw [hU]; exact hP, KG.warm hW C.2.2.2.2.2.1, hD⟩, XG.call hW h.2.2 hU hX⟩
variable {y : MethodName} {cy : ByteArray} {maxL n idx : Nat} {ret : Option FieldType} {rm : Room} {As st0 : List Value} {b : Nat} {E : String} {Qc : Array Value → State → Outcome → State → Prop}
theorem call_TV (C : Cx p s m args meth c cc nL own D cA) (hl0 : l.stackTraces = false) (hex : ∀ x ∈ c.exceptionTable.toList, False) (hX : XG s.heap.size s) (h : SR D s.heap ws H locs) (K : CtT y cy maxL ret rm (.ref b :: As) D cA wc E) (F : CWv own idx y cy maxL ret n) (q0 : Nat) {ci : Nat} {fs : List Value} {T : u_T} {N : Nat} (he : ws[q0]? = some (b, .inr (ci, fs))) (hc : vwCl[ci]? = some (y.cls, T, N))
    (isC : List Nat) (hC : isC.map (fun i => ws[i]?) = wc.map some) (hnd : va_nd isC = true) (hn : As.length = n) (hst : st0 = As.reverse ++ .ref b :: rest) (hsz : ls.size = nL) (hW : (rest.map fun v => v.category).sum ≤ 8) (hdg : decode cc pc = .ok (.invokevirtual idx, 3))
    (hR : rm.frames + 1 ≤ R.frames ∧ 8 + (maxL + 11) + rm.locals ≤ R.locals) (hrc : rm.cells = 1) (hrs : rm.slots = 6) (hfit : 0 + 1 ≤ R.cells ∧ 0 + 6 ≤ R.slots) :
    W p l e R s m args below meth c H locs 0 0 (vx_MQ below Qc (XX E) args s 1 6 (fun q => s.heap.size ≤ q)) (F0 m pc ls st0) :=
  run_T (rm := rm) (rest := rest) (Qd := Qc) C hex (vx_runV (As := As) (rest := rest) ⟨C.1, C.2.1, C.2.2.1, C.2.2.2.1, C.2.2.2.2.1⟩ (K l H.size hl0) (F.use C.2.2.2.2.1 hrc hrs hR) ⟨PreX.blind, recv_ok C h.1 q0 he hc, preX_ok C hX h (sub_P h.1 hC) (sub_D h.2.1 hC hnd)⟩ rfl hn hsz hst (lv_room hW) hdg hfit) h
theorem call_TS (C : Cx p s m args meth c cc nL own D cA) (hl0 : l.stackTraces = false) (hex : ∀ x ∈ c.exceptionTable.toList, False) (hX : XG s.heap.size s) (h : SR D s.heap ws H locs) (K : CtT y cy maxL ret rm As D cA wc E) (F : CWs own idx y cy maxL ret n)
    (isC : List Nat) (hC : isC.map (fun i => ws[i]?) = wc.map some) (hnd : va_nd isC = true) (hn : As.length = n) (hst : st0 = As.reverse ++ rest) (hsz : ls.size = nL) (hW : (rest.map fun v => v.category).sum ≤ 8) (hdg : decode cc pc = .ok (.invokestatic idx, 3))
    (hR : rm.frames + 1 ≤ R.frames ∧ 8 + (maxL + 11) + rm.locals ≤ R.locals) (hrc : rm.cells = 1) (hrs : rm.slots = 6) (hfit : 0 + 1 ≤ R.cells ∧ 0 + 6 ≤ R.slots) :
    W p l e R s m args below meth c H locs 0 0 (vx_MQ below Qc (XX E) args s 1 6 (fun q => s.heap.size ≤ q)) (F0 m pc ls st0) :=
  run_T (rm := rm) (rest := rest) (Qd := Qc) C hex (vx_runS (As := As) (rest := rest) ⟨C.1, C.2.1, C.2.2.1, C.2.2.2.1, C.2.2.2.2.1⟩ (K l H.size hl0) (F.use C.2.2.2.2.1 hrc hrs hR) ⟨PreX.blind, preX_ok C hX h (sub_P h.1 hC) (sub_D h.2.1 hC hnd)⟩ rfl hn hsz hst (lv_room hW) hdg hfit) h
end
