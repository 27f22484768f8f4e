/-! The law's own world, its calls -/
section
variable {p : Program} {l : Launch} {e : Env} {R : Room} {s : State} {m : MethodId} {args : Array Value} {below : List Frame} {meth : Method} {c : Code} {H : Heap} {locs : List Loc} {cells slots : Nat} {Q : State → Prop}
variable {cc : ByteArray} {nL : Nat} {own : String} {D : va_G} {cA : Nat → ClassId} {A : Nat → Prop} {ws ws' wc wc' wr : va_W} {pc : Nat} {ls : Array Slot} {rest : List Value} {a : Nat} {H0 : Heap}
abbrev nA (s : State) : Nat → Prop := fun q => s.heap.size ≤ q
def CWx (idx : Nat) (y : MethodName) (cc : ByteArray) (maxL : Nat) (hh : List (Nat × Nat × Nat × Nat)) (n : Nat) : Prop := Cond.methodLink RL idx y ∈ WS ∧ Cond.static y ∈ WS ∧ Cond.initialized y.cls ∈ WS ∧ Cond.codeWith y cc maxL (some .int) hh ∈ WS ∧
  y.cls ≠ "java/lang/invoke/MethodHandle" ∧ y.cls ≠ "java/lang/invoke/VarHandle" ∧ (parseMethodDescriptor y.desc).map (fun d => d.parameters.length) = some n
theorem CWx.use {idx : Nat} {y : MethodName} {cy : ByteArray} {maxL n mc ms : Nat} {hh : List (Nat × Nat × Nat × Nat)} {rm : Room} (F : CWx idx y cy maxL hh n) (hts : ∀ w ∈ WS, w.before args s = true) (hrc : rm.cells = mc) (hrs : rm.slots = ms) (hR : rm.frames + 1 ≤ R.frames ∧ 8 + (maxL + 11) + rm.locals ≤ R.locals) :
    vx_CSW R s args RL idx y cy maxL (some .int) hh (.codeWith y cy maxL (some .int) hh :: WS) rm mc ms n := by
  obtain ⟨h1, h2, h4, h5, h6, h7, h8⟩ := F
  refine vx_cwSW n hts (ws_goodIn (fun w hw => ?_)) rfl hrc hrs ⟨h6, h7, h8⟩ hR
  rcases List.mem_append.mp hw with hw | hw
  · simp only [List.mem_cons, List.not_mem_nil, or_false] at hw
    rcases hw with rfl | rfl | rfl
    · exact h1
    · exact h2
    · exact h4
  · rcases List.mem_cons.mp hw with rfl | hw
    · exact h5
    · exact hw
theorem runX {mc ms : Nat} {free : Addr → Prop} {Qa : State → Outcome → State → Prop} {g : JFrame} (hr : vx_Run p l e R s m args below meth c H locs cells slots mc ms g rest Qa XN free) : va_Run p l e R s m args below meth c H locs cells slots mc ms g rest Qa free := fun T hT X => by
  rcases hr T hT X with h | ⟨q, st₀, t, T', L, E, ce, h0, X', hL, e1, e2, hq, h9⟩
  · exact h
  · exact hq.elim
theorem preW_ok {As : List Value} (C : Cx p s m args meth c cc nL own D cA) (hX : XG s.heap.size s) (hN : NcG s) (h : SR D s.heap ws H locs) (hP : va_P D vwCl wc H) (hD : va_D (fun _ => True) wc) : ∀ U : State, U.heap = H → s.WarmedH U.vm → PreW D cA H.size wc As As.toArray U :=
  fun U hU hW => ⟨rfl, (preX_ok (As := As) C hX h hP hD U hU hW).2, NcG.warm hW.alike hN⟩
theorem SR_of (h : St D (nA s) s.heap ws H locs) : SR D s.heap ws H locs := ⟨h.1, h.2.1.weaken (fun _ _ _ _ => trivial), h.2.2.1⟩
theorem app_map (a b : va_W) : (List.range a.length).map (fun i => (a ++ b)[i]?) = a.map some := by
  apply List.ext_getElem
  · simp
  · intro i h1 h2
    simp at h1
    simp [List.getElem?_append_left h1, h1]
theorem app_mapR (a b : va_W) : (List.range' a.length b.length).map (fun i => (a ++ b)[i]?) = b.map some := by
  apply List.ext_getElem
  · simp
  · intro i h1 h2
    simp at h1
    simp [List.getElem?_append_right (Nat.le_add_right a.length i), h1]
theorem app_put {a a' : va_W} (b : va_W) (h : a.length = a'.length) : putl (a ++ b) ((List.range a.length).zip a') = a' ++ b := by
  rw [List.range_eq_range']
  exact putl_seg a a' [] b h
theorem app_at {a : va_W} {i : Nat} {x : Nat × va_E} (h : a[i]? = some x) (b : va_W) : (a ++ b)[i]? = some x := by
  rw [List.getElem?_append_left (List.getElem?_eq_some_iff.mp h).1]
  exact h
theorem fst_len {a a' : va_W} (h : a'.map (fun q => q.1) = a.map (fun q => q.1)) : a.length = a'.length := by
  have h1 := congrArg List.length h
  simp only [List.length_map] at h1
  exact h1.symm
variable {y : MethodName} {cy : ByteArray} {maxL n mc ms idx b : Nat} {ret : Option FieldType} {hh : List (Nat × Nat × Nat × Nat)} {rm : Room} {As st0 : List Value} {v : Option Value}
/-- a call of the law's own, that catches -/
theorem call_W (C : Cx p s m args meth c cc nL RL D cA) (hl0 : l.stackTraces = false) (hX : XG s.heap.size s) (hN : NcG s) (h : St D (nA s) s.heap ws H locs) {k : Int32} (K : CtW y cy maxL hh rm As D cA wc wc' k) (F : CWx idx y cy maxL hh n)
    (hp : ws.Perm (wc ++ wr)) (hp' : (wc' ++ wr).Perm ws') (hf : wc'.map (fun q => q.1) = wc.map (fun q => q.1)) (hn : As.length = n) (hst : st0 = As.reverse ++ rest) (hsz : ls.size = nL) (hW : (rest.map fun v => v.category).sum ≤ 8) (hdg : decode cc pc = .ok (.invokestatic idx, 3))
    (hR : rm.frames + 1 ≤ R.frames ∧ 8 + (maxL + 11) + rm.locals ≤ R.locals) (hrc : rm.cells = 1) (hrs : rm.slots = 6) (hfit : cells + 1 ≤ R.cells ∧ slots + 6 ≤ R.slots)
    (kk : ∀ (H1 : Heap) (locs1 : List Loc), St D (nA s) s.heap ws' H1 locs1 → W p l e R s m args below meth c H1 locs1 (cells + 1) (slots + 6) Q (F0 m (pc + 3) ls (.int k :: rest))) : W p l e R s m args below meth c H locs cells slots Q (F0 m pc ls st0) := by
  have h' := St_perm hp h
  have hC := app_map wc wr
  exact run_U (v := some (.int k)) (rest := rest) (runX (vx_runSX (As := As) (rest := rest) ⟨C.1, C.2.1, C.2.2.1, C.2.2.2.1, C.2.2.2.2.1⟩ (K l H.size hl0) (F.use C.2.2.2.2.1 hrc hrs hR) ⟨PreW.blind, preW_ok C hX hN (SR_of h') (sub_P h'.1 hC) (sub_D (SR_of h').2.1 hC (nd_of _ List.nodup_range))⟩ rfl hn hsz hst (lv_room hW) hdg hfit)) h' (List.range wc.length) hC hf (app_put wr (fst_len hf)) (fun H1 locs1 h1 => kk H1 locs1 (St_perm hp' h1))
/-- one that leaves new cells too -/
theorem run_E {W' : (Nat → Nat) → va_W} {Qa : State → Outcome → State → Prop} (hQ : ∀ st oc t, Qa st oc t → oc = .returned v ∧ ∃ q : Nat → Nat, va_P D vwCl (W' q) t.heap ∧ va_D (va_A wc H.size) (W' q) ∧ va_F (va_A wc H.size) st t) (hr : va_Run p l e R s m args below meth c H locs cells slots mc ms (F0 m pc ls st0) rest Qa (va_A wc H.size)) (h : St D A s.heap (wc ++ wr) H locs)
    (kk : ∀ (q : Nat → Nat) (H1 : Heap) (locs1 : List Loc), St D A s.heap (W' q ++ wr) H1 locs1 → W p l e R s m args below meth c H1 locs1 (cells + mc) (slots + ms) Q (F0 m (pc + 3) ls (v.toList ++ rest))) : W p l e R s m args below meth c H locs cells slots Q (F0 m pc ls st0) := by
  intro T hT X
  obtain ⟨hP, hD, hS, hA⟩ := h
  obtain ⟨v', st₀, t, T', L, h0, X', hL, e1, e2, hq9, st⟩ := hr T hT X
  obtain ⟨hv, q, hp, hd, hz, hk⟩ := hQ _ _ _ hq9
  cases Outcome.returned.inj hv
  rw [h0] at hz hk
  have hfree : ∀ q : Nat, va_A wc H.size q → A q := by
    intro q hq
    rcases hq with ⟨j, e, hj⟩ | hq
    · exact hD.2 j _ (app_at hj wr)
    · exact hA q (Nat.le_trans hS.1 hq)
  obtain ⟨hP1, hD1⟩ := va_join hP hD (List.range wc.length) (List.range' wc.length wr.length) (app_map wc wr) (app_mapR wc wr) (nd_of _ List.nodup_range') (fun i hi hj => by
    have h1 := List.mem_range.mp hj
    have h2 := List.mem_range'_1.mp hi
    omega) (fun q h1 h2 => hk q h1 h2) hfree hp hd
  have h9 : St D A s.heap (wr ++ W' q) T'.heap (locs ++ L) := ⟨by rw [e1]; exact hP1, hD1, ⟨Nat.le_trans hS.1 (by rw [e1]; exact hz), fun q h1 h2 => by rw [e1, hk q (Nat.lt_of_lt_of_le h1 hS.1) (fun z => h2 (hfree q z))]; exact hS.2.1 q h1 h2, fun q hq => by
      rcases List.mem_append.mp hq with h | h
      · exact hS.2.2 q h
      · exact hfree _ (hL q h)⟩, hA⟩
  obtain ⟨t2, a1, b1⟩ := kk q T'.heap (locs ++ L) (St_perm List.perm_append_comm h9) T' rfl X'
  exact ⟨t2, st t2 a1, b1⟩
theorem call_VUp (C : Cx p s m args meth c cc nL own D cA) (h : St D A s.heap ws H locs) (K : CtU y cy maxL ret rm (.ref b :: As) D cA wc wc' v mc ms) (F : CWv own idx y cy maxL ret n) {ci : Nat} {fs : List Value} {T : u_T} {N : Nat} (he : wc[0]? = some (b, .inr (ci, fs))) (hc : vwCl[ci]? = some (y.cls, T, N))
    (hp : ws.Perm (wc ++ wr)) (hp' : (wc' ++ wr).Perm ws') (hf : wc'.map (fun q => q.1) = wc.map (fun q => q.1)) (hn : As.length = n) (hst : st0 = As.reverse ++ .ref b :: rest) (hsz : ls.size = nL) (hW : (rest.map fun v => v.category).sum ≤ 8) (hdg : decode cc pc = .ok (.invokevirtual idx, 3))
    (hR : rm.frames + 1 ≤ R.frames ∧ 8 + (maxL + 11) + rm.locals ≤ R.locals) (hrc : rm.cells = mc) (hrs : rm.slots = ms) (hfit : cells + mc ≤ R.cells ∧ slots + ms ≤ R.slots)
    (kk : ∀ (H1 : Heap) (locs1 : List Loc), St D A s.heap ws' H1 locs1 → W p l e R s m args below meth c H1 locs1 (cells + mc) (slots + ms) Q (F0 m (pc + 3) ls (v.toList ++ rest))) : W p l e R s m args below meth c H locs cells slots Q (F0 m pc ls st0) :=
  call_VU C (St_perm hp h) K F 0 (app_at he wr) hc (List.range wc.length) (app_map wc wr) (nd_of _ List.nodup_range) hf (app_put wr (fst_len hf)) hn hst hsz hW hdg hR hrc hrs hfit (fun H1 locs1 h1 => kk H1 locs1 (St_perm hp' h1))
theorem call_VRp (C : Cx p s m args meth c cc nL own D cA) (h : St D A s.heap ws H locs) (K : CtR y cy maxL ret rm (.ref b :: As) D cA wc v mc ms) (F : CWv own idx y cy maxL ret n) {ci : Nat} {fs : List Value} {T : u_T} {N : Nat} (he : wc[0]? = some (b, .inr (ci, fs))) (hc : vwCl[ci]? = some (y.cls, T, N))
    (hp : ws.Perm (wc ++ wr)) (hn : As.length = n) (hst : st0 = As.reverse ++ .ref b :: rest) (hsz : ls.size = nL) (hW : (rest.map fun v => v.category).sum ≤ 8) (hdg : decode cc pc = .ok (.invokevirtual idx, 3))
    (hR : rm.frames + 1 ≤ R.frames ∧ 8 + (maxL + 11) + rm.locals ≤ R.locals) (hrc : rm.cells = mc) (hrs : rm.slots = ms) (hfit : cells + mc ≤ R.cells ∧ slots + ms ≤ R.slots)
    (kk : ∀ (H1 : Heap) (locs1 : List Loc), St D A s.heap ws H1 locs1 → W p l e R s m args below meth c H1 locs1 (cells + mc) (slots + ms) Q (F0 m (pc + 3) ls (v.toList ++ rest))) : W p l e R s m args below meth c H locs cells slots Q (F0 m pc ls st0) :=
  call_VR C (St_perm hp h) K F 0 (app_at he wr) hc (List.range wc.length) (app_map wc wr) (nd_of _ List.nodup_range) hn hst hsz hW hdg hR hrc hrs hfit (fun H1 locs1 h1 => kk H1 locs1 (St_perm hp.symm h1))
/-- the law's world: two rows of one cell, the desk, the reference -/
def wL (n : Nat) (q0 : Nat → Nat) (q : Nat → Nat → Nat) (qm : Nat → Nat) (cA : Nat → ClassId) (σ0 : Nat → Nat → Int32) (σ : Nat → Nat → Nat → Int32) (τ : Nat → Nat → Int32) (o o2 : Nat) (f : Nat → Int64) (f2 : Nat → UInt64) : va_W :=
  (o, .inl (cA 3, 1, .inr (.inl f))) :: (o2, .inl (cA 4, 1, .inr (.inr (.inr (.inl f2))))) :: (sW n q0 q cA σ0 σ ++ mW qm cA τ)
section
variable (n : Nat) (q0 : Nat → Nat) (q : Nat → Nat → Nat) (qm : Nat → Nat) (cA : Nat → ClassId) (σ0 : Nat → Nat → Int32) (σ : Nat → Nat → Nat → Int32) (τ : Nat → Nat → Int32) (o o2 : Nat) (f : Nat → Int64) (f2 : Nat → UInt64)
abbrev rL (qm : Nat → Nat) (cA : Nat → ClassId) (τ : Nat → Nat → Int32) (o2 : Nat) (f2 : Nat → UInt64) : va_W := (o2, .inl (cA 4, 1, .inr (.inr (.inr (.inl f2))))) :: mW qm cA τ
abbrev rD (qm : Nat → Nat) (cA : Nat → ClassId) (τ : Nat → Nat → Int32) (o : Nat) (f : Nat → Int64) : va_W := (o, .inl (cA 3, 1, .inr (.inl f))) :: mW qm cA τ
abbrev rS (qm : Nat → Nat) (cA : Nat → ClassId) (τ : Nat → Nat → Int32) (o o2 : Nat) (f : Nat → Int64) (f2 : Nat → UInt64) : va_W := (o, .inl (cA 3, 1, .inr (.inl f))) :: (o2, .inl (cA 4, 1, .inr (.inr (.inr (.inl f2))))) :: mW qm cA τ
abbrev rM (n : Nat) (q0 : Nat → Nat) (q : Nat → Nat → Nat) (cA : Nat → ClassId) (σ0 : Nat → Nat → Int32) (σ : Nat → Nat → Nat → Int32) (o o2 : Nat) (f : Nat → Int64) (f2 : Nat → UInt64) : va_W := (o, .inl (cA 3, 1, .inr (.inl f))) :: (o2, .inl (cA 4, 1, .inr (.inr (.inr (.inl f2))))) :: sW n q0 q cA σ0 σ
theorem wL_L : (wL n q0 q qm cA σ0 σ τ o o2 f f2).Perm (xL n q0 q cA σ0 σ o f ++ rL qm cA τ o2 f2) := List.Perm.cons _ List.perm_middle.symm
theorem wL_D : (wL n q0 q qm cA σ0 σ τ o o2 f f2).Perm (xD n q0 q cA σ0 σ o2 f2 ++ rD qm cA τ o f) := (List.Perm.swap _ _ _).trans (List.Perm.cons _ List.perm_middle.symm)
theorem wL_S : (wL n q0 q qm cA σ0 σ τ o o2 f f2).Perm (sW n q0 q cA σ0 σ ++ rS qm cA τ o o2 f f2) := (List.Perm.cons _ List.perm_middle.symm).trans List.perm_middle.symm
theorem wL_M : (wL n q0 q qm cA σ0 σ τ o o2 f f2).Perm (mW qm cA τ ++ rM n q0 q cA σ0 σ o o2 f f2) := List.perm_append_comm (l₁ := rM n q0 q cA σ0 σ o o2 f f2)
theorem wL_o : (wL n q0 q qm cA σ0 σ τ o o2 f f2)[0]? = some (o, .inl (cA 3, 1, .inr (.inl f))) := rfl
theorem wL_o2 : (wL n q0 q qm cA σ0 σ τ o o2 f f2)[1]? = some (o2, .inl (cA 4, 1, .inr (.inr (.inr (.inl f2))))) := rfl
end
theorem xL_fst (n : Nat) (q0 : Nat → Nat) (q : Nat → Nat → Nat) (cA : Nat → ClassId) (σ0 τ0 : Nat → Nat → Int32) (σ σ' : Nat → Nat → Nat → Int32) (o : Nat) (f g : Nat → Int64) : (xL n q0 q cA τ0 σ' o g).map (fun q => q.1) = (xL n q0 q cA σ0 σ o f).map (fun q => q.1) := congrArg (List.cons o) (sW_fst ..)
theorem xD_fst (n : Nat) (q0 : Nat → Nat) (q : Nat → Nat → Nat) (cA : Nat → ClassId) (σ0 τ0 : Nat → Nat → Int32) (σ σ' : Nat → Nat → Nat → Int32) (o : Nat) (f g : Nat → UInt64) : (xD n q0 q cA τ0 σ' o g).map (fun q => q.1) = (xD n q0 q cA σ0 σ o f).map (fun q => q.1) := congrArg (List.cons o) (sW_fst ..)
abbrev L0 (b x m o o2 : Nat) (i : Int32) : List (Nat × Value) := [(0, .ref b), (1, .ref x), (2, .ref m), (3, .ref o), (4, .ref o2), (5, .int i)]
abbrev IT : Type := Nat → Nat → (Nat → Nat → Int32) → (Nat → Nat → Nat → Int32) → (Nat → Nat → Int32) → Prop
/-- the law's fixed facts; a script's place -/
def LX (p : Program) (l : Launch) (s : State) (m : MethodId) (args : Array Value) (meth : Method) (c : Code) (D : va_G) (cA : Nat → ClassId) (b L : Nat) (xs : Nat → Int32) : Prop :=
  Cx p s m args meth c cL_law 8 RL D cA ∧ l.stackTraces = false ∧ XG s.heap.size s ∧ NcG s ∧ va_X b L xs s s.heap ∧ b < s.heap.size
def HI (i : Int32) (L : Nat) : Prop := vp_in i L ∧ vp_in (i + 1) L ∧ vp_in (i + 2) L ∧ vp_in (i + 3) L ∧ vp_in (i + 4) L ∧ vp_in (i + 5) L
/-- on behind a call of the script -/
def LK (p : Program) (l : Launch) (e : Env) (s : State) (m : MethodId) (args : Array Value) (below : List Frame) (meth : Method) (c : Code) (D : va_G) (cA : Nat → ClassId) (b : Nat) (q0 qm : Nat → Nat) (o o2 : Nat) (Inv : IT) (t : Nat) (i : Int32) (cells slots : Nat) (Q : State → Prop) : Prop :=
  ∀ (n : Nat) (q : Nat → Nat → Nat) (σ0 : Nat → Nat → Int32) (σ : Nat → Nat → Nat → Int32) (τ : Nat → Nat → Int32) (f : Nat → Int64) (f2 : Nat → UInt64) (H : Heap) (locs : List Loc), Inv (t + 1) n σ0 σ τ → St D (nA s) s.heap (wL n q0 q qm cA σ0 σ τ o o2 f f2) H locs →
    ∀ ls : Array Slot, lv_has ls 8 (L0 b (q0 0) (qm 0) o o2 i) → W p l e room_1 s m args below meth c H locs (cells + 20) (slots + 263) Q (F0 m 2364 ls [])
theorem cmp_self (x : Int64) : lg_cmp x x = 0 := by simp [lg_cmp]
end
