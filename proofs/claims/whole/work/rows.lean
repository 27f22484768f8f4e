section
-- ===== PART A: goes FIRST, ahead of the names: the tables' words, and 'selects' of the private methods out of them =====
/-- a private method of a class that the tables say can be made, by its rows of tables_1 -/
def lw_okq (q : MethodName × Nat) : Prop := (q.1.cls ≠ "java/lang/invoke/MethodHandle" ∧ q.1.cls ≠ "java/lang/invoke/VarHandle") ∧ Cond.instantiable q.1.cls q.2 ∈ tables_1 ∧ Cond.privateMethod q.1 ∈ tables_1 ∧ Cond.instanceMethod q.1 ∈ tables_1
theorem lw_p0 : lw_okq (⟨"java/lang/Throwable", "fillInStackTrace", "(I)Ljava/lang/Throwable;"⟩, 6) := ⟨⟨by decide +kernel, by decide +kernel⟩, List.mem_of_getElem? (i := 133) (by decide +kernel), List.mem_of_getElem? (i := 131) (by decide +kernel), List.mem_of_getElem? (i := 132) (by decide +kernel)⟩
theorem lw_p1 : lw_okq (⟨"Signround", "envelopeAt", "(I)LSignround$Envelope;"⟩, 5) := ⟨⟨by decide +kernel, by decide +kernel⟩, List.mem_of_getElem? (i := 16) (by decide +kernel), List.mem_of_getElem? (i := 257) (by decide +kernel), List.mem_of_getElem? (i := 258) (by decide +kernel)⟩
theorem lw_p2 : lw_okq (⟨"Signround", "reasonFor", "(ILSignround$Envelope;I)I"⟩, 5) := ⟨⟨by decide +kernel, by decide +kernel⟩, List.mem_of_getElem? (i := 16) (by decide +kernel), List.mem_of_getElem? (i := 386) (by decide +kernel), List.mem_of_getElem? (i := 387) (by decide +kernel)⟩
theorem lw_p3 : lw_okq (⟨"Signround", "standinOf", "(I)LSignround$Standin;"⟩, 5) := ⟨⟨by decide +kernel, by decide +kernel⟩, List.mem_of_getElem? (i := 16) (by decide +kernel), List.mem_of_getElem? (i := 391) (by decide +kernel), List.mem_of_getElem? (i := 392) (by decide +kernel)⟩
theorem lw_p4 : lw_okq (⟨"Signround", "passOneDay", "()I"⟩, 5) := ⟨⟨by decide +kernel, by decide +kernel⟩, List.mem_of_getElem? (i := 16) (by decide +kernel), List.mem_of_getElem? (i := 479) (by decide +kernel), List.mem_of_getElem? (i := 480) (by decide +kernel)⟩
theorem lw_p5 : lw_okq (⟨"SignroundModel", "goes", "(ZZZ)Z"⟩, 25) := ⟨⟨by decide +kernel, by decide +kernel⟩, List.mem_of_getElem? (i := 677) (by decide +kernel), List.mem_of_getElem? (i := 767) (by decide +kernel), List.mem_of_getElem? (i := 768) (by decide +kernel)⟩
theorem lw_p6 : lw_okq (⟨"SignroundModel", "isEnvelope", "(I)Z"⟩, 25) := ⟨⟨by decide +kernel, by decide +kernel⟩, List.mem_of_getElem? (i := 677) (by decide +kernel), List.mem_of_getElem? (i := 775) (by decide +kernel), List.mem_of_getElem? (i := 776) (by decide +kernel)⟩
theorem lw_p7 : lw_okq (⟨"SignroundModel", "all", "(I)I"⟩, 25) := ⟨⟨by decide +kernel, by decide +kernel⟩, List.mem_of_getElem? (i := 677) (by decide +kernel), List.mem_of_getElem? (i := 785) (by decide +kernel), List.mem_of_getElem? (i := 786) (by decide +kernel)⟩
theorem lw_p8 : lw_okq (⟨"SignroundModel", "isIn", "(II)Z"⟩, 25) := ⟨⟨by decide +kernel, by decide +kernel⟩, List.mem_of_getElem? (i := 677) (by decide +kernel), List.mem_of_getElem? (i := 789) (by decide +kernel), List.mem_of_getElem? (i := 790) (by decide +kernel)⟩
theorem lw_p9 : lw_okq (⟨"SignroundModel", "looks", "(I)V"⟩, 25) := ⟨⟨by decide +kernel, by decide +kernel⟩, List.mem_of_getElem? (i := 677) (by decide +kernel), List.mem_of_getElem? (i := 793) (by decide +kernel), List.mem_of_getElem? (i := 794) (by decide +kernel)⟩
theorem lw_p10 : lw_okq (⟨"SignroundModel", "tells", "(II)V"⟩, 25) := ⟨⟨by decide +kernel, by decide +kernel⟩, List.mem_of_getElem? (i := 677) (by decide +kernel), List.mem_of_getElem? (i := 797) (by decide +kernel), List.mem_of_getElem? (i := 798) (by decide +kernel)⟩
theorem lw_p11 : lw_okq (⟨"SignroundModel", "opens", "(II)V"⟩, 25) := ⟨⟨by decide +kernel, by decide +kernel⟩, List.mem_of_getElem? (i := 677) (by decide +kernel), List.mem_of_getElem? (i := 801) (by decide +kernel), List.mem_of_getElem? (i := 802) (by decide +kernel)⟩
theorem lw_p12 : lw_okq (⟨"SignroundModel", "adds", "(III)I"⟩, 25) := ⟨⟨by decide +kernel, by decide +kernel⟩, List.mem_of_getElem? (i := 677) (by decide +kernel), List.mem_of_getElem? (i := 811) (by decide +kernel), List.mem_of_getElem? (i := 812) (by decide +kernel)⟩
theorem lw_p13 : lw_okq (⟨"SignroundModel", "notes", "(IIII)V"⟩, 25) := ⟨⟨by decide +kernel, by decide +kernel⟩, List.mem_of_getElem? (i := 677) (by decide +kernel), List.mem_of_getElem? (i := 830) (by decide +kernel), List.mem_of_getElem? (i := 831) (by decide +kernel)⟩
theorem lw_p14 : lw_okq (⟨"SignroundModel", "open", "()I"⟩, 25) := ⟨⟨by decide +kernel, by decide +kernel⟩, List.mem_of_getElem? (i := 677) (by decide +kernel), List.mem_of_getElem? (i := 834) (by decide +kernel), List.mem_of_getElem? (i := 835) (by decide +kernel)⟩
theorem lw_p15 : lw_okq (⟨"SignroundModel", "isSlot", "(II)Z"⟩, 25) := ⟨⟨by decide +kernel, by decide +kernel⟩, List.mem_of_getElem? (i := 677) (by decide +kernel), List.mem_of_getElem? (i := 842) (by decide +kernel), List.mem_of_getElem? (i := 843) (by decide +kernel)⟩
def lw_privs_1 : List (MethodName × Nat) := [(⟨"java/lang/Throwable", "fillInStackTrace", "(I)Ljava/lang/Throwable;"⟩, 6), (⟨"Signround", "envelopeAt", "(I)LSignround$Envelope;"⟩, 5), (⟨"Signround", "reasonFor", "(ILSignround$Envelope;I)I"⟩, 5), (⟨"Signround", "standinOf", "(I)LSignround$Standin;"⟩, 5), (⟨"Signround", "passOneDay", "()I"⟩, 5), (⟨"SignroundModel", "goes", "(ZZZ)Z"⟩, 25), (⟨"SignroundModel", "isEnvelope", "(I)Z"⟩, 25), (⟨"SignroundModel", "all", "(I)I"⟩, 25), (⟨"SignroundModel", "isIn", "(II)Z"⟩, 25), (⟨"SignroundModel", "looks", "(I)V"⟩, 25), (⟨"SignroundModel", "tells", "(II)V"⟩, 25), (⟨"SignroundModel", "opens", "(II)V"⟩, 25), (⟨"SignroundModel", "adds", "(III)I"⟩, 25), (⟨"SignroundModel", "notes", "(IIII)V"⟩, 25), (⟨"SignroundModel", "open", "()I"⟩, 25), (⟨"SignroundModel", "isSlot", "(II)Z"⟩, 25)]
theorem lw_r1 : ∀ q ∈ lw_privs_1, lw_okq q := List.forall_mem_cons.mpr ⟨lw_p0, List.forall_mem_cons.mpr ⟨lw_p1, List.forall_mem_cons.mpr ⟨lw_p2, List.forall_mem_cons.mpr ⟨lw_p3, List.forall_mem_cons.mpr ⟨lw_p4, List.forall_mem_cons.mpr ⟨lw_p5, List.forall_mem_cons.mpr ⟨lw_p6, List.forall_mem_cons.mpr ⟨lw_p7, List.forall_mem_cons.mpr ⟨lw_p8, List.forall_mem_cons.mpr ⟨lw_p9, List.forall_mem_cons.mpr ⟨lw_p10, List.forall_mem_cons.mpr ⟨lw_p11, List.forall_mem_cons.mpr ⟨lw_p12, List.forall_mem_cons.mpr ⟨lw_p13, List.forall_mem_cons.mpr ⟨lw_p14, List.forall_mem_cons.mpr ⟨lw_p15, fun _ h => absurd h List.not_mem_nil⟩⟩⟩⟩⟩⟩⟩⟩⟩⟩⟩⟩⟩⟩⟩⟩
theorem lw_p16 : lw_okq (⟨"SignroundModel", "why", "(III)I"⟩, 25) := ⟨⟨by decide +kernel, by decide +kernel⟩, List.mem_of_getElem? (i := 677) (by decide +kernel), List.mem_of_getElem? (i := 846) (by decide +kernel), List.mem_of_getElem? (i := 847) (by decide +kernel)⟩
theorem lw_p17 : lw_okq (⟨"SignroundModel", "delegated", "(I)I"⟩, 25) := ⟨⟨by decide +kernel, by decide +kernel⟩, List.mem_of_getElem? (i := 677) (by decide +kernel), List.mem_of_getElem? (i := 850) (by decide +kernel), List.mem_of_getElem? (i := 851) (by decide +kernel)⟩
theorem lw_p18 : lw_okq (⟨"SignroundModel", "signedToday", "(I)I"⟩, 25) := ⟨⟨by decide +kernel, by decide +kernel⟩, List.mem_of_getElem? (i := 677) (by decide +kernel), List.mem_of_getElem? (i := 854) (by decide +kernel), List.mem_of_getElem? (i := 855) (by decide +kernel)⟩
theorem lw_p19 : lw_okq (⟨"SignroundModel", "closes", "(IIII)I"⟩, 25) := ⟨⟨by decide +kernel, by decide +kernel⟩, List.mem_of_getElem? (i := 677) (by decide +kernel), List.mem_of_getElem? (i := 866) (by decide +kernel), List.mem_of_getElem? (i := 867) (by decide +kernel)⟩
theorem lw_p20 : lw_okq (⟨"SignroundModel", "passes", "()I"⟩, 25) := ⟨⟨by decide +kernel, by decide +kernel⟩, List.mem_of_getElem? (i := 677) (by decide +kernel), List.mem_of_getElem? (i := 898) (by decide +kernel), List.mem_of_getElem? (i := 899) (by decide +kernel)⟩
theorem lw_p21 : lw_okq (⟨"SignroundModel", "reminds", "(I)I"⟩, 25) := ⟨⟨by decide +kernel, by decide +kernel⟩, List.mem_of_getElem? (i := 677) (by decide +kernel), List.mem_of_getElem? (i := 902) (by decide +kernel), List.mem_of_getElem? (i := 903) (by decide +kernel)⟩
theorem lw_p22 : lw_okq (⟨"SignroundModel", "told", "(I)I"⟩, 25) := ⟨⟨by decide +kernel, by decide +kernel⟩, List.mem_of_getElem? (i := 677) (by decide +kernel), List.mem_of_getElem? (i := 910) (by decide +kernel), List.mem_of_getElem? (i := 911) (by decide +kernel)⟩
theorem lw_p23 : lw_okq (⟨"SignroundModel", "next", "(I)I"⟩, 25) := ⟨⟨by decide +kernel, by decide +kernel⟩, List.mem_of_getElem? (i := 677) (by decide +kernel), List.mem_of_getElem? (i := 918) (by decide +kernel), List.mem_of_getElem? (i := 919) (by decide +kernel)⟩
theorem lw_p24 : lw_okq (⟨"SignroundModel", "reach", "(II)I"⟩, 25) := ⟨⟨by decide +kernel, by decide +kernel⟩, List.mem_of_getElem? (i := 677) (by decide +kernel), List.mem_of_getElem? (i := 950) (by decide +kernel), List.mem_of_getElem? (i := 951) (by decide +kernel)⟩
theorem lw_p25 : lw_okq (⟨"SignroundModel", "countsFrom", "(II)I"⟩, 25) := ⟨⟨by decide +kernel, by decide +kernel⟩, List.mem_of_getElem? (i := 677) (by decide +kernel), List.mem_of_getElem? (i := 962) (by decide +kernel), List.mem_of_getElem? (i := 963) (by decide +kernel)⟩
theorem lw_p26 : lw_okq (⟨"SignroundModel", "isEvent", "(II)Z"⟩, 25) := ⟨⟨by decide +kernel, by decide +kernel⟩, List.mem_of_getElem? (i := 677) (by decide +kernel), List.mem_of_getElem? (i := 983) (by decide +kernel), List.mem_of_getElem? (i := 984) (by decide +kernel)⟩
theorem lw_p27 : lw_okq (⟨"SignroundModel", "areEvents", "(II)Z"⟩, 25) := ⟨⟨by decide +kernel, by decide +kernel⟩, List.mem_of_getElem? (i := 677) (by decide +kernel), List.mem_of_getElem? (i := 999) (by decide +kernel), List.mem_of_getElem? (i := 1000) (by decide +kernel)⟩
def lw_privs_2 : List (MethodName × Nat) := [(⟨"SignroundModel", "why", "(III)I"⟩, 25), (⟨"SignroundModel", "delegated", "(I)I"⟩, 25), (⟨"SignroundModel", "signedToday", "(I)I"⟩, 25), (⟨"SignroundModel", "closes", "(IIII)I"⟩, 25), (⟨"SignroundModel", "passes", "()I"⟩, 25), (⟨"SignroundModel", "reminds", "(I)I"⟩, 25), (⟨"SignroundModel", "told", "(I)I"⟩, 25), (⟨"SignroundModel", "next", "(I)I"⟩, 25), (⟨"SignroundModel", "reach", "(II)I"⟩, 25), (⟨"SignroundModel", "countsFrom", "(II)I"⟩, 25), (⟨"SignroundModel", "isEvent", "(II)Z"⟩, 25), (⟨"SignroundModel", "areEvents", "(II)Z"⟩, 25)]
theorem lw_r2 : ∀ q ∈ lw_privs_2, lw_okq q := List.forall_mem_cons.mpr ⟨lw_p16, List.forall_mem_cons.mpr ⟨lw_p17, List.forall_mem_cons.mpr ⟨lw_p18, List.forall_mem_cons.mpr ⟨lw_p19, List.forall_mem_cons.mpr ⟨lw_p20, List.forall_mem_cons.mpr ⟨lw_p21, List.forall_mem_cons.mpr ⟨lw_p22, List.forall_mem_cons.mpr ⟨lw_p23, List.forall_mem_cons.mpr ⟨lw_p24, List.forall_mem_cons.mpr ⟨lw_p25, List.forall_mem_cons.mpr ⟨lw_p26, List.forall_mem_cons.mpr ⟨lw_p27, fun _ h => absurd h List.not_mem_nil⟩⟩⟩⟩⟩⟩⟩⟩⟩⟩⟩⟩
def lw_privs : List (MethodName × Nat) := lw_privs_1 ++ (lw_privs_2)
def lw_tbl : List Cond := k2_sels lw_privs ++ tables_1
theorem lw_privs_ok : ∀ q ∈ lw_privs, lw_okq q := by
  show ∀ q ∈ lw_privs_1 ++ (lw_privs_2), lw_okq q
  exact List.forall_mem_append.mpr ⟨lw_r1, lw_r2⟩
/-- the streams that the claim lets the run draw from -/
abbrev lw_cs : List Choice := [Jvm.Choice.named "NaN.bits"]
theorem lw_bits : nanBits ∈ lw_cs := by first | decide | exact List.mem_cons_self | simp [lw_cs, nanBits]
end
section
/-! ===== BEGIN words of one list among another's, by their places ===== -/
theorem goodIn_r {big : List Cond} (ws : List Cond) (ps : List Nat) (hp : ws = ps.filterMap (fun i => big[i]?)) (h : ws.all goodWord = true) : GoodIn big ws := by
  intro w hw
  have h1 := List.all_eq_true.mp h w hw
  rw [hp] at hw
  obtain ⟨i, -, hi⟩ := List.mem_filterMap.mp hw
  have hm : w ∈ big := by first | exact List.mem_of_getElem? hi | exact List.getElem?_mem hi
  exact ⟨hm, good_of_word h1⟩
theorem goodIn_app {big a b : List Cond} (ha : GoodIn big a) (hb : GoodIn big b) : GoodIn big (a ++ b) := fun w h => (List.mem_append.mp h).elim (ha w) (hb w)
theorem goodIn_ca {big a b : List Cond} {c : Cond} (ha : GoodIn big (c :: a)) (hb : GoodIn big b) : GoodIn big (c :: (a ++ b)) := fun w h => (List.mem_cons.mp h).elim (fun e => ha w (List.mem_cons.mpr (Or.inl e))) (fun h => (List.mem_append.mp h).elim (fun h => ha w (List.mem_cons.mpr (Or.inr h))) (hb w))
theorem goodIn_sub {big ws : List Cond} (hm : ∀ w ∈ ws, w ∈ big) (h : ws.all goodWord = true) : GoodIn big ws := fun w hw => ⟨hm w hw, good_of_word (List.all_eq_true.mp h w hw)⟩
/-! ===== END ===== -/

/-! ===== BEGIN exceptions that leave a method, and their catching by the caller (launches without stack traces) ===== -/
section VXA
/-! The laws vx_back, vx_callV, vx_callS, vx_callSW, vx_throw0, vx_throwS follow proofs of the library, with one case more: JvmDerived/Free/Laws.lean (Back.of_free), Shelf42/LK1.lean (callV, callS), Shelf/KitTraced.lean (throwNew0V, throwNewS). -/
/-- where a method has thrown q: the class by its name, the cell, what was written, the world -/
def vx_T (XC : String → State → State → Prop) (st : State) (q : Addr) (t : State) (mc ms : Nat) (free : Addr → Prop) : Prop :=
  ∃ (E : String) (ce : Cell) (L : List Loc), XC E st t ∧ t.heap[q]? = some ce ∧ ce.vm = .none ∧ st.vm.findClass E = some ce.cls ∧ st.WarmedH t.vm ∧ st.sameButNew ({ t with vm := st.vm } : State) L mc ms ∧ ∀ z ∈ L, free z.base
def vx_Q (Qc : Array Value → State → Outcome → State → Prop) (XC : String → State → State → Prop) (mc ms : Nat) (free : Addr → Prop) : Array Value → State → Outcome → State → Prop := fun a st o t =>
  (Qc a st o t ∧ ∃ L, FrameEnd st o t L mc ms ∧ ∀ q ∈ L, free q.base) ∨ ∃ q, o = .threw q ∧ vx_T XC st q t mc ms free
/-- a callee that returns or throws -/
def vx_Met (l : Launch) (y : MethodName) (ws : List Cond) (rm : Room) (Pc : Array Value → State → Prop) (Qc : Array Value → State → Outcome → State → Prop) (XC : String → State → State → Prop) (mc ms : Nat) (free : Addr → Prop) : Prop :=
  MetFree l y (headSpec ws rm) Pc (fun _ _ _ _ _ => True) (vx_Q Qc XC mc ms free)
def vx_Post (XC : String → State → State → Prop) (mc ms : Nat) (free : Addr → Prop) : Pt → Array Value → Addr → Pt → Prop := fun A a q B =>
  ∃ (g : JFrame) (mk : MethodId) (t : State) (L : List Loc) (E : String) (ce : Cell), B.U.heap = t.heap ∧ B.U.vm = t.vm ∧ XC E (A.U.calling g mk a) t ∧ t.heap[q]? = some ce ∧ ce.vm = .none ∧ A.U.vm.findClass E = some ce.cls ∧ B.locs = A.locs ++ L ∧ (∀ z ∈ L, free z.base) ∧ B.cells = A.cells + mc ∧ B.slots = A.slots + ms
def vx_Back (l : Launch) (R : Room) (p : Program) (e : Env) (below : List Frame) (s : State) (sargs : Array Value) (y : MethodName) (len W9 : Nat)
    (Pre : Pt → Array Value → Prop) (Post : Pt → Array Value → Option Value → Pt → Prop) (PostX : Pt → Array Value → Addr → Pt → Prop) : Prop :=
  ∀ (m : MethodId) (meth : Method) (c : Code) (A : Pt) (g : JFrame) (ig : Instr) (mk : MethodId) (a : Array Value),
    Stand p l e R s m sargs below meth c A.U A.locs A.cells A.slots → g.method = m → g.locals.size = c.maxLocals → decode c.code g.pc = .ok (ig, len) →
    2 * g.monitorRoom + (g.stack.map fun v => v.category).sum ≤ W9 → A.U.methodNamed? y = some mk → Pre A a →
    (∃ (v : Option Value) (B : Pt), Stand p l e R s m sargs below meth c B.U B.locs B.cells B.slots ∧ Post A a v B ∧
      Steps p.tables e below (doInvoke e (A.U.setTop g) [] mk a).1 (B.U.setTop { g with pc := g.pc + len, stack := v.toList ++ g.stack })) ∨
    (∃ (q : Addr) (B : Pt), Stand p l e R s m sargs below meth c B.U B.locs B.cells B.slots ∧ PostX A a q B ∧
      Steps p.tables e below (doInvoke e (A.U.setTop g) [] mk a).1 ((B.U.setTop g).pushFrame (.throwing q)))
section Payer
variable {l : Launch} {R : Room} {p : Program} {e : Env} {below : List Frame} {s : State} {sargs : Array Value} {y : MethodName} {len W9 : Nat}
theorem vx_back {ws : List Cond} {rm : Room} {Pc : Array Value → State → Prop} {Qc : Array Value → State → Outcome → State → Prop} {XC : String → State → State → Prop} {mc ms : Nat} {free : Addr → Prop} {bytes : ByteArray} {maxL : Nat} {ret : Option FieldType}
    (hM : vx_Met l y ws rm Pc Qc XC mc ms free) (hblind : FrameBlind Pc) (hrc : rm.cells = mc) (hrs : rm.slots = ms)
    (hframes : rm.frames + 1 ≤ R.frames) (hlocals : W9 + (maxL + 11) + rm.locals ≤ R.locals)
    (hws : ∀ w ∈ ws, ∀ a' U, s.WarmedH U.vm → w.before a' U = true) (hcode : Cond.code y bytes maxL ret ∈ ws) (hinit : ∀ a' U, s.WarmedH U.vm → (Cond.initialized y.cls).before a' U = true) :
    vx_Back l R p e below s sargs y len W9 (PreOf R mc ms Pc) (PostOf Qc mc ms free) (vx_Post XC mc ms free) := by
  intro m meth c A g ig mk a X hg hsize hdg hW hn hp
  have h1 : (headSpec ws rm).pre.before a A.U = true := atoms_intro fun w hw => hws w hw _ _ X.warmed
  have h2 : (Cond.code y bytes maxL ret).before a A.U = true := hws _ hcode _ _ X.warmed
  have h3 : (Cond.initialized y.cls).before a A.U = true := hinit _ _ X.warmed
  have h4 : A.cells + (headSpec ws rm).room.cells ≤ R.cells := by rw [show (headSpec ws rm).room.cells = mc from hrc]; exact hp.1
  have h5 : A.slots + (headSpec ws rm).room.slots ≤ R.slots := by rw [show (headSpec ws rm).room.slots = ms from hrs]; exact hp.2.1
  have hPc : Pc a (A.U.calling g mk a) := hblind _ _ _ _ hp.2.2
  obtain ⟨U, Ls, c0, s0⟩ := A
  dsimp only [Pt.U, Pt.locs, Pt.cells, Pt.slots] at h1 h2 h3 h4 h5 X hn hPc ⊢
  obtain ⟨methY, cY, hmY, hcY, -, hlY, -, -, -, -⟩ := Cond.code_spec hn h2
  obtain ⟨kY, hkY, -⟩ := className_of_methodNamed hn
  have hinitY : kY.init = .initialized := Cond.initialized_spec (findClass_of_methodNamed hn) hkY h3
  have h : At U g.method c below := by rw [hg]; exact X.here
  have hlocals9 : W9 + (maxL + 11) + (headSpec ws rm).room.locals ≤ R.locals := hlocals
  have happ : (headSpec ws rm).appliesLoose y e.platform (U.calling g mk a) = true :=
    Spec.appliesLoose_calling (g := g) h hdg hn hkY hinitY
      (X.room_calling (g := g) (R' := (headSpec ws rm).room) hsize hmY hcY hframes (by rw [hlY]; omega) h4 h5) h1
  obtain ⟨mid, hmid⟩ := h.above
  have hfr : (U.setTop g).frames = (.java g :: mid) ++ below := by rw [State.frames_setTop' g h.top, hmid]; rfl
  obtain ⟨o, s₂, hsteps, -, hend, hq⟩ := Steps.callFree hM p X.admits X.cas X.clock (acts := []) hfr happ hPc trivial
  have hq' : vx_Q Qc XC mc ms free a (U.calling g mk a) o s₂ := hq
  rw [State.frames_setTop' g h.top] at hend
  obtain ⟨g₀, hg0⟩ := Option.isSome_iff_exists.mp h.top
  obtain ⟨r, hr⟩ := State.topJava?_eq_some.mp hg0
  have hr' : (({ U with heap := s₂.heap, slotsUsed := s₂.slotsUsed } : State).setVm s₂.vm).frames = .java g₀ :: r := hr
  rcases hq' with ⟨hqc, L, hfe, hL⟩ | ⟨q, rfl, E, ce, L, hx, hce, hcv, hcl, hW₂, hsm, hL⟩
  · obtain ⟨⟨v, rfl⟩, hW₂, e2, q2, q3, q4, q5, q6⟩ := id hfe
    have e3 : s₂ = ({ (U.calling g mk a).setFrames s₂.frames with heap := s₂.heap, slotsUsed := s₂.slotsUsed } : State).setVm s₂.vm := by
      have : s₂ = ({ s₂ with vm := (U.calling g mk a).vm } : State).setVm s₂.vm := rfl
      rw [e2] at this
      exact this
    obtain ⟨c₂, i₂, len₂, hc₂, hd₂, hf₂⟩ := hend
    have hW' : U.WarmedH s₂.vm := hW₂
    have hcc : c₂ = c := by
      have h1 : s₂.code? g.method = U.code? g.method := by
        rw [State.code?_eq, State.code?_eq, hW'.alike.method?]
      exact Option.some.inj (hc₂.symm.trans (h1.trans h.code))
    subst hcc
    have hlen : len₂ = len := by rw [hdg] at hd₂; cases hd₂; rfl
    subst hlen
    have hs₂ : s₂ = (({ U with heap := s₂.heap, slotsUsed := s₂.slotsUsed } : State).setVm s₂.vm).setTop { g with pc := g.pc + len₂, stack := v.toList ++ g.stack } := by
      refine e3.trans ?_
      rw [hf₂, State.calling_eq h.top, State.setFrames_setFrames, State.setTop_of_frames _ hr', hr]
      rfl
    have hsame : U.sameButNew ({ U with heap := s₂.heap, slotsUsed := s₂.slotsUsed } : State) L mc ms := by
      refine ⟨?_, q2, q3, q4, q5, q6⟩
      obtain ⟨t, ht, -⟩ := State.frames_cons hr
      show ({ U with heap := s₂.heap, slotsUsed := s₂.slotsUsed } : State) = { U.setFrames U.frames with heap := s₂.heap, slotsUsed := s₂.slotsUsed }
      rw [State.setFrames_self ht]
    subst hg
    refine Or.inl ⟨v, ⟨(({ U with heap := s₂.heap, slotsUsed := s₂.slotsUsed } : State).setVm s₂.vm), Ls ++ L, c0 + mc, s0 + ms⟩,
      ⟨X.admits, X.cas, X.clock, X.frames, X.room, X.hears, X.method, X.code, (X.here.setHeapUsed s₂.heap s₂.slotsUsed).setVm hW'.alike, X.tail, State.WarmedH.trans X.warmed hW', X.limits, X.bytes, X.same.trans (hsame.setVm s.vm)⟩,
      ⟨g, mk, s₂, L, rfl, rfl, hqc, rfl, hL, rfl, rfl⟩, ?_⟩
    show Steps p.tables e below _ ((({ U with heap := s₂.heap, slotsUsed := s₂.slotsUsed } : State).setVm s₂.vm).setTop { g with pc := g.pc + len₂, stack := v.toList ++ g.stack })
    rw [← hs₂]
    exact hsteps
  · obtain ⟨e2, q2, q3, q4, q5, q6⟩ := id hsm
    have e3 : s₂ = ({ (U.calling g mk a).setFrames s₂.frames with heap := s₂.heap, slotsUsed := s₂.slotsUsed } : State).setVm s₂.vm := by
      have : s₂ = ({ s₂ with vm := (U.calling g mk a).vm } : State).setVm s₂.vm := rfl
      rw [e2] at this
      exact this
    have hf₂ : s₂.frames = .throwing q :: .java g :: U.frames.tail := hend
    have hW' : U.WarmedH s₂.vm := hW₂
    have hs₂ : s₂ = ((({ U with heap := s₂.heap, slotsUsed := s₂.slotsUsed } : State).setVm s₂.vm).setTop g).pushFrame (.throwing q) := by
      refine e3.trans ?_
      rw [hf₂, State.calling_eq h.top, State.setFrames_setFrames, State.pushFrame, State.frames_setTop _ hr', State.setTop_of_frames _ hr', State.setFrames_setFrames, hr]
      rfl
    have hsame : U.sameButNew ({ U with heap := s₂.heap, slotsUsed := s₂.slotsUsed } : State) L mc ms := by
      refine ⟨?_, q2, q3, q4, q5, q6⟩
      obtain ⟨t, ht, -⟩ := State.frames_cons hr
      show ({ U with heap := s₂.heap, slotsUsed := s₂.slotsUsed } : State) = { U.setFrames U.frames with heap := s₂.heap, slotsUsed := s₂.slotsUsed }
      rw [State.setFrames_self ht]
    subst hg
    refine Or.inr ⟨q, ⟨(({ U with heap := s₂.heap, slotsUsed := s₂.slotsUsed } : State).setVm s₂.vm), Ls ++ L, c0 + mc, s0 + ms⟩,
      ⟨X.admits, X.cas, X.clock, X.frames, X.room, X.hears, X.method, X.code, (X.here.setHeapUsed s₂.heap s₂.slotsUsed).setVm hW'.alike, X.tail, State.WarmedH.trans X.warmed hW', X.limits, X.bytes, X.same.trans (hsame.setVm s.vm)⟩,
      ⟨g, mk, s₂, L, E, ce, rfl, rfl, hx, hce, hcv, hcl, rfl, hL, rfl, rfl⟩, ?_⟩
    show Steps p.tables e below _ (((({ U with heap := s₂.heap, slotsUsed := s₂.slotsUsed } : State).setVm s₂.vm).setTop g).pushFrame (.throwing q))
    rw [← hs₂]
    exact hsteps
end Payer
section Calls
variable {p : Program} {l : Launch} {e : Env} {R : Room} {s : State} {m : MethodId} {args : Array Value} {below : List Frame} {meth : Method} {c : Code} {T : State} {locs : List Loc} {cells slots : Nat}
theorem vx_callV (X : Stand p l e R s m args below meth c T locs cells slots) (hexec : p.tables.exec = Jvm.exec) {own C : String} {index : Nat} {y : MethodName} {bytes : ByteArray} {maxL : Nat} {ret : Option FieldType}
    (hown : s.vm.findClass own = some m.cls) (hlink : (Cond.methodLink own index y).before args s = true) (hinst : (Cond.instanceMethod y).before args s = true) (hsel : (Cond.selects C y y).before args s = true)
    (hcode : (Cond.code y bytes maxL ret).before args s = true) (hy : y.cls ≠ "java/lang/invoke/MethodHandle" ∧ y.cls ≠ "java/lang/invoke/VarHandle")
    {W9 : Nat} {Pre : Pt → Array Value → Prop} {Post : Pt → Array Value → Option Value → Pt → Prop} {PostX : Pt → Array Value → Addr → Pt → Prop} (hK : vx_Back l R p e below s args y 3 W9 Pre Post PostX)
    {b : Addr} {cellB : Cell} (hcell : T.heap[b]? = some cellB) (hobj : cellB.vm.isStatics = false) (hcls : s.vm.findClass C = some cellB.cls)
    {g : JFrame} (hg : g.method = m) (hsize : g.locals.size = c.maxLocals) {argsL rest : List Value} (hlen : ∀ sig, parseMethodDescriptor y.desc = some sig → argsL.length = sig.parameters.length)
    (hstack : g.stack = argsL.reverse ++ .ref b :: rest) (hW : 2 * g.monitorRoom + (rest.map fun v => v.category).sum ≤ W9) (hdg : decode c.code g.pc = .ok (.invokevirtual index, 3))
    (hpre : ∀ vm₁, s.WarmedH vm₁ → Pre ⟨T.setVm vm₁, locs, cells, slots⟩ (Value.ref b :: argsL).toArray) :
    (∃ (v : Option Value) (vm₁ : Vm) (B : Pt), s.WarmedH vm₁ ∧ Stand p l e R s m args below meth c B.U B.locs B.cells B.slots ∧ Post ⟨T.setVm vm₁, locs, cells, slots⟩ (Value.ref b :: argsL).toArray v B ∧
      ∀ target, Steps p.tables e below (B.U.setTop { g with pc := g.pc + 3, stack := v.toList ++ rest }) target → Steps p.tables e below (T.setTop g) target) ∨
    (∃ (q : Addr) (vm₁ : Vm) (B : Pt), s.WarmedH vm₁ ∧ Stand p l e R s m args below meth c B.U B.locs B.cells B.slots ∧ PostX ⟨T.setVm vm₁, locs, cells, slots⟩ (Value.ref b :: argsL).toArray q B ∧
      Steps p.tables e below (T.setTop g) ((B.U.setTop { g with stack := rest }).pushFrame (.throwing q))) := by
  obtain ⟨mk, methM, hnamed, hmethM, hstM, habM⟩ := Cond.instanceMethod_spec hinst
  obtain ⟨methM', cM, hmethM', -, -, -, -, -, -, hsigM⟩ := Cond.code_spec hnamed hcode
  cases hmethM.symm.trans hmethM'
  obtain ⟨c2, r2, m2, q1, q2, q3, q4, kP, hkP, hkPi⟩ := Cond.selects_spec hsel
  cases hcls.symm.trans q1
  cases (State.methodFound?_of_named hnamed hy).symm.trans q2
  cases hnamed.symm.trans q3
  have hselP : selectMethod e.platform s.vm cellB.cls mk = .method mk := by rw [Launch.admits_selectMethod X.admits]; exact q4
  obtain ⟨vm₁, X₁, hstep₁⟩ := X.invokevirtual hexec hown hlink hnamed hmethM hstM hkP hkPi hy (a := b) (cell := cellB) hcell
    (fun z h => by rw [h] at hobj; cases hobj) hselP hmethM habM hkP hkPi (g := g) hg (argsL := argsL) (rest := rest) (hlen _ hsigM) hstack hdg
  rcases hK m meth c ⟨T.setVm vm₁, locs, cells, slots⟩ { g with stack := rest } (.invokevirtual index) mk (Value.ref b :: argsL).toArray X₁ hg hsize hdg hW (X₁.named hnamed) (hpre vm₁ X₁.warmed) with ⟨v, B, X', hpost, hsteps⟩ | ⟨q, B, X', hpost, hsteps⟩
  · exact Or.inl ⟨v, vm₁, B, X₁.warmed, X', hpost, fun target h => hstep₁ _ fun acts => by rw [doInvoke_state]; exact hsteps.trans h⟩
  · exact Or.inr ⟨q, vm₁, B, X₁.warmed, X', hpost, hstep₁ _ fun acts => by rw [doInvoke_state]; exact hsteps⟩
theorem vx_callS (X : Stand p l e R s m args below meth c T locs cells slots) (hexec : p.tables.exec = Jvm.exec) {own : String} {index : Nat} {y : MethodName} {bytes : ByteArray} {maxL : Nat} {ret : Option FieldType}
    (hown : s.vm.findClass own = some m.cls) (hlink : (Cond.methodLink own index y).before args s = true) (hstat : (Cond.static y).before args s = true) (hinit : (Cond.initialized y.cls).before args s = true)
    (hcode : (Cond.code y bytes maxL ret).before args s = true) (hy : y.cls ≠ "java/lang/invoke/MethodHandle" ∧ y.cls ≠ "java/lang/invoke/VarHandle")
    {W9 : Nat} {Pre : Pt → Array Value → Prop} {Post : Pt → Array Value → Option Value → Pt → Prop} {PostX : Pt → Array Value → Addr → Pt → Prop} (hK : vx_Back l R p e below s args y 3 W9 Pre Post PostX)
    {g : JFrame} (hg : g.method = m) (hsize : g.locals.size = c.maxLocals) {argsL rest : List Value} (hlen : ∀ sig, parseMethodDescriptor y.desc = some sig → argsL.length = sig.parameters.length)
    (hstack : g.stack = argsL.reverse ++ rest) (hW : 2 * g.monitorRoom + (rest.map fun v => v.category).sum ≤ W9) (hdg : decode c.code g.pc = .ok (.invokestatic index, 3))
    (hpre : ∀ vm₁, s.WarmedH vm₁ → Pre ⟨T.setVm vm₁, locs, cells, slots⟩ argsL.toArray) :
    (∃ (v : Option Value) (vm₁ : Vm) (B : Pt), s.WarmedH vm₁ ∧ Stand p l e R s m args below meth c B.U B.locs B.cells B.slots ∧ Post ⟨T.setVm vm₁, locs, cells, slots⟩ argsL.toArray v B ∧
      ∀ target, Steps p.tables e below (B.U.setTop { g with pc := g.pc + 3, stack := v.toList ++ rest }) target → Steps p.tables e below (T.setTop g) target) ∨
    (∃ (q : Addr) (vm₁ : Vm) (B : Pt), s.WarmedH vm₁ ∧ Stand p l e R s m args below meth c B.U B.locs B.cells B.slots ∧ PostX ⟨T.setVm vm₁, locs, cells, slots⟩ argsL.toArray q B ∧
      Steps p.tables e below (T.setTop g) ((B.U.setTop { g with stack := rest }).pushFrame (.throwing q))) := by
  obtain ⟨mk, hnamed⟩ := Cond.code_named hcode
  obtain ⟨methM, cM, hmethM, -, -, -, -, -, -, hsigM⟩ := Cond.code_spec hnamed hcode
  have hstatic : methM.isStatic = true := Cond.static_spec hnamed hmethM hstat
  obtain ⟨kP, hkP, -⟩ := className_of_methodNamed hnamed
  have hinitP : kP.init = .initialized := Cond.initialized_spec (findClass_of_methodNamed hnamed) hkP hinit
  obtain ⟨vm₁, X₁, hstep₁⟩ := X.invokestatic hexec hown hlink hnamed hmethM hstatic hkP hinitP hy (g := g) hg (argsL := argsL) (rest := rest) (hlen _ hsigM) hstack hdg
  rcases hK m meth c ⟨T.setVm vm₁, locs, cells, slots⟩ { g with stack := rest } (.invokestatic index) mk argsL.toArray X₁ hg hsize hdg hW (X₁.named hnamed) (hpre vm₁ X₁.warmed) with ⟨v, B, X', hpost, hsteps⟩ | ⟨q, B, X', hpost, hsteps⟩
  · exact Or.inl ⟨v, vm₁, B, X₁.warmed, X', hpost, fun target h => hstep₁ _ fun acts => by rw [doInvoke_state]; exact hsteps.trans h⟩
  · exact Or.inr ⟨q, vm₁, B, X₁.warmed, X', hpost, hstep₁ _ fun acts => by rw [doInvoke_state]; exact hsteps⟩
end Calls
theorem vx_cls {s : State} {T : State} {vm₁ : Vm} {E : String} {k : ClassId} (hW : s.WarmedH vm₁) (h : (T.setVm vm₁).vm.findClass E = some k) : s.vm.findClass E = some k := by
  have h1 : vm₁.findClass E = some k := h
  rw [hW.alike.findClass] at h1
  exact h1
/-- the method's frame g, with q thrown over it -/
def vx_W (p : Program) (l : Launch) (e : Env) (R : Room) (s : State) (m : MethodId) (args : Array Value) (below : List Frame) (meth : Method) (c : Code) (H : Heap) (locs : List Loc) (cells slots : Nat) (Q : State → Prop) (g : JFrame) (q : Addr) : Prop :=
  ∀ T : State, T.heap = H → Stand p l e R s m args below meth c T locs cells slots → ∃ t, Steps p.tables e below ((T.setTop g).pushFrame (.throwing q)) t ∧ Q t
def vx_Run (p : Program) (l : Launch) (e : Env) (R : Room) (s : State) (m : MethodId) (args : Array Value) (below : List Frame) (meth : Method) (c : Code) (H : Heap) (locs : List Loc) (cells slots mc ms : Nat) (g : JFrame) (rest : List Value) (Qa : State → Outcome → State → Prop) (XC : String → State → State → Prop) (free : Addr → Prop) : Prop :=
  ∀ T : State, T.heap = H → Stand p l e R s m args below meth c T locs cells slots →
    (∃ (v : Option Value) (st₀ t T' : State) (L : List Loc), st₀.heap = H ∧ Stand p l e R s m args below meth c T' (locs ++ L) (cells + mc) (slots + ms) ∧ (∀ q ∈ L, free q.base) ∧ T'.heap = t.heap ∧ T'.vm = t.vm ∧ Qa st₀ (.returned v) t ∧
      Goes p e below T g T' { g with pc := g.pc + 3, stack := v.toList ++ rest }) ∨
    (∃ (q : Addr) (st₀ t T' : State) (L : List Loc) (E : String) (ce : Cell), st₀.heap = H ∧ Stand p l e R s m args below meth c T' (locs ++ L) (cells + mc) (slots + ms) ∧ (∀ z ∈ L, free z.base) ∧ T'.heap = t.heap ∧ T'.vm = t.vm ∧ XC E st₀ t ∧ t.heap[q]? = some ce ∧ ce.vm = .none ∧ s.vm.findClass E = some ce.cls ∧
      Steps p.tables e below (T.setTop g) ((T'.setTop { g with stack := rest }).pushFrame (.throwing q)))
def vx_X {S : Type} (px : S → Prop) (B : String → S → State → Prop) (A : Nat → Prop) : String → State → State → Prop := fun E st t => ∃ u : S, px u ∧ B E u t ∧ va_F A st t
section Runs
variable {p : Program} {l : Launch} {e : Env} {R : Room} {s : State} {m : MethodId} {args : Array Value} {below : List Frame} {meth : Method} {c : Code} {H : Heap} {locs : List Loc} {cells slots : Nat}
variable {y : MethodName} {bytes cc : ByteArray} {maxL nL mc ms n index : Nat} {ret : Option FieldType} {ws : List Cond} {rm : Room} {Pc : Array Value → State → Prop} {Qc : Array Value → State → Outcome → State → Prop} {XC : String → State → State → Prop} {free : Addr → Prop} {Ts : List Cond} {own C : String} {b : Addr} {As rest : List Value} {g : JFrame}
theorem vx_callBack (cb : CallB R s args own index y bytes maxL ret ws rm mc ms n) (hM : vx_Met l y ws rm Pc Qc XC mc ms free) (hbl : FrameBlind Pc) : vx_Back l R p e below s args y 3 8 (PreOf R mc ms Pc) (PostOf Qc mc ms free) (vx_Post XC mc ms free) := by
  obtain ⟨hrc, hrs, hfr, hlo, hws, hcw, -, hini, -⟩ := cb
  exact vx_back (bytes := bytes) (maxL := maxL) (ret := ret) hM hbl hrc hrs hfr hlo hws hcw (fun a' U hW => word_at hW (Or.inl (by first | rfl | simp [Cond.onTables, Cond.keeps, Cond.steady])) hini)
theorem vx_runV (S : CallFix p m c cc nL s args Ts own) (hM : vx_Met l y ws rm Pc Qc XC mc ms free) (cw : CallW R s args own C index y bytes maxL ret ws rm mc ms n) (hp : PreV s H C b Pc As)
    (hg : g.method = m) (hn : As.length = n) (hsize : g.locals.size = nL) (hstack : g.stack = As.reverse ++ .ref b :: rest) (hW : 2 * g.monitorRoom + (rest.map fun v => v.category).sum ≤ 8) (hdg : decode cc g.pc = .ok (.invokevirtual index, 3)) (hf : cells + mc ≤ R.cells ∧ slots + ms ≤ R.slots) :
    vx_Run p l e R s m args below meth c H locs cells slots mc ms g rest (Qc (Value.ref b :: As).toArray) XC free := by
  have hK : vx_Back l R p e below s args y 3 8 (PreOf R mc ms Pc) (PostOf Qc mc ms free) (vx_Post XC mc ms free) := vx_callBack cw.1 hM hp.1
  obtain ⟨⟨-, -, -, -, -, -, hcode, -, hy, hlen, hl⟩, hin, hse⟩ := cw
  obtain ⟨hx, hb, hml, ho, -⟩ := S
  obtain ⟨-, ⟨cellB, hcB, hoB, hclB⟩, hPc⟩ := hp
  intro T hT X
  rcases vx_callV X hx (C := C) (bytes := bytes) (maxL := maxL) (ret := ret) ho hl hin hse hcode hy hK (by rw [hT]; exact hcB) hoB hclB hg (hsize.trans hml.symm) (argsL := As) (rest := rest) (fun sig h => hn.trans (hlen sig h)) hstack hW (by rw [hb]; exact hdg)
    (fun vm₁ hW₁ => ⟨hf.1, hf.2, hPc (T.setVm vm₁) hT hW₁⟩) with ⟨v, vm₁, ⟨U', l2, c2, s2⟩, hW₁, X', ⟨g', mk, t, L, e1, e2, hq, h1, hL, h2, h3⟩, st⟩ | ⟨q, vm₁, ⟨U', l2, c2, s2⟩, hW₁, X', ⟨g', mk, t, L, E, ce, e1, e2, hq, hce, hcv, hcl, h1, hL, h2, h3⟩, st⟩
  · dsimp only [Pt.U, Pt.locs, Pt.cells, Pt.slots] at X' e1 e2 h1 h2 h3 st
    subst h1; subst h2; subst h3
    exact Or.inl ⟨v, (T.setVm vm₁).calling g' mk (Value.ref b :: As).toArray, t, U', L, hT, X', hL, e1, e2, hq, st⟩
  · dsimp only [Pt.U, Pt.locs, Pt.cells, Pt.slots] at X' e1 e2 h1 h2 h3 st hcl
    subst h1; subst h2; subst h3
    exact Or.inr ⟨q, (T.setVm vm₁).calling g' mk (Value.ref b :: As).toArray, t, U', L, E, ce, hT, X', hL, e1, e2, hq, hce, hcv, vx_cls hW₁ hcl, st⟩
theorem vx_runS (S : CallFix p m c cc nL s args Ts own) (hM : vx_Met l y ws rm Pc Qc XC mc ms free) (cw : CallB R s args own index y bytes maxL ret ws rm mc ms n ∧ (Cond.static y).before args s = true) (hp : PreS s H Pc As)
    (hg : g.method = m) (hn : As.length = n) (hsize : g.locals.size = nL) (hstack : g.stack = As.reverse ++ rest) (hW : 2 * g.monitorRoom + (rest.map fun v => v.category).sum ≤ 8) (hdg : decode cc g.pc = .ok (.invokestatic index, 3)) (hf : cells + mc ≤ R.cells ∧ slots + ms ≤ R.slots) :
    vx_Run p l e R s m args below meth c H locs cells slots mc ms g rest (Qc As.toArray) XC free := by
  have hK : vx_Back l R p e below s args y 3 8 (PreOf R mc ms Pc) (PostOf Qc mc ms free) (vx_Post XC mc ms free) := vx_callBack cw.1 hM hp.1
  obtain ⟨⟨-, -, -, -, -, -, hcode, hini, hy, hlen, hl⟩, hstt⟩ := cw
  obtain ⟨hx, hb, hml, ho, -⟩ := S
  intro T hT X
  rcases vx_callS X hx (bytes := bytes) (maxL := maxL) (ret := ret) ho hl hstt hini hcode hy hK hg (hsize.trans hml.symm) (argsL := As) (rest := rest) (fun sig h => hn.trans (hlen sig h)) hstack hW (by rw [hb]; exact hdg)
    (fun vm₁ hW₁ => ⟨hf.1, hf.2, hp.2 (T.setVm vm₁) hT hW₁⟩) with ⟨v, vm₁, ⟨U', l2, c2, s2⟩, hW₁, X', ⟨g', mk, t, L, e1, e2, hq, h1, hL, h2, h3⟩, st⟩ | ⟨q, vm₁, ⟨U', l2, c2, s2⟩, hW₁, X', ⟨g', mk, t, L, E, ce, e1, e2, hq, hce, hcv, hcl, h1, hL, h2, h3⟩, st⟩
  · dsimp only [Pt.U, Pt.locs, Pt.cells, Pt.slots] at X' e1 e2 h1 h2 h3 st
    subst h1; subst h2; subst h3
    exact Or.inl ⟨v, (T.setVm vm₁).calling g' mk As.toArray, t, U', L, hT, X', hL, e1, e2, hq, st⟩
  · dsimp only [Pt.U, Pt.locs, Pt.cells, Pt.slots] at X' e1 e2 h1 h2 h3 st hcl
    subst h1; subst h2; subst h3
    exact Or.inr ⟨q, (T.setVm vm₁).calling g' mk As.toArray, t, U', L, E, ce, hT, X', hL, e1, e2, hq, hce, hcv, vx_cls hW₁ hcl, st⟩
end Runs
section Rows
variable {p : Program} {l : Launch} {e : Env} {R : Room} {s : State} {m : MethodId} {args : Array Value} {below : List Frame} {meth : Method} {c : Code} {H : Heap} {locs : List Loc} {cells slots : Nat} {Q : State → Prop}
variable {mc ms : Nat} {free : Addr → Prop} {A0 A1 : Nat → Prop} {H0 : Heap} {a : Array Value} {pc : Nat} {ls : Array Slot} {st0 rest : List Value}
theorem vx_keep {st₀ t T' : State} {L : List Loc} (h0 : st₀.heap = H) (e1 : T'.heap = t.heap) (hS : va_S A0 H0 H locs) (hA : ∀ q, q < H.size → A1 q → A0 q) (hf : ∀ q, free q → A0 q) (hL : ∀ q ∈ L, free q.base) (hF : va_F A1 st₀ t) :
    H.size ≤ T'.heap.size ∧ (∀ q : Nat, q < H.size → ¬ A1 q → T'.heap[q]? = H[q]?) ∧ va_S A0 H0 T'.heap (locs ++ L) := by
  obtain ⟨hz, hk⟩ := hF
  rw [h0] at hz hk
  exact ⟨by rw [e1]; exact hz, fun q h1 h2 => by rw [e1]; exact hk q h1 h2,
    ⟨Nat.le_trans hS.1 (by rw [e1]; exact hz), fun q h1 h2 => by rw [e1, hk q (Nat.lt_of_lt_of_le h1 hS.1) (fun z => h2 (hA q (Nat.lt_of_lt_of_le h1 hS.1) z))]; exact hS.2.1 q h1 h2, fun q hq => by
      rcases List.mem_append.mp hq with h | h
      · exact hS.2.2 q h
      · exact hf _ (hL q h)⟩⟩
theorem vx_calli {S SX : Type} {post : Int32 → S → Prop} {px : SX → Prop} {B : S → State → Prop} {BX : String → SX → State → Prop} {AX : Nat → Prop} (hr : vx_Run p l e R s m args below meth c H locs cells slots mc ms (F0 m pc ls st0) rest (va_Qi post B A1 a) (vx_X px BX AX) free) (hS : va_S A0 H0 H locs) (hA : ∀ q, q < H.size → A1 q → A0 q) (hf : ∀ q, free q → A0 q) (hAX : ∀ q, q < H.size → AX q → A0 q)
    (kx : ∀ (E : String) (ce : Cell) (q9 : Addr) (u : SX) (t : State) (H1 : Heap) (locs1 : List Loc), t.heap = H1 → s.vm.Alike t.vm → px u → BX E u t → H.size ≤ H1.size → (∀ q : Nat, q < H.size → ¬ AX q → H1[q]? = H[q]?) → va_S A0 H0 H1 locs1 → H1[q9]? = some ce → ce.vm = .none → s.vm.findClass E = some ce.cls → vx_W p l e R s m args below meth c H1 locs1 (cells + mc) (slots + ms) Q (F0 m pc ls rest) q9)
    (kk : ∀ (r : Int32) (u : S) (t : State) (H1 : Heap) (locs1 : List Loc), t.heap = H1 → s.vm.Alike t.vm → post r u → B u t → H.size ≤ H1.size → (∀ q : Nat, q < H.size → ¬ A1 q → H1[q]? = H[q]?) → va_S A0 H0 H1 locs1 → W p l e R s m args below meth c H1 locs1 (cells + mc) (slots + ms) Q (F0 m (pc + 3) ls (.int r :: rest))) : W p l e R s m args below meth c H locs cells slots Q (F0 m pc ls st0) := by
  intro T hT X
  rcases hr T hT X with ⟨v, st₀, t, T', L, h0, X', hL, e1, e2, ⟨⟨r, u, hv, hp, hb⟩, hF⟩, st⟩ | ⟨q, st₀, t, T', L, E, ce, h0, X', hL, e1, e2, ⟨u, hp, hb, hF⟩, hce, hcv, hcl, st⟩
  · cases hv
    obtain ⟨k1, k2, k3⟩ := vx_keep h0 e1 hS hA hf hL hF
    obtain ⟨t2, a1, b1⟩ := kk r u t T'.heap (locs ++ L) e1.symm (by rw [← e2]; exact X'.warmed.alike) hp hb k1 k2 k3 T' rfl X'
    exact ⟨t2, st t2 a1, b1⟩
  · obtain ⟨k1, k2, k3⟩ := vx_keep h0 e1 hS hAX hf hL hF
    obtain ⟨t2, a1, b1⟩ := kx E ce q u t T'.heap (locs ++ L) e1.symm (by rw [← e2]; exact X'.warmed.alike) hp hb k1 k2 k3 (by rw [e1]; exact hce) hcv hcl T' rfl X'
    exact ⟨t2, st.trans a1, b1⟩
theorem vx_calll {S SX : Type} {post : Int64 → S → Prop} {px : SX → Prop} {B : S → State → Prop} {BX : String → SX → State → Prop} {AX : Nat → Prop} (hr : vx_Run p l e R s m args below meth c H locs cells slots mc ms (F0 m pc ls st0) rest (va_Ql post B A1 a) (vx_X px BX AX) free) (hS : va_S A0 H0 H locs) (hA : ∀ q, q < H.size → A1 q → A0 q) (hf : ∀ q, free q → A0 q) (hAX : ∀ q, q < H.size → AX q → A0 q)
    (kx : ∀ (E : String) (ce : Cell) (q9 : Addr) (u : SX) (t : State) (H1 : Heap) (locs1 : List Loc), t.heap = H1 → s.vm.Alike t.vm → px u → BX E u t → H.size ≤ H1.size → (∀ q : Nat, q < H.size → ¬ AX q → H1[q]? = H[q]?) → va_S A0 H0 H1 locs1 → H1[q9]? = some ce → ce.vm = .none → s.vm.findClass E = some ce.cls → vx_W p l e R s m args below meth c H1 locs1 (cells + mc) (slots + ms) Q (F0 m pc ls rest) q9)
    (kk : ∀ (r : Int64) (u : S) (t : State) (H1 : Heap) (locs1 : List Loc), t.heap = H1 → s.vm.Alike t.vm → post r u → B u t → H.size ≤ H1.size → (∀ q : Nat, q < H.size → ¬ A1 q → H1[q]? = H[q]?) → va_S A0 H0 H1 locs1 → W p l e R s m args below meth c H1 locs1 (cells + mc) (slots + ms) Q (F0 m (pc + 3) ls (.long r :: rest))) : W p l e R s m args below meth c H locs cells slots Q (F0 m pc ls st0) := by
  intro T hT X
  rcases hr T hT X with ⟨v, st₀, t, T', L, h0, X', hL, e1, e2, ⟨⟨r, u, hv, hp, hb⟩, hF⟩, st⟩ | ⟨q, st₀, t, T', L, E, ce, h0, X', hL, e1, e2, ⟨u, hp, hb, hF⟩, hce, hcv, hcl, st⟩
  · cases hv
    obtain ⟨k1, k2, k3⟩ := vx_keep h0 e1 hS hA hf hL hF
    obtain ⟨t2, a1, b1⟩ := kk r u t T'.heap (locs ++ L) e1.symm (by rw [← e2]; exact X'.warmed.alike) hp hb k1 k2 k3 T' rfl X'
    exact ⟨t2, st t2 a1, b1⟩
  · obtain ⟨k1, k2, k3⟩ := vx_keep h0 e1 hS hAX hf hL hF
    obtain ⟨t2, a1, b1⟩ := kx E ce q u t T'.heap (locs ++ L) e1.symm (by rw [← e2]; exact X'.warmed.alike) hp hb k1 k2 k3 (by rw [e1]; exact hce) hcv hcl T' rfl X'
    exact ⟨t2, st.trans a1, b1⟩
theorem vx_callf {S SX : Type} {post : UInt32 → S → Prop} {px : SX → Prop} {B : S → State → Prop} {BX : String → SX → State → Prop} {AX : Nat → Prop} (hr : vx_Run p l e R s m args below meth c H locs cells slots mc ms (F0 m pc ls st0) rest (va_Qf post B A1 a) (vx_X px BX AX) free) (hS : va_S A0 H0 H locs) (hA : ∀ q, q < H.size → A1 q → A0 q) (hf : ∀ q, free q → A0 q) (hAX : ∀ q, q < H.size → AX q → A0 q)
    (kx : ∀ (E : String) (ce : Cell) (q9 : Addr) (u : SX) (t : State) (H1 : Heap) (locs1 : List Loc), t.heap = H1 → s.vm.Alike t.vm → px u → BX E u t → H.size ≤ H1.size → (∀ q : Nat, q < H.size → ¬ AX q → H1[q]? = H[q]?) → va_S A0 H0 H1 locs1 → H1[q9]? = some ce → ce.vm = .none → s.vm.findClass E = some ce.cls → vx_W p l e R s m args below meth c H1 locs1 (cells + mc) (slots + ms) Q (F0 m pc ls rest) q9)
    (kk : ∀ (r : UInt32) (u : S) (t : State) (H1 : Heap) (locs1 : List Loc), t.heap = H1 → s.vm.Alike t.vm → post r u → B u t → H.size ≤ H1.size → (∀ q : Nat, q < H.size → ¬ A1 q → H1[q]? = H[q]?) → va_S A0 H0 H1 locs1 → W p l e R s m args below meth c H1 locs1 (cells + mc) (slots + ms) Q (F0 m (pc + 3) ls (.float r :: rest))) : W p l e R s m args below meth c H locs cells slots Q (F0 m pc ls st0) := by
  intro T hT X
  rcases hr T hT X with ⟨v, st₀, t, T', L, h0, X', hL, e1, e2, ⟨⟨r, u, hv, hp, hb⟩, hF⟩, st⟩ | ⟨q, st₀, t, T', L, E, ce, h0, X', hL, e1, e2, ⟨u, hp, hb, hF⟩, hce, hcv, hcl, st⟩
  · cases hv
    obtain ⟨k1, k2, k3⟩ := vx_keep h0 e1 hS hA hf hL hF
    obtain ⟨t2, a1, b1⟩ := kk r u t T'.heap (locs ++ L) e1.symm (by rw [← e2]; exact X'.warmed.alike) hp hb k1 k2 k3 T' rfl X'
    exact ⟨t2, st t2 a1, b1⟩
  · obtain ⟨k1, k2, k3⟩ := vx_keep h0 e1 hS hAX hf hL hF
    obtain ⟨t2, a1, b1⟩ := kx E ce q u t T'.heap (locs ++ L) e1.symm (by rw [← e2]; exact X'.warmed.alike) hp hb k1 k2 k3 (by rw [e1]; exact hce) hcv hcl T' rfl X'
    exact ⟨t2, st.trans a1, b1⟩
theorem vx_calld {S SX : Type} {post : UInt64 → S → Prop} {px : SX → Prop} {B : S → State → Prop} {BX : String → SX → State → Prop} {AX : Nat → Prop} (hr : vx_Run p l e R s m args below meth c H locs cells slots mc ms (F0 m pc ls st0) rest (va_Qd post B A1 a) (vx_X px BX AX) free) (hS : va_S A0 H0 H locs) (hA : ∀ q, q < H.size → A1 q → A0 q) (hf : ∀ q, free q → A0 q) (hAX : ∀ q, q < H.size → AX q → A0 q)
    (kx : ∀ (E : String) (ce : Cell) (q9 : Addr) (u : SX) (t : State) (H1 : Heap) (locs1 : List Loc), t.heap = H1 → s.vm.Alike t.vm → px u → BX E u t → H.size ≤ H1.size → (∀ q : Nat, q < H.size → ¬ AX q → H1[q]? = H[q]?) → va_S A0 H0 H1 locs1 → H1[q9]? = some ce → ce.vm = .none → s.vm.findClass E = some ce.cls → vx_W p l e R s m args below meth c H1 locs1 (cells + mc) (slots + ms) Q (F0 m pc ls rest) q9)
    (kk : ∀ (r : UInt64) (u : S) (t : State) (H1 : Heap) (locs1 : List Loc), t.heap = H1 → s.vm.Alike t.vm → post r u → B u t → H.size ≤ H1.size → (∀ q : Nat, q < H.size → ¬ A1 q → H1[q]? = H[q]?) → va_S A0 H0 H1 locs1 → W p l e R s m args below meth c H1 locs1 (cells + mc) (slots + ms) Q (F0 m (pc + 3) ls (.double r :: rest))) : W p l e R s m args below meth c H locs cells slots Q (F0 m pc ls st0) := by
  intro T hT X
  rcases hr T hT X with ⟨v, st₀, t, T', L, h0, X', hL, e1, e2, ⟨⟨r, u, hv, hp, hb⟩, hF⟩, st⟩ | ⟨q, st₀, t, T', L, E, ce, h0, X', hL, e1, e2, ⟨u, hp, hb, hF⟩, hce, hcv, hcl, st⟩
  · cases hv
    obtain ⟨k1, k2, k3⟩ := vx_keep h0 e1 hS hA hf hL hF
    obtain ⟨t2, a1, b1⟩ := kk r u t T'.heap (locs ++ L) e1.symm (by rw [← e2]; exact X'.warmed.alike) hp hb k1 k2 k3 T' rfl X'
    exact ⟨t2, st t2 a1, b1⟩
  · obtain ⟨k1, k2, k3⟩ := vx_keep h0 e1 hS hAX hf hL hF
    obtain ⟨t2, a1, b1⟩ := kx E ce q u t T'.heap (locs ++ L) e1.symm (by rw [← e2]; exact X'.warmed.alike) hp hb k1 k2 k3 (by rw [e1]; exact hce) hcv hcl T' rfl X'
    exact ⟨t2, st.trans a1, b1⟩
theorem vx_callv {S SX : Type} {post : S → Prop} {px : SX → Prop} {B : S → State → Prop} {BX : String → SX → State → Prop} {AX : Nat → Prop} (hr : vx_Run p l e R s m args below meth c H locs cells slots mc ms (F0 m pc ls st0) rest (va_Qv post B A1 a) (vx_X px BX AX) free) (hS : va_S A0 H0 H locs) (hA : ∀ q, q < H.size → A1 q → A0 q) (hf : ∀ q, free q → A0 q) (hAX : ∀ q, q < H.size → AX q → A0 q)
    (kx : ∀ (E : String) (ce : Cell) (q9 : Addr) (u : SX) (t : State) (H1 : Heap) (locs1 : List Loc), t.heap = H1 → s.vm.Alike t.vm → px u → BX E u t → H.size ≤ H1.size → (∀ q : Nat, q < H.size → ¬ AX q → H1[q]? = H[q]?) → va_S A0 H0 H1 locs1 → H1[q9]? = some ce → ce.vm = .none → s.vm.findClass E = some ce.cls → vx_W p l e R s m args below meth c H1 locs1 (cells + mc) (slots + ms) Q (F0 m pc ls rest) q9)
    (kk : ∀ (u : S) (t : State) (H1 : Heap) (locs1 : List Loc), t.heap = H1 → s.vm.Alike t.vm → post u → B u t → H.size ≤ H1.size → (∀ q : Nat, q < H.size → ¬ A1 q → H1[q]? = H[q]?) → va_S A0 H0 H1 locs1 → W p l e R s m args below meth c H1 locs1 (cells + mc) (slots + ms) Q (F0 m (pc + 3) ls (rest))) : W p l e R s m args below meth c H locs cells slots Q (F0 m pc ls st0) := by
  intro T hT X
  rcases hr T hT X with ⟨v, st₀, t, T', L, h0, X', hL, e1, e2, ⟨⟨u, hv, hp, hb⟩, hF⟩, st⟩ | ⟨q, st₀, t, T', L, E, ce, h0, X', hL, e1, e2, ⟨u, hp, hb, hF⟩, hce, hcv, hcl, st⟩
  · cases hv
    obtain ⟨k1, k2, k3⟩ := vx_keep h0 e1 hS hA hf hL hF
    obtain ⟨t2, a1, b1⟩ := kk u t T'.heap (locs ++ L) e1.symm (by rw [← e2]; exact X'.warmed.alike) hp hb k1 k2 k3 T' rfl X'
    exact ⟨t2, st t2 a1, b1⟩
  · obtain ⟨k1, k2, k3⟩ := vx_keep h0 e1 hS hAX hf hL hF
    obtain ⟨t2, a1, b1⟩ := kx E ce q u t T'.heap (locs ++ L) e1.symm (by rw [← e2]; exact X'.warmed.alike) hp hb k1 k2 k3 (by rw [e1]; exact hce) hcv hcl T' rfl X'
    exact ⟨t2, st.trans a1, b1⟩
/-- caught by the row x of this method's table; the rows ahead don't take it -/
theorem vx_catch {own name : String} {E : String} {ce : Cell} {q : Addr} (hown : s.vm.findClass own = some m.cls) (pre : List ExceptionTableEntry) (x : ExceptionTableEntry) (suf : List ExceptionTableEntry) (hsplit : c.exceptionTable.toList = pre ++ x :: suf)
    (hpass : ∀ z ∈ pre, covers z pc = false ∨ (z.catchType ≠ 0 ∧ ∃ nm : String, (Cond.classLink own z.catchType nm).before args s = true ∧ va_Nc E nm s)) (hx : covers x pc = true) (h0 : x.catchType ≠ 0)
    (hlink : (Cond.classLink own x.catchType name).before args s = true) (hcast : (Cond.castable E name).before args s = true) (hcell : H[q]? = some ce) (hv : ce.vm = .none) (hcl : s.vm.findClass E = some ce.cls)
    (kk : W p l e R s m args below meth c H locs cells slots Q (F0 m x.handlerPc ls [.ref q])) : vx_W p l e R s m args below meth c H locs cells slots Q (F0 m pc ls rest) q := by
  intro T hT X
  have hpl : e.platform.magicAccessors = ({} : Platform).magicAccessors := by rw [X.admits.platform]
  obtain ⟨c3, c4, hc3, hc4, hasg⟩ := Cond.castable_spec hcast
  cases Option.some.inj (hc3.symm.trans hcl)
  obtain ⟨c5, hc5, hcl5⟩ := Cond.classLink_spec hown hlink e.platform hpl
  cases Option.some.inj (hc4.symm.trans hc5)
  obtain ⟨vm', X', st⟩ := X.thenCaughtThrough q (g := F0 m pc ls rest) rfl (Steps.refl _) (by rw [hT]; exact hcell) (by rw [hv]; rfl) (by obtain ⟨k9, h9, -⟩ := Vm.findClass_spec hcl; exact ⟨k9, h9⟩) pre x suf hsplit
    (fun z hz => by
      rcases hpass z hz with h | ⟨hz0, nm, hl1, hn1⟩
      · exact Or.inl h
      · obtain ⟨c6, hc6, hcl6⟩ := Cond.classLink_spec hown hl1 e.platform hpl
        obtain ⟨a8, b8, h1, h2, h3⟩ := hn1
        cases Option.some.inj (h1.symm.trans hcl)
        cases Option.some.inj (h2.symm.trans hc6)
        exact Or.inr ⟨hz0, _, hcl6, h3⟩) hx (Or.inr ⟨h0, c4, hcl5, hasg⟩)
  obtain ⟨t, a1, b1⟩ := kk (T.setVm vm') hT X'
  exact ⟨t, st.trans a1, b1⟩
end Rows
section Ends
variable {p : Program} {l : Launch} {e : Env} {R : Room} {s : State} {m : MethodId} {args : Array Value} {below : List Frame} {meth : Method} {c : Code} {H : Heap} {locs : List Loc} {cells slots : Nat} {Q : State → Prop}
variable {mc ms : Nat} {free : Addr → Prop} {A0 A1 : Nat → Prop} {H0 : Heap} {a : Array Value} {ls : Array Slot} {st0 rest : List Value}
variable {Qc : Array Value → State → Outcome → State → Prop} {XC : String → State → State → Prop}
/-- what a body that may throw owes at its end -/
def vx_MQ (below : List Frame) (Qc : Array Value → State → Outcome → State → Prop) (XC : String → State → State → Prop) (a : Array Value) (s : State) (mc ms : Nat) (free : Addr → Prop) : State → Prop := fun t =>
  ∃ o, t.status = .running ∧ Ended t below o ∧ vx_Q Qc XC mc ms free a s o t
theorem vx_ret {g : JFrame} {mc ms : Nat} (k : W p l e R s m args below meth c H locs cells slots (MQ below Qc args s mc ms free) g) : W p l e R s m args below meth c H locs cells slots (vx_MQ below Qc XC args s mc ms free) g := by
  intro T hT X
  obtain ⟨t, a1, o, b1, b2, b3, b4⟩ := k T hT X
  exact ⟨t, a1, o, b1, b2, Or.inl ⟨b3, b4⟩⟩
/-- not caught here: it goes on to the caller -/
theorem vx_widen {g : JFrame} {q : Addr} {k n : Nat} (h1 : cells ≤ k) (h2 : slots ≤ n) (kk : vx_W p l e R s m args below meth c H locs k n Q g q) : vx_W p l e R s m args below meth c H locs cells slots Q g q := fun T hT X => kk T hT (stand_widen X h1 h2)
theorem vx_out {pc : Nat} {E : String} {ce : Cell} {q : Addr} {mc ms : Nat} (hout : ∀ x ∈ c.exceptionTable.toList, covers x pc = false) (hlocks : meth.locks = false) (hcell : H[q]? = some ce) (hv : ce.vm = .none) (hcl : s.vm.findClass E = some ce.cls)
    (hx : ∀ t : State, t.heap = H → s.vm.Alike t.vm → XC E s t) (hf : ∀ z ∈ locs, free z.base) (hc : cells ≤ mc) (hs : slots ≤ ms) :
    vx_W p l e R s m args below meth c H locs cells slots (vx_MQ below Qc XC args s mc ms free) (F0 m pc ls rest) q := by
  intro T hT X
  obtain ⟨st1, hrun, hend, hW, hsm⟩ := X.leaveThrown q (g := F0 m pc ls rest) rfl rfl rfl hout hlocks
  have hcell9 : (T.setFrames (.throwing q :: below)).heap[q]? = some ce := by
    show T.heap[q]? = some ce
    rw [hT]; exact hcell
  exact ⟨_, st1, .threw q, hrun, hend, Or.inr ⟨q, rfl, E, ce, locs, hx _ hT hW.alike, hcell9, hv, hcl, hW, hsm.mono hc hs, hf⟩⟩
theorem vx_frame {U : State} {k n : Nat} (h : s.sameButNew ({ U with vm := s.vm } : State) locs k n) : s.heap.size ≤ U.heap.size ∧ ∀ q : Nat, q < s.heap.size → (∀ z ∈ locs, z.base ≠ q) → U.heap[q]? = s.heap[q]? := by
  obtain ⟨-, h2, -, -, -, h6⟩ := h
  refine ⟨h2, fun q hq hz => ?_⟩
  obtain ⟨c9, e1, e2, e3, e4⟩ := h6 q _ (Array.getElem?_eq_getElem hq)
  have hs : c9.slots = (s.heap[q]).slots := Array.ext_getElem? fun i => e4 i fun hm => hz _ hm rfl
  have h9 : c9 = s.heap[q] := by
    rw [hs] at e2
    exact e2
  have e5 : U.heap[q]? = some c9 := e1
  rw [e5, h9, Array.getElem?_eq_getElem hq]
/-- the words of a throw but the four that speak of the heap -/
def vx_no (w : Cond) : Bool := decide (w ≠ .isRef (.static Bundle.tN "UNASSIGNED_STACK" Bundle.steD)) && decide (w ≠ .isRef (.static Bundle.tN "SUPPRESSED_SENTINEL" Bundle.listD)) && decide (w ≠ .laysStatic Bundle.tN "UNASSIGNED_STACK" Bundle.steD) && decide (w ≠ .laysStatic Bundle.tN "SUPPRESSED_SENTINEL" Bundle.listD)
def vx_at0 (own : String) (ic : Nat) (X : String) (names : List String) : List Cond := (Bundle.ownAtoms0 own ic X names).filter vx_no
def vx_atS (own : String) (ic : Nat) (X : String) (names : List String) : List Cond := (Bundle.ownAtoms own ic X names).filter vx_no
/-- a word that the tables alone decide, or a good one -/
def vx_ot (w : Cond) : Bool := w.onTables || goodWord w
theorem vx_ot_at {args a' : Array Value} {s U : State} {w : Cond} (hW : s.WarmedH U.vm) (hvm : s.vm = U.vm) (hg : vx_ot w = true) (h : w.before args s = true) : w.before a' U = true := by
  simp only [vx_ot, Bool.or_eq_true] at hg
  rcases hg with hg | hg
  · exact va_tabs hg hvm h
  · exact word_at hW (good_of_word hg) h
/-- a list's words: the good ones out of the method's own list, the others by premises of their own -/
theorem vx_hat {args : Array Value} {s : State} {L B : List Cond} (h1 : ∀ w ∈ L.filter goodWord, w.before args s = true) (h2 : ∀ w ∈ L.filter (fun w => !goodWord w), w ∈ B) (h3 : ∀ w ∈ B, w.before args s = true) : ∀ w ∈ L, w.before args s = true := by
  intro w hw
  by_cases g : goodWord w = true
  · exact h1 w (List.mem_filter.mpr ⟨hw, g⟩)
  · refine h3 w (h2 w (List.mem_filter.mpr ⟨hw, ?_⟩))
    show (!goodWord w) = true
    cases hgw : goodWord w
    · rfl
    · exact absurd hgw g
theorem vx_c {args : Array Value} {s : State} {w : Cond} {B : List Cond} (h : w.before args s = true) (t : ∀ w ∈ B, w.before args s = true) : ∀ w' ∈ w :: B, w'.before args s = true := fun w' h' => (List.mem_cons.mp h').elim (fun e => by rw [e]; exact h) (t w')
theorem vx_n {args : Array Value} {s : State} : ∀ w ∈ ([] : List Cond), w.before args s = true := fun _ h => nomatch h
theorem vx_own {args : Array Value} {s : State} {L : List Cond} (h1 : ∀ w ∈ L.filter vx_no, w.before args s = true)
    (hU : (Cond.isRef (.static Bundle.tN "UNASSIGNED_STACK" Bundle.steD)).before args s = true) (hN : (Cond.isRef (.static Bundle.tN "SUPPRESSED_SENTINEL" Bundle.listD)).before args s = true)
    (lU : (Cond.laysStatic Bundle.tN "UNASSIGNED_STACK" Bundle.steD).before args s = true) (lN : (Cond.laysStatic Bundle.tN "SUPPRESSED_SENTINEL" Bundle.listD).before args s = true) : ∀ w ∈ L, w.before args s = true := by
  intro w hw
  by_cases e1 : w = .isRef (.static Bundle.tN "UNASSIGNED_STACK" Bundle.steD)
  · rw [e1]; exact hU
  · by_cases e2 : w = .isRef (.static Bundle.tN "SUPPRESSED_SENTINEL" Bundle.listD)
    · rw [e2]; exact hN
    · by_cases e3 : w = .laysStatic Bundle.tN "UNASSIGNED_STACK" Bundle.steD
      · rw [e3]; exact lU
      · by_cases e4 : w = .laysStatic Bundle.tN "SUPPRESSED_SENTINEL" Bundle.listD
        · rw [e4]; exact lN
        · exact h1 w (List.mem_filter.mpr ⟨hw, by unfold vx_no; rw [decide_eq_true e1, decide_eq_true e2, decide_eq_true e3, decide_eq_true e4]; rfl⟩)
/-- where a static field lies, its class's statics cell in H -/
def vx_L (C n d : String) (A : Nat → Prop) (U : State) (H : Heap) : Prop := ∃ (c : ClassId) (k : Class) (i : Nat) (f : Field) (a : Nat) (cell : Cell), U.vm.findClass C = some c ∧ U.fieldFound? C n d = some (c, k, i, f) ∧ f.isStatic = true ∧ k.statics = some a ∧ H[a]? = some cell ∧ cell.vm.isStatics = true ∧ cell.cls = c ∧ f.slot < cell.slots.size ∧ k.staticTypes[f.slot]? = some f.type ∧ ¬ A a
theorem vx_L.moved {C n d : String} {A : Nat → Prop} {u U : State} {H : Heap} (hvm : u.vm.Alike U.vm) (h : vx_L C n d A u H) : vx_L C n d A U H := by
  obtain ⟨c, k, i, f, a, cell, h1, h2, h3, h4, h5, h6, h7, h8, h9, h10⟩ := h
  obtain ⟨k', hi', he⟩ := State.fieldFound?_setVm hvm h2
  exact ⟨c, k', i, f, a, cell, by rw [hvm.findClass]; exact h1, hi', h3, by rw [he]; exact h4, h5, h6, h7, h8, by rw [he]; exact h9, h10⟩
theorem vx_L.kept {C n d : String} {A : Nat → Prop} {U : State} {H H1 : Heap} (h : vx_L C n d A U H) (hq : ∀ a : Nat, a < H.size → ¬ A a → H1[a]? = H[a]?) : vx_L C n d A U H1 := by
  obtain ⟨c, k, i, f, a, cell, h1, h2, h3, h4, h5, h6, h7, h8, h9, h10⟩ := h
  exact ⟨c, k, i, f, a, cell, h1, h2, h3, h4, by rw [hq a (Array.getElem?_eq_some_iff.mp h5).1 h10]; exact h5, h6, h7, h8, h9, h10⟩
theorem vx_L.narrow {C n d : String} {A B : Nat → Prop} {U : State} {H : Heap} (h : vx_L C n d A U H) (hAB : ∀ q, B q → A q) : vx_L C n d B U H := by
  obtain ⟨c, k, i, f, a, cell, h1, h2, h3, h4, h5, h6, h7, h8, h9, h10⟩ := h
  exact ⟨c, k, i, f, a, cell, h1, h2, h3, h4, h5, h6, h7, h8, h9, fun z => h10 (hAB _ z)⟩
theorem vx_L.word {C n d : String} {A : Nat → Prop} {s : State} {args : Array Value} (h : vx_L C n d A s s.heap) : (Cond.laysStatic C n d).before args s = true := by
  obtain ⟨c, k, i, f, a, cell, h1, h2, h3, h4, h5, h6, h7, h8, h9, -⟩ := h
  show (Cond.laysStatic C n d).holds args s none s [] = true
  exact Cond.laysStatic_of h1 h2 h3 h4 h5 h6 h7 h8 h9
/-- .. and what it holds: null or some reference -/
def vx_Zq (C n d : String) (A : Nat → Prop) (U : State) (H : Heap) : Prop := va_Zq C n d A U H ∧ vx_L C n d A U H
theorem vx_Zq.moved {C n d : String} {A : Nat → Prop} {u U : State} {H : Heap} (hvm : u.vm.Alike U.vm) (h : vx_Zq C n d A u H) : vx_Zq C n d A U H := ⟨va_Zq.moved hvm h.1, vx_L.moved hvm h.2⟩
theorem vx_Zq.kept {C n d : String} {A : Nat → Prop} {U : State} {H H1 : Heap} (h : vx_Zq C n d A U H) (hq : ∀ a : Nat, a < H.size → ¬ A a → H1[a]? = H[a]?) : vx_Zq C n d A U H1 := ⟨va_Zq.kept h.1 hq, vx_L.kept h.2 hq⟩
theorem vx_Zq.narrow {C n d : String} {A B : Nat → Prop} {U : State} {H : Heap} (h : vx_Zq C n d A U H) (hAB : ∀ q, B q → A q) : vx_Zq C n d B U H := ⟨va_Zq.narrow h.1 hAB, vx_L.narrow h.2 hAB⟩
theorem vx_Zqof {args : Array Value} {s : State} {C n d : String} {A : Nat → Prop} (hl : (Cond.laysStatic C n d).before args s = true) (hini : (Cond.initialized C).before args s = true) (h : (Cond.isRef (.static C n d)).before args s = true) (hA : ∀ a : Nat, a < s.heap.size → ¬ A a) : vx_Zq C n d A s s.heap := by
  refine ⟨va_Zqof hl hini h hA, ?_⟩
  obtain ⟨c, k, i, f, a, cell, h1, h2, h3, h4, h5, h6, h7, h8, h9⟩ := Cond.laysStatic_spec hl
  exact ⟨c, k, i, f, a, cell, h1, h2, h3, h4, h5, h6, h7, h8, h9, hA a (Array.getElem?_eq_some_iff.mp h5).1⟩
theorem vx_isRef {C n d : String} {v : Value} {A : Nat → Prop} {s : State} {args : Array Value} (h : va_Z C n d v A s s.heap) (hv : v.isRef = true) : (Cond.isRef (.static C n d)).before args s = true := by
  obtain ⟨cf, kf, fi, f, a, cell, h1, h2, h3, h4, h5, h6, h7, -⟩ := h
  have he : (Term.static C n d).eval args s none [] s = some v := by
    simp [Term.eval, State.fieldNamed?, h1, h2, h4, h5, h6, h7]
  simp only [Cond.before, Cond.holds, Cond.value, he]
  cases v <;> simp_all [Value.isRef]
theorem vx_isRefq {C n d : String} {A : Nat → Prop} {s : State} {args : Array Value} (h : va_Zq C n d A s s.heap) : (Cond.isRef (.static C n d)).before args s = true := by
  rcases h with h | ⟨t, h⟩
  · exact vx_isRef h rfl
  · exact vx_isRef h rfl
/-- the same frame, seen from here: as if the method were called anew in this heap -/
theorem vx_rebase {T : State} (X : Stand p l e R s m args below meth c T locs cells slots) {R' : Room} (hf : R'.frames ≤ R.frames) (hl : R'.locals ≤ R.locals) (hc : cells + R'.cells ≤ R.cells) (hs : slots + R'.slots ≤ R.slots) :
    Stand p l e R' ((T.setVm s.vm).setFrames (.invoking m args :: below)) m args below meth c T [] 0 0 := by
  have htop : (T.setVm s.vm).topJava?.isSome := X.here.top
  have hF : ((T.setVm s.vm).setFrames (.invoking m args :: below)).frames = .invoking m args :: below := State.frames_setFrames _ (State.cur_lt_of_top htop)
  obtain ⟨g₀, hg0⟩ := Option.isSome_iff_exists.mp htop
  obtain ⟨r, hr⟩ := State.topJava?_eq_some.mp hg0
  have hl9 : e.platform.stackLimits (T.setVm s.vm).me = e.platform.stackLimits s.me := X.limits
  have hb9 : (T.setVm s.vm).me.stackBytes = s.me.stackBytes := X.bytes
  refine ⟨X.admits, X.cas, X.clock, hF, ?_, X.hears, X.method, X.code, X.here, X.tail, X.warmed, ?_, ?_, ?_⟩
  · have h := X.room
    have hU : ((T.setVm s.vm).setFrames (.invoking m args :: below)).localsInUse = s.localsInUse := by
      rw [State.localsInUse_invoking hF (meth := meth) (c := c) X.method X.code, State.localsInUse_invoking X.frames X.method X.code]
    simp only [State.hasRoom, Bool.and_eq_true, decide_eq_true_eq] at h ⊢
    obtain ⟨⟨⟨⟨h1, h2, h3, h4, h5, h6⟩, h7⟩, h8⟩, h9⟩ := h
    rw [X.frames, List.length_cons] at h2 h3
    have q1 := X.heapSize
    have q2 := X.used
    simp only [hF, hU, List.length_cons, State.stackLimits_setFrames, State.stackBytes_setFrames, hl9, hb9]
    refine ⟨⟨⟨⟨by omega, by omega, by omega, by omega, by omega, h6⟩, ?_⟩, ?_⟩, X.book⟩
    · show T.heap.size + R'.cells ≤ e.platform.maxCells
      omega
    · show T.slotsUsed + R'.slots ≤ e.platform.maxSlots
      omega
  · rw [State.stackLimits_setFrames]; rfl
  · rw [State.stackBytes_setFrames]; rfl
  · refine ⟨?_, Nat.le_refl _, Nat.le_refl _, ?_, ?_, fun a c9 h9 => ⟨c9, h9, rfl, rfl, fun _ _ => rfl⟩⟩
    · obtain ⟨t, ht, -⟩ := State.frames_cons hr
      show T.setVm s.vm = { ((T.setVm s.vm).setFrames (.invoking m args :: below)).setFrames (T.setVm s.vm).frames with heap := T.heap, slotsUsed := T.slotsUsed }
      rw [State.setFrames_setFrames, State.setFrames_self ht]
      rfl
    · show T.slotsUsed = T.slotsUsed + ((T.heap.toList.drop T.heap.size).map (·.slots.size)).sum
      rw [List.drop_eq_nil_of_le (Nat.le_of_eq Array.length_toList)]
      rfl
    · show ((T.heap.toList.drop T.heap.size).map (·.slots.size)).sum ≤ 0
      rw [List.drop_eq_nil_of_le (Nat.le_of_eq Array.length_toList)]
      exact Nat.le_refl _
/-- 'throw new E()': new; dup; invokespecial; athrow -/
theorem vx_throw0 {cc : ByteArray} {pc : Nat} (hexec : p.tables.exec = Jvm.exec) (hb : c.code = cc) (hl : l.stackTraces = false) {own cls : String} {names : List String} {ik ic mc ms : Nat} {A : Nat → Prop}
    (hown : s.vm.findClass own = some m.cls) (hcls : Bundle.fit cls = true) (hnames : ∀ n ∈ names, Bundle.fit n = true)
    (hk : (Cond.classLink own ik cls).before args s = true) (hini : (Cond.initialized cls).before args s = true) (hat : ∀ w ∈ vx_at0 own ic cls names, w.before args s = true)
    (hgood : ∀ w ∈ Cond.classLink own ik cls :: Cond.initialized cls :: vx_at0 own ic cls names, vx_ot w = true)
    (hU : vx_Zq Bundle.tN "UNASSIGNED_STACK" Bundle.steD A s s.heap) (hN : vx_Zq Bundle.tN "SUPPRESSED_SENTINEL" Bundle.listD A s s.heap) (hS : va_S A s.heap H locs) (hsize : ls.size = c.maxLocals)
    (d0 : decode cc pc = .ok (.new ik, 3)) (d3 : decode cc (pc + 3) = .ok (.dup, 1)) (d4 : decode cc (pc + 4) = .ok (.invokespecial ic, 3)) (d7 : decode cc (pc + 7) = .ok (.athrow, 1))
    (hout : ∀ x ∈ c.exceptionTable.toList, covers x (pc + 7) = false)
    (hRframes : names.length + 3 < R.frames) (hRlocals : (rest.map fun v => v.category).sum + (13 * (names.length + 1) + 42) ≤ R.locals) (hRcells : cells + 1 ≤ R.cells) (hRslots : slots + 6 ≤ R.slots) (hlocks : meth.locks = false)
    (hx : ∀ t : State, s.vm.Alike t.vm → H.size ≤ t.heap.size → (∀ q : Nat, q < H.size → t.heap[q]? = H[q]?) → XC cls s t)
    (hf : ∀ z ∈ locs, free z.base) (hc : cells + 1 ≤ mc) (hs : slots + 6 ≤ ms) :
    W p l e R s m args below meth c H locs cells slots (vx_MQ below Qc XC args s mc ms free) (F0 m pc ls rest) := by
  intro T hT X
  have htr : e.platform.stackTraces = false := (show e.platform.stackTraces = l.stackTraces by rw [X.admits.platform]).trans hl
  have Y := vx_rebase X (R' := { frames := R.frames, locals := R.locals, cells := 1, slots := 6 }) (Nat.le_refl _) (Nat.le_refl _) hRcells hRslots
  obtain ⟨s', hA⟩ : ∃ z, z = (T.setVm s.vm).setFrames (.invoking m args :: below) := ⟨_, rfl⟩
  rw [← hA] at Y
  have hvm : s'.vm = s.vm := by rw [hA]; rfl
  have hhp : s'.heap = H := by rw [hA]; exact hT
  have hW0 : s.WarmedH s'.vm := by rw [hvm]; exact State.WarmedH.refl s
  have hat' : ∀ w ∈ vx_at0 own ic cls names, w.before args s' = true := fun w hw => vx_ot_at hW0 hvm.symm (hgood w (List.mem_cons_of_mem _ (List.mem_cons_of_mem _ hw))) (hat w hw)
  have hk' : (Cond.classLink own ik cls).before args s' = true := vx_ot_at hW0 hvm.symm (hgood _ List.mem_cons_self) hk
  have hini' : (Cond.initialized cls).before args s' = true := vx_ot_at hW0 hvm.symm (hgood _ (List.mem_cons_of_mem _ List.mem_cons_self)) hini
  have hU' : vx_Zq Bundle.tN "UNASSIGNED_STACK" Bundle.steD A s' s'.heap := by rw [hhp]; exact vx_Zq.moved hW0.alike (hU.kept hS.2.1)
  have hN' : vx_Zq Bundle.tN "SUPPRESSED_SENTINEL" Bundle.listD A s' s'.heap := by rw [hhp]; exact vx_Zq.moved hW0.alike (hN.kept hS.2.1)
  have h : ∀ w ∈ Bundle.ownAtoms0 own ic cls names, w.before args s' = true := vx_own hat' (vx_isRefq hU'.1) (vx_isRefq hN'.1) hU'.2.word hN'.2.word
  have hown' : s'.vm.findClass own = some m.cls := by rw [hvm]; exact hown
  have hins : (Cond.instantiable cls 6).before args s' = true := h _ (by simp [Bundle.ownAtoms0])
  obtain ⟨vm₁, cX, kX, hfX, hkX, -, -, X₁, st1⟩ := Y.newCold hexec (own := own) (C := cls) (index := ik) (n := 6) hown' hk' hins hini'
    (g := F0 m pc ls rest) rfl (by rw [hb]; exact d0) (Nat.le_refl _) (Nat.le_refl _)
  generalize hT1 : (T.setVm vm₁).pushCell { cls := cX, slots := kX.instanceTypes.map defaultValue, vm := .none } = T1 at X₁ st1
  have hcat : (Value.ref T.heap.size).category = 1 := rfl
  have hcellA : T1.heap[T.heap.size]? = some (freshCell cX kX) := by rw [← hT1]; exact State.heap_pushCell_size _ _
  have d3' : decode c.code (pc + 3) = .ok (.dup, 1) := by rw [hb]; exact d3
  obtain ⟨U, hsteps, hrun, hend, hW, hsame, ce, hce, hO⟩ := X₁.ctorThrow0 hexec htr (own := own) (cls := cls) (names := names) (ic := ic) hown' hcls hnames h (fun x hx => nomatch hx) hfX hkX hcellA (by rw [hhp, hT]; exact Nat.le_refl _)
    (g := { method := m, pc := pc + 4, locals := ls, stack := .ref T.heap.size :: .ref T.heap.size :: rest, locked := none }) rfl hsize rfl rfl (rest := rest) rfl
    (by rw [hb]; exact d4) (by rw [hb]; exact d7) hout hRframes (by simp only [List.map_cons, List.sum_cons, hcat]; omega) hlocks
  obtain ⟨f1, f2⟩ := vx_frame hsame
  rw [hhp] at f1 f2
  have hWs : s.WarmedH U.vm := State.WarmedH.trans hW0 hW
  have hcl : s.vm.findClass cls = some ce.cls := by
    have h9 := hO.cls
    rw [hvm] at h9
    exact h9
  have hall : s.sameButNew ({ U with vm := s.vm } : State) locs mc ms := by
    subst hA
    obtain ⟨e1, e2⟩ := hsame
    rw [State.setFrames_setFrames] at e1
    have h2 : (T.setVm s.vm).sameButNew ({ U with vm := s.vm } : State) [] (0 + 1) (0 + 6) := ⟨e1, e2⟩
    have h3 := X.same.trans h2
    rw [List.append_nil] at h3
    exact h3.mono hc hs
  refine ⟨U, ?_, .threw T.heap.size, hrun, hend, Or.inr ⟨T.heap.size, rfl, cls, ce, locs, hx U hWs.alike f1 (fun q hq => f2 q hq (fun z hz => nomatch hz)), hce, hO.vm, hcl, hWs, hall, hf⟩⟩
  refine st1 _ ?_
  show Steps p.tables e below (T1.setTop { method := m, pc := pc + 3, locals := ls, stack := .ref T.heap.size :: rest, locked := none }) _
  jvm_step X₁.here [X₁.here.top, hexec, d3', Value.category]
  exact hsteps
/-- 'throw new E("text")': new; dup; ldc; invokespecial; athrow -/
theorem vx_throwS {cc : ByteArray} {pc : Nat} (hexec : p.tables.exec = Jvm.exec) (hb : c.code = cc) (hl : l.stackTraces = false) {own cls text : String} {names : List String} {ik is ic mc ms sa : Nat} {A : Nat → Prop}
    (hown : s.vm.findClass own = some m.cls) (hcls : Bundle.fit cls = true) (hnames : ∀ n ∈ names, Bundle.fit n = true)
    (hk : (Cond.classLink own ik cls).before args s = true) (hini : (Cond.initialized cls).before args s = true) (hstr : vk_R own is text sa s) (hat : ∀ w ∈ vx_atS own ic cls names, w.before args s = true)
    (hgood : ∀ w ∈ Cond.classLink own ik cls :: Cond.initialized cls :: vx_atS own ic cls names, vx_ot w = true)
    (hU : vx_Zq Bundle.tN "UNASSIGNED_STACK" Bundle.steD A s s.heap) (hN : vx_Zq Bundle.tN "SUPPRESSED_SENTINEL" Bundle.listD A s s.heap) (hS : va_S A s.heap H locs) (hsize : ls.size = c.maxLocals)
    (d0 : decode cc pc = .ok (.new ik, 3)) (d3 : decode cc (pc + 3) = .ok (.dup, 1)) (d4 : decode cc (pc + 4) = .ok (.ldc is, 2)) (d6 : decode cc (pc + 6) = .ok (.invokespecial ic, 3)) (d9 : decode cc (pc + 9) = .ok (.athrow, 1))
    (hout : ∀ x ∈ c.exceptionTable.toList, covers x (pc + 9) = false)
    (hRframes : names.length + 3 < R.frames) (hRlocals : (rest.map fun v => v.category).sum + (13 * (names.length + 1) + 43) ≤ R.locals) (hRcells : cells + 1 ≤ R.cells) (hRslots : slots + 6 ≤ R.slots) (hlocks : meth.locks = false)
    (hx : ∀ t : State, s.vm.Alike t.vm → H.size ≤ t.heap.size → (∀ q : Nat, q < H.size → t.heap[q]? = H[q]?) → XC cls s t)
    (hf : ∀ z ∈ locs, free z.base) (hc : cells + 1 ≤ mc) (hs : slots + 6 ≤ ms) :
    W p l e R s m args below meth c H locs cells slots (vx_MQ below Qc XC args s mc ms free) (F0 m pc ls rest) := by
  intro T hT X
  have htr : e.platform.stackTraces = false := (show e.platform.stackTraces = l.stackTraces by rw [X.admits.platform]).trans hl
  have Y := vx_rebase X (R' := { frames := R.frames, locals := R.locals, cells := 1, slots := 6 }) (Nat.le_refl _) (Nat.le_refl _) hRcells hRslots
  obtain ⟨s', hA⟩ : ∃ z, z = (T.setVm s.vm).setFrames (.invoking m args :: below) := ⟨_, rfl⟩
  rw [← hA] at Y
  have hvm : s'.vm = s.vm := by rw [hA]; rfl
  have hhp : s'.heap = H := by rw [hA]; exact hT
  have hW0 : s.WarmedH s'.vm := by rw [hvm]; exact State.WarmedH.refl s
  have hat' : ∀ w ∈ vx_atS own ic cls names, w.before args s' = true := fun w hw => vx_ot_at hW0 hvm.symm (hgood w (List.mem_cons_of_mem _ (List.mem_cons_of_mem _ hw))) (hat w hw)
  have hk' : (Cond.classLink own ik cls).before args s' = true := vx_ot_at hW0 hvm.symm (hgood _ List.mem_cons_self) hk
  have hini' : (Cond.initialized cls).before args s' = true := vx_ot_at hW0 hvm.symm (hgood _ (List.mem_cons_of_mem _ List.mem_cons_self)) hini
  have hU' : vx_Zq Bundle.tN "UNASSIGNED_STACK" Bundle.steD A s' s'.heap := by rw [hhp]; exact vx_Zq.moved hW0.alike (hU.kept hS.2.1)
  have hN' : vx_Zq Bundle.tN "SUPPRESSED_SENTINEL" Bundle.listD A s' s'.heap := by rw [hhp]; exact vx_Zq.moved hW0.alike (hN.kept hS.2.1)
  have h : ∀ w ∈ Bundle.ownAtoms own ic cls names, w.before args s' = true := vx_own hat' (vx_isRefq hU'.1) (vx_isRefq hN'.1) hU'.2.word hN'.2.word
  have hown' : s'.vm.findClass own = some m.cls := by rw [hvm]; exact hown
  have hins : (Cond.instantiable cls 6).before args s' = true := h _ (by simp [Bundle.ownAtoms])
  obtain ⟨vm₁, cX, kX, hfX, hkX, -, -, X₁, st1⟩ := Y.newCold hexec (own := own) (C := cls) (index := ik) (n := 6) hown' hk' hins hini'
    (g := F0 m pc ls rest) rfl (by rw [hb]; exact d0) (Nat.le_refl _) (Nat.le_refl _)
  generalize hT1 : (T.setVm vm₁).pushCell { cls := cX, slots := kX.instanceTypes.map defaultValue, vm := .none } = T1 at X₁ st1
  have hcat : (Value.ref T.heap.size).category = 1 := rfl
  have hcellA : T1.heap[T.heap.size]? = some (freshCell cX kX) := by rw [← hT1]; exact State.heap_pushCell_size _ _
  have d3' : decode c.code (pc + 3) = .ok (.dup, 1) := by rw [hb]; exact d3
  have d4' : decode c.code (pc + 4) = .ok (.ldc is, 2) := by rw [hb]; exact d4
  have hstr' : vk_R own is text sa s' := vk_R.warm hW0 hstr
  obtain ⟨U, hsteps, hrun, hend, hW, hsame, ce, hce, hO⟩ := X₁.ctorThrowS hexec htr (own := own) (cls := cls) (names := names) (ic := ic) hown' hcls hnames h (fun x hx => nomatch hx) hfX hkX hcellA (by rw [hhp, hT]; exact Nat.le_refl _) (msg := .ref sa) rfl
    (g := { method := m, pc := pc + 6, locals := ls, stack := .ref sa :: .ref T.heap.size :: .ref T.heap.size :: rest, locked := none }) rfl hsize rfl rfl (rest := rest) rfl
    (by rw [hb]; exact d6) (by rw [hb]; exact d9) hout hRframes (by simp only [List.map_cons, List.sum_cons, hcat]; omega) hlocks
  obtain ⟨f1, f2⟩ := vx_frame hsame
  rw [hhp] at f1 f2
  have hWs : s.WarmedH U.vm := State.WarmedH.trans hW0 hW
  have hcl : s.vm.findClass cls = some ce.cls := by
    have h9 := hO.cls
    rw [hvm] at h9
    exact h9
  have hall : s.sameButNew ({ U with vm := s.vm } : State) locs mc ms := by
    subst hA
    obtain ⟨e1, e2⟩ := hsame
    rw [State.setFrames_setFrames] at e1
    have h2 : (T.setVm s.vm).sameButNew ({ U with vm := s.vm } : State) [] (0 + 1) (0 + 6) := ⟨e1, e2⟩
    have h3 := X.same.trans h2
    rw [List.append_nil] at h3
    exact h3.mono hc hs
  refine ⟨U, ?_, .threw T.heap.size, hrun, hend, Or.inr ⟨T.heap.size, rfl, cls, ce, locs, hx U hWs.alike f1 (fun q hq => f2 q hq (fun z hz => nomatch hz)), hce, hO.vm, hcl, hWs, hall, hf⟩⟩
  refine st1 _ ?_
  show Steps p.tables e below (T1.setTop { method := m, pc := pc + 3, locals := ls, stack := .ref T.heap.size :: rest, locked := none }) _
  jvm_step X₁.here [X₁.here.top, hexec, d3', Value.category]
  exact X₁.ldcString hexec (own := own) (text := text) (index := is) (a := sa) hown' hstr'.1 hstr'.2
    (g := { method := m, pc := pc + 4, locals := ls, stack := .ref T.heap.size :: .ref T.heap.size :: rest, locked := none }) rfl d4' _ hsteps
/-- 'throw new E("text")', the text by a wide index -/
theorem vx_throwSW {cc : ByteArray} {pc : Nat} (hexec : p.tables.exec = Jvm.exec) (hb : c.code = cc) (hl : l.stackTraces = false) {own cls text : String} {names : List String} {ik is ic mc ms sa : Nat} {A : Nat → Prop}
    (hown : s.vm.findClass own = some m.cls) (hcls : Bundle.fit cls = true) (hnames : ∀ n ∈ names, Bundle.fit n = true)
    (hk : (Cond.classLink own ik cls).before args s = true) (hini : (Cond.initialized cls).before args s = true) (hstr : vk_R own is text sa s) (hat : ∀ w ∈ vx_atS own ic cls names, w.before args s = true)
    (hgood : ∀ w ∈ Cond.classLink own ik cls :: Cond.initialized cls :: vx_atS own ic cls names, vx_ot w = true)
    (hU : vx_Zq Bundle.tN "UNASSIGNED_STACK" Bundle.steD A s s.heap) (hN : vx_Zq Bundle.tN "SUPPRESSED_SENTINEL" Bundle.listD A s s.heap) (hS : va_S A s.heap H locs) (hsize : ls.size = c.maxLocals)
    (d0 : decode cc pc = .ok (.new ik, 3)) (d3 : decode cc (pc + 3) = .ok (.dup, 1)) (d4 : decode cc (pc + 4) = .ok (.ldc_w is, 3)) (d7 : decode cc (pc + 7) = .ok (.invokespecial ic, 3)) (d10 : decode cc (pc + 10) = .ok (.athrow, 1))
    (hout : ∀ x ∈ c.exceptionTable.toList, covers x (pc + 10) = false)
    (hRframes : names.length + 3 < R.frames) (hRlocals : (rest.map fun v => v.category).sum + (13 * (names.length + 1) + 43) ≤ R.locals) (hRcells : cells + 1 ≤ R.cells) (hRslots : slots + 6 ≤ R.slots) (hlocks : meth.locks = false)
    (hx : ∀ t : State, s.vm.Alike t.vm → H.size ≤ t.heap.size → (∀ q : Nat, q < H.size → t.heap[q]? = H[q]?) → XC cls s t)
    (hf : ∀ z ∈ locs, free z.base) (hc : cells + 1 ≤ mc) (hs : slots + 6 ≤ ms) :
    W p l e R s m args below meth c H locs cells slots (vx_MQ below Qc XC args s mc ms free) (F0 m pc ls rest) := by
  intro T hT X
  have htr : e.platform.stackTraces = false := (show e.platform.stackTraces = l.stackTraces by rw [X.admits.platform]).trans hl
  have Y := vx_rebase X (R' := { frames := R.frames, locals := R.locals, cells := 1, slots := 6 }) (Nat.le_refl _) (Nat.le_refl _) hRcells hRslots
  obtain ⟨s', hA⟩ : ∃ z, z = (T.setVm s.vm).setFrames (.invoking m args :: below) := ⟨_, rfl⟩
  rw [← hA] at Y
  have hvm : s'.vm = s.vm := by rw [hA]; rfl
  have hhp : s'.heap = H := by rw [hA]; exact hT
  have hW0 : s.WarmedH s'.vm := by rw [hvm]; exact State.WarmedH.refl s
  have hat' : ∀ w ∈ vx_atS own ic cls names, w.before args s' = true := fun w hw => vx_ot_at hW0 hvm.symm (hgood w (List.mem_cons_of_mem _ (List.mem_cons_of_mem _ hw))) (hat w hw)
  have hk' : (Cond.classLink own ik cls).before args s' = true := vx_ot_at hW0 hvm.symm (hgood _ List.mem_cons_self) hk
  have hini' : (Cond.initialized cls).before args s' = true := vx_ot_at hW0 hvm.symm (hgood _ (List.mem_cons_of_mem _ List.mem_cons_self)) hini
  have hU' : vx_Zq Bundle.tN "UNASSIGNED_STACK" Bundle.steD A s' s'.heap := by rw [hhp]; exact vx_Zq.moved hW0.alike (hU.kept hS.2.1)
  have hN' : vx_Zq Bundle.tN "SUPPRESSED_SENTINEL" Bundle.listD A s' s'.heap := by rw [hhp]; exact vx_Zq.moved hW0.alike (hN.kept hS.2.1)
  have h : ∀ w ∈ Bundle.ownAtoms own ic cls names, w.before args s' = true := vx_own hat' (vx_isRefq hU'.1) (vx_isRefq hN'.1) hU'.2.word hN'.2.word
  have hown' : s'.vm.findClass own = some m.cls := by rw [hvm]; exact hown
  have hins : (Cond.instantiable cls 6).before args s' = true := h _ (by simp [Bundle.ownAtoms])
  obtain ⟨vm₁, cX, kX, hfX, hkX, -, -, X₁, st1⟩ := Y.newCold hexec (own := own) (C := cls) (index := ik) (n := 6) hown' hk' hins hini'
    (g := F0 m pc ls rest) rfl (by rw [hb]; exact d0) (Nat.le_refl _) (Nat.le_refl _)
  generalize hT1 : (T.setVm vm₁).pushCell { cls := cX, slots := kX.instanceTypes.map defaultValue, vm := .none } = T1 at X₁ st1
  have hcat : (Value.ref T.heap.size).category = 1 := rfl
  have hcellA : T1.heap[T.heap.size]? = some (freshCell cX kX) := by rw [← hT1]; exact State.heap_pushCell_size _ _
  have d3' : decode c.code (pc + 3) = .ok (.dup, 1) := by rw [hb]; exact d3
  have d4' : decode c.code (pc + 4) = .ok (.ldc_w is, 3) := by rw [hb]; exact d4
  have hstr' : vk_R own is text sa s' := vk_R.warm hW0 hstr
  obtain ⟨U, hsteps, hrun, hend, hW, hsame, ce, hce, hO⟩ := X₁.ctorThrowS hexec htr (own := own) (cls := cls) (names := names) (ic := ic) hown' hcls hnames h (fun x hx => nomatch hx) hfX hkX hcellA (by rw [hhp, hT]; exact Nat.le_refl _) (msg := .ref sa) rfl
    (g := { method := m, pc := pc + 7, locals := ls, stack := .ref sa :: .ref T.heap.size :: .ref T.heap.size :: rest, locked := none }) rfl hsize rfl rfl (rest := rest) rfl
    (by rw [hb]; exact d7) (by rw [hb]; exact d10) hout hRframes (by simp only [List.map_cons, List.sum_cons, hcat]; omega) hlocks
  obtain ⟨f1, f2⟩ := vx_frame hsame
  rw [hhp] at f1 f2
  have hWs : s.WarmedH U.vm := State.WarmedH.trans hW0 hW
  have hcl : s.vm.findClass cls = some ce.cls := by
    have h9 := hO.cls
    rw [hvm] at h9
    exact h9
  have hall : s.sameButNew ({ U with vm := s.vm } : State) locs mc ms := by
    subst hA
    obtain ⟨e1, e2⟩ := hsame
    rw [State.setFrames_setFrames] at e1
    have h2 : (T.setVm s.vm).sameButNew ({ U with vm := s.vm } : State) [] (0 + 1) (0 + 6) := ⟨e1, e2⟩
    have h3 := X.same.trans h2
    rw [List.append_nil] at h3
    exact h3.mono hc hs
  refine ⟨U, ?_, .threw T.heap.size, hrun, hend, Or.inr ⟨T.heap.size, rfl, cls, ce, locs, hx U hWs.alike f1 (fun q hq => f2 q hq (fun z hz => nomatch hz)), hce, hO.vm, hcl, hWs, hall, hf⟩⟩
  refine st1 _ ?_
  show Steps p.tables e below (T1.setTop { method := m, pc := pc + 3, locals := ls, stack := .ref T.heap.size :: rest, locked := none }) _
  jvm_step X₁.here [X₁.here.top, hexec, d3', Value.category]
  exact X₁.ldcStringW hexec (own := own) (text := text) (index := is) (a := sa) hown' hstr'.1 hstr'.2
    (g := { method := m, pc := pc + 4, locals := ls, stack := .ref T.heap.size :: .ref T.heap.size :: rest, locked := none }) rfl d4' _ hsteps
end Ends
section Bodies
variable {l : Launch}
theorem vx_ofW {y : MethodName} {ws ws' : List Cond} {rm : Room} {Pc : Array Value → State → Prop} {Qc : Array Value → State → Outcome → State → Prop} {XC : String → State → State → Prop} {mc ms : Nat} {free : Addr → Prop} {cc : ByteArray} {maxL : Nat} {ret : Option FieldType}
    (hy : plainName y.cls = true) (hw : ws = Cond.code y cc maxL ret :: ws')
    (body : ∀ p e s m args below meth c s₁, BodyLoose p l y (headSpec ws rm) cc maxL ret e s m args below meth c s₁ → c.maxLocals = maxL → (∀ x ∈ c.exceptionTable.toList, False) → Pc args s →
      W p l e (headSpec ws rm).room s m args below meth c s.heap [] 0 0 (vx_MQ below Qc XC args s mc ms free) (entryFrame m args maxL)) : vx_Met l y ws rm Pc Qc XC mc ms free := by
  refine MetFree.of_bodyS (code := cc) (maxLocals := maxL) (ret := ret) hy ?_ ?_
  · intro args s m h hn
    obtain ⟨meth, c, h1, h2, h3, h4, h5, h6, -, -⟩ := Cond.code_spec hn (atoms_spec (ws := ws) h _ (by rw [hw]; exact List.mem_cons_self))
    exact ⟨meth, c, h1, h2, h3, h4, h5, h6⟩
  · intro p e s m args below meth c s₁ B hml hP _
    have hh0 : s₁.heap = s.heap := by rw [B.state]; rfl
    have ht : ∀ x ∈ c.exceptionTable.toList, False := by
      obtain ⟨meth9, c9, h1, h2, -, -, -, -, h7, -⟩ := Cond.code_spec B.named (atoms_spec (ws := ws) B.pre _ (by rw [hw]; exact List.mem_cons_self))
      cases Option.some.inj (h1.symm.trans B.method)
      cases Option.some.inj (h2.symm.trans (Stand.of_body B).code)
      intro x hx
      rw [Array.isEmpty_iff.mp h7] at hx
      cases hx
    obtain ⟨t, a1, o, b1, b2, b3⟩ := body p e s m args below meth c s₁ B hml ht hP s₁ hh0 (Stand.of_body B)
    exact ⟨t, o, a1, b1, b2, b3⟩
/-- the table of a body with handlers -/
theorem vx_table {p : Program} {x y : MethodName} {S : Spec} {cc bytes : ByteArray} {maxL maxL' : Nat} {ret ret' : Option FieldType} {e : Env} {s s₁ : State} {m : MethodId} {args : Array Value} {below : List Frame} {meth : Method} {c : Code} {hh : List (Nat × Nat × Nat × Nat)}
    (B : BodyLoose p l y S cc maxL ret e s m args below meth c s₁) (h : (Cond.codeWith y bytes maxL' ret' hh).before args s = true) : c.exceptionTable.toList = tableOf hh := by
  obtain ⟨m9, meth9, c9, hn9, h1, h2, -, -, h6, -⟩ := Cond.codeWith_spec h
  cases Option.some.inj (hn9.symm.trans B.named)
  cases Option.some.inj (h1.symm.trans B.method)
  cases Option.some.inj (h2.symm.trans (Stand.of_body B).code)
  rw [← h6, table_eq]
end Bodies
end VXA
/-! ===== END ===== -/
/-! ===== BEGIN a static call of a method with an exception table ===== -/
section VXS
variable {p : Program} {l : Launch} {e : Env} {R : Room} {s : State} {m : MethodId} {args : Array Value} {below : List Frame} {meth : Method} {c : Code} {T : State} {H : Heap} {locs : List Loc} {cells slots : Nat}
abbrev vx_CSW (R : Room) (s : State) (args : Array Value) (own : String) (index : Nat) (y : MethodName) (bytes : ByteArray) (maxL : Nat) (ret : Option FieldType) (hh : List (Nat × Nat × Nat × Nat)) (ws : List Cond) (rm : Room) (mc ms n : Nat) : Prop :=
  (rm.cells = mc ∧ rm.slots = ms ∧ rm.frames + 1 ≤ R.frames ∧ 8 + (maxL + 11) + rm.locals ≤ R.locals ∧ (∀ w ∈ ws, ∀ (a' : Array Value) (U : State), s.WarmedH U.vm → w.before a' U = true) ∧ Cond.codeWith y bytes maxL ret hh ∈ ws) ∧
  (Cond.codeWith y bytes maxL ret hh).before args s = true ∧ (Cond.initialized y.cls).before args s = true ∧ (y.cls ≠ "java/lang/invoke/MethodHandle" ∧ y.cls ≠ "java/lang/invoke/VarHandle") ∧
  (∀ sig, parseMethodDescriptor y.desc = some sig → n = sig.parameters.length) ∧ (Cond.methodLink own index y).before args s = true ∧ (Cond.static y).before args s = true
theorem vx_cwSW {own : String} {index maxL mc ms : Nat} {y : MethodName} {bytes : ByteArray} {ret : Option FieldType} {hh : List (Nat × Nat × Nat × Nat)} {Ts ws ws' : List Cond} {rm : Room} (n : Nat) (ht : ∀ w ∈ Ts, w.before args s = true) (hT : GoodIn Ts (va_wsS own index y ws)) (hw : ws = Cond.codeWith y bytes maxL ret hh :: ws') (hrc : rm.cells = mc) (hrs : rm.slots = ms)
    (hd : y.cls ≠ "java/lang/invoke/MethodHandle" ∧ y.cls ≠ "java/lang/invoke/VarHandle" ∧ (parseMethodDescriptor y.desc).map (fun d => d.parameters.length) = some n) (hR : rm.frames + 1 ≤ R.frames ∧ 8 + (maxL + 11) + rm.locals ≤ R.locals) :
    vx_CSW R s args own index y bytes maxL ret hh ws rm mc ms n := by
  have ok : ∀ w ∈ va_wsS own index y ws, w.before args s = true := fun w h => ht w (hT w h).1
  have hG : GoodIn Ts ws := fun w h => hT w (by unfold va_wsS; exact List.mem_append_right _ h)
  have hc : Cond.codeWith y bytes maxL ret hh ∈ ws := by rw [hw]; exact List.mem_cons_self
  refine ⟨⟨hrc, hrs, hR.1, hR.2, pay_in ht hG, hc⟩, ht _ (hG _ hc).1, ok _ (by simp [va_wsS]), ⟨hd.1, hd.2.1⟩, fun sig h => ?_, ok _ (by simp [va_wsS]), ok _ (by simp [va_wsS])⟩
  have h2 := hd.2.2
  rw [h] at h2
  exact (Option.some.inj h2).symm
theorem vx_callSW (X : Stand p l e R s m args below meth c T locs cells slots) (hexec : p.tables.exec = Jvm.exec) {own : String} {index : Nat} {y : MethodName} {bytes : ByteArray} {maxL : Nat} {ret : Option FieldType} {hh : List (Nat × Nat × Nat × Nat)}
    (hown : s.vm.findClass own = some m.cls) (hlink : (Cond.methodLink own index y).before args s = true) (hstat : (Cond.static y).before args s = true) (hinit : (Cond.initialized y.cls).before args s = true)
    (hcode : (Cond.codeWith y bytes maxL ret hh).before args s = true) (hy : y.cls ≠ "java/lang/invoke/MethodHandle" ∧ y.cls ≠ "java/lang/invoke/VarHandle")
    {W9 : Nat} {Pre : Pt → Array Value → Prop} {Post : Pt → Array Value → Option Value → Pt → Prop} (hK : Back l R p e below s args y 3 W9 Pre Post)
    {g : JFrame} (hg : g.method = m) (hsize : g.locals.size = c.maxLocals) {argsL rest : List Value} (hlen : ∀ sig, parseMethodDescriptor y.desc = some sig → argsL.length = sig.parameters.length)
    (hstack : g.stack = argsL.reverse ++ rest) (hW : 2 * g.monitorRoom + (rest.map fun v => v.category).sum ≤ W9) (hdg : decode c.code g.pc = .ok (.invokestatic index, 3))
    (hpre : ∀ vm₁, s.WarmedH vm₁ → Pre ⟨T.setVm vm₁, locs, cells, slots⟩ argsL.toArray) :
    ∃ (v : Option Value) (vm₁ : Vm) (B : Pt), s.WarmedH vm₁ ∧ Stand p l e R s m args below meth c B.U B.locs B.cells B.slots ∧ Post ⟨T.setVm vm₁, locs, cells, slots⟩ argsL.toArray v B ∧
      ∀ target, Steps p.tables e below (B.U.setTop { g with pc := g.pc + 3, stack := v.toList ++ rest }) target → Steps p.tables e below (T.setTop g) target := by
  obtain ⟨mk, methM, cM, hnamed, hmethM, -, -, -, -, -, -, hsigM⟩ := Cond.codeWith_spec hcode
  have hstatic : methM.isStatic = true := Cond.static_spec hnamed hmethM hstat
  obtain ⟨kP, hkP, -⟩ := className_of_methodNamed hnamed
  have hinitP : kP.init = .initialized := Cond.initialized_spec (findClass_of_methodNamed hnamed) hkP hinit
  obtain ⟨vm₁, X₁, hstep₁⟩ := X.invokestatic hexec hown hlink hnamed hmethM hstatic hkP hinitP hy (g := g) hg (argsL := argsL) (rest := rest) (hlen _ hsigM) hstack hdg
  obtain ⟨v, B, X', hpost, hsteps⟩ := hK m meth c ⟨T.setVm vm₁, locs, cells, slots⟩ { g with stack := rest } (.invokestatic index) mk argsL.toArray X₁ hg hsize hdg hW (X₁.named hnamed) (hpre vm₁ X₁.warmed)
  exact ⟨v, vm₁, B, X₁.warmed, X', hpost, fun target h => hstep₁ _ fun acts => by rw [doInvoke_state]; exact hsteps.trans h⟩
theorem vx_runSW {y : MethodName} {bytes cc : ByteArray} {maxL nL mc ms n index : Nat} {ret : Option FieldType} {hh : List (Nat × Nat × Nat × Nat)} {ws : List Cond} {rm : Room} {Pc : Array Value → State → Prop} {Qc : Array Value → State → Outcome → State → Prop} {free : Addr → Prop} {Ts : List Cond} {own : String} {As rest : List Value} {g : JFrame}
    (S : CallFix p m c cc nL s args Ts own) (hM : Met l y ws rm Pc Qc mc ms free) (cw : vx_CSW R s args own index y bytes maxL ret hh ws rm mc ms n) (hp : PreS s H Pc As)
    (hg : g.method = m) (hn : As.length = n) (hsize : g.locals.size = nL) (hstack : g.stack = As.reverse ++ rest) (hW : 2 * g.monitorRoom + (rest.map fun v => v.category).sum ≤ 8) (hdg : decode cc g.pc = .ok (.invokestatic index, 3)) (hf : cells + mc ≤ R.cells ∧ slots + ms ≤ R.slots) :
    va_Run p l e R s m args below meth c H locs cells slots mc ms g rest (Qc As.toArray) (free) := by
  obtain ⟨⟨hrc, hrs, hfr, hlo, hws, hcw⟩, hcode, hini, hy, hlen, hl, hstt⟩ := cw
  have hK : Back l R p e below s args y 3 8 (PreOf R mc ms Pc) (PostOf Qc mc ms free) := va_backW (hh := hh) (bytes := bytes) (maxL := maxL) (ret := ret) hM hp.1 hrc hrs hfr hlo hws hcw (fun a' U hW => word_at hW (Or.inl (by first | rfl | simp [Cond.onTables, Cond.keeps, Cond.steady])) hini)
  obtain ⟨hx, hb, hml, ho, -⟩ := S
  intro T hT X
  obtain ⟨v, vm₁, ⟨U', l2, c2, s2⟩, hW₁, X', ⟨g', mk, t, L, e1, e2, hq, h1, hL, h2, h3⟩, st⟩ := vx_callSW X hx (hh := hh) (bytes := bytes) (maxL := maxL) (ret := ret) ho hl hstt hini hcode hy hK hg (hsize.trans hml.symm) (argsL := As) (rest := rest) (fun sig h => hn.trans (hlen sig h)) hstack hW (by rw [hb]; exact hdg)
    (fun vm₁ hW₁ => ⟨hf.1, hf.2, hp.2 (T.setVm vm₁) hT hW₁⟩)
  dsimp only [Pt.U, Pt.locs, Pt.cells, Pt.slots] at X' e1 e2 h1 h2 h3 st
  subst h1; subst h2; subst h3
  exact ⟨v, (T.setVm vm₁).calling g' mk As.toArray, t, U', L, hT, X', hL, e1, e2, hq, st⟩
/-- not caught here, past rows that name other classes: it goes on to the caller -/
theorem vx_outP {p : Program} {l : Launch} {e : Env} {R : Room} {s : State} {m : MethodId} {args : Array Value} {below : List Frame} {meth : Method} {c : Code} {H : Heap} {locs : List Loc} {cells slots : Nat} {free : Addr → Prop} {ls : Array Slot} {rest : List Value} {Qc : Array Value → State → Outcome → State → Prop} {XC : String → State → State → Prop}
    {pc : Nat} {own E : String} {ce : Cell} {q : Addr} {mc ms : Nat} (hown : s.vm.findClass own = some m.cls) (hlocks : meth.locks = false)
    (hpass : ∀ z ∈ c.exceptionTable.toList, covers z pc = false ∨ (z.catchType ≠ 0 ∧ ∃ nm : String, (Cond.classLink own z.catchType nm).before args s = true ∧ va_Nc E nm s)) (hcell : H[q]? = some ce) (hv : ce.vm = .none) (hcl : s.vm.findClass E = some ce.cls)
    (hx : ∀ t : State, t.heap = H → s.vm.Alike t.vm → XC E s t) (hf : ∀ z ∈ locs, free z.base) (hc : cells ≤ mc) (hs : slots ≤ ms) :
    vx_W p l e R s m args below meth c H locs cells slots (vx_MQ below Qc XC args s mc ms free) (F0 m pc ls rest) q := by
  intro T hT X
  have hpl : e.platform.magicAccessors = ({} : Platform).magicAccessors := by rw [X.admits.platform]
  obtain ⟨vm', hW', X', st⟩ := X.outThrough hlocks q (g := F0 m pc ls rest) rfl rfl rfl (cell := ce) (by rw [hT]; exact hcell) (by rw [hv]; rfl)
    (by obtain ⟨k9, h9, -⟩ := Vm.findClass_spec hcl; exact ⟨k9, h9⟩) (fun z hz => by
      rcases hpass z hz with h | ⟨hz0, nm, hl1, hn1⟩
      · exact Or.inl h
      · obtain ⟨c6, hc6, hcl6⟩ := Cond.classLink_spec hown hl1 e.platform hpl
        obtain ⟨a8, b8, h1, h2, h3⟩ := hn1
        cases Option.some.inj (h1.symm.trans hcl)
        cases Option.some.inj (h2.symm.trans hc6)
        exact Or.inr ⟨hz0, _, hcl6, h3⟩)
  obtain ⟨g₀, hfr⟩ := X'.frames_eq
  have hcell9 : ((T.setVm vm').setFrames (.throwing q :: below)).heap[q]? = some ce := by
    show T.heap[q]? = some ce
    rw [hT]; exact hcell
  have hend : Ended ((T.setVm vm').setFrames (.throwing q :: below)) below (.threw q) := State.frames_setFrames _ (State.cur_lt_of_frames hfr)
  refine ⟨(T.setVm vm').setFrames (.throwing q :: below), ?_, .threw q, X'.here.running, hend, Or.inr ⟨q, rfl, E, ce, locs, hx _ hT (X'.ends _).1.alike, hcell9, hv, hcl, (X'.ends _).1, (X'.ends _).2.mono hc hs, hf⟩⟩
  rw [X.pushThrowing_eq]
  exact st
/-- a thing of a world lies in the heap -/
theorem vx_lt {D : va_G} {cl : List vw_C} {ws : va_W} {H1 : Heap} (h : va_P D cl ws H1) {k : Nat} {q : Nat × va_E} (hk : ws[k]? = some q) : q.1 < H1.size := (h k q hk).lt
end VXS
/-! ===== END ===== -/
/-! ===== BEGIN methods with a table of their own: called by a name, returning or throwing ===== -/
section VXH
/-! vx_backW, vx_callVX, vx_callSX, vx_callVW, vx_runVW, vx_runVX, vx_runSX, vx_ofWH follow the same proofs as their sisters above (Free/Laws.lean, Shelf42/LK1.lean); vx_outP calls Shelf42/NT130.lean (outThrough). -/
section
variable {l : Launch} {R : Room} {p : Program} {e : Env} {below : List Frame} {s : State} {sargs : Array Value} {y : MethodName} {len W9 : Nat}
theorem vx_backW {ws : List Cond} {rm : Room} {Pc : Array Value → State → Prop} {Qc : Array Value → State → Outcome → State → Prop} {XC : String → State → State → Prop} {mc ms : Nat} {free : Addr → Prop} {bytes : ByteArray} {maxL : Nat} {ret : Option FieldType} {hh : List (Nat × Nat × Nat × Nat)}
    (hM : vx_Met l y ws rm Pc Qc XC mc ms free) (hblind : FrameBlind Pc) (hrc : rm.cells = mc) (hrs : rm.slots = ms)
    (hframes : rm.frames + 1 ≤ R.frames) (hlocals : W9 + (maxL + 11) + rm.locals ≤ R.locals)
    (hws : ∀ w ∈ ws, ∀ a' U, s.WarmedH U.vm → w.before a' U = true) (hcode : Cond.codeWith y bytes maxL ret hh ∈ ws) (hinit : ∀ a' U, s.WarmedH U.vm → (Cond.initialized y.cls).before a' U = true) :
    vx_Back l R p e below s sargs y len W9 (PreOf R mc ms Pc) (PostOf Qc mc ms free) (vx_Post XC mc ms free) := by
  intro m meth c A g ig mk a X hg hsize hdg hW hn hp
  have h1 : (headSpec ws rm).pre.before a A.U = true := atoms_intro fun w hw => hws w hw _ _ X.warmed
  have h2 : (Cond.codeWith y bytes maxL ret hh).before a A.U = true := hws _ hcode _ _ X.warmed
  have h3 : (Cond.initialized y.cls).before a A.U = true := hinit _ _ X.warmed
  have h4 : A.cells + (headSpec ws rm).room.cells ≤ R.cells := by rw [show (headSpec ws rm).room.cells = mc from hrc]; exact hp.1
  have h5 : A.slots + (headSpec ws rm).room.slots ≤ R.slots := by rw [show (headSpec ws rm).room.slots = ms from hrs]; exact hp.2.1
  have hPc : Pc a (A.U.calling g mk a) := hblind _ _ _ _ hp.2.2
  obtain ⟨U, Ls, c0, s0⟩ := A
  dsimp only [Pt.U, Pt.locs, Pt.cells, Pt.slots] at h1 h2 h3 h4 h5 X hn hPc ⊢
  obtain ⟨m9, methY, cY, hn9, hmY, hcY, -, hlY, -⟩ := Cond.codeWith_spec h2
  cases Option.some.inj (hn9.symm.trans hn)
  obtain ⟨kY, hkY, -⟩ := className_of_methodNamed hn
  have hinitY : kY.init = .initialized := Cond.initialized_spec (findClass_of_methodNamed hn) hkY h3
  have h : At U g.method c below := by rw [hg]; exact X.here
  have hlocals9 : W9 + (maxL + 11) + (headSpec ws rm).room.locals ≤ R.locals := hlocals
  have happ : (headSpec ws rm).appliesLoose y e.platform (U.calling g mk a) = true :=
    Spec.appliesLoose_calling (g := g) h hdg hn hkY hinitY
      (X.room_calling (g := g) (R' := (headSpec ws rm).room) hsize hmY hcY hframes (by rw [hlY]; omega) h4 h5) h1
  obtain ⟨mid, hmid⟩ := h.above
  have hfr : (U.setTop g).frames = (.java g :: mid) ++ below := by rw [State.frames_setTop' g h.top, hmid]; rfl
  obtain ⟨o, s₂, hsteps, -, hend, hq⟩ := Steps.callFree hM p X.admits X.cas X.clock (acts := []) hfr happ hPc trivial
  have hq' : vx_Q Qc XC mc ms free a (U.calling g mk a) o s₂ := hq
  rw [State.frames_setTop' g h.top] at hend
  obtain ⟨g₀, hg0⟩ := Option.isSome_iff_exists.mp h.top
  obtain ⟨r, hr⟩ := State.topJava?_eq_some.mp hg0
  have hr' : (({ U with heap := s₂.heap, slotsUsed := s₂.slotsUsed } : State).setVm s₂.vm).frames = .java g₀ :: r := hr
  rcases hq' with ⟨hqc, L, hfe, hL⟩ | ⟨q, rfl, E, ce, L, hx, hce, hcv, hcl, hW₂, hsm, hL⟩
  · obtain ⟨⟨v, rfl⟩, hW₂, e2, q2, q3, q4, q5, q6⟩ := id hfe
    have e3 : s₂ = ({ (U.calling g mk a).setFrames s₂.frames with heap := s₂.heap, slotsUsed := s₂.slotsUsed } : State).setVm s₂.vm := by
      have : s₂ = ({ s₂ with vm := (U.calling g mk a).vm } : State).setVm s₂.vm := rfl
      rw [e2] at this
      exact this
    obtain ⟨c₂, i₂, len₂, hc₂, hd₂, hf₂⟩ := hend
    have hW' : U.WarmedH s₂.vm := hW₂
    have hcc : c₂ = c := by
      have h1 : s₂.code? g.method = U.code? g.method := by
        rw [State.code?_eq, State.code?_eq, hW'.alike.method?]
      exact Option.some.inj (hc₂.symm.trans (h1.trans h.code))
    subst hcc
    have hlen : len₂ = len := by rw [hdg] at hd₂; cases hd₂; rfl
    subst hlen
    have hs₂ : s₂ = (({ U with heap := s₂.heap, slotsUsed := s₂.slotsUsed } : State).setVm s₂.vm).setTop { g with pc := g.pc + len₂, stack := v.toList ++ g.stack } := by
      refine e3.trans ?_
      rw [hf₂, State.calling_eq h.top, State.setFrames_setFrames, State.setTop_of_frames _ hr', hr]
      rfl
    have hsame : U.sameButNew ({ U with heap := s₂.heap, slotsUsed := s₂.slotsUsed } : State) L mc ms := by
      refine ⟨?_, q2, q3, q4, q5, q6⟩
      obtain ⟨t, ht, -⟩ := State.frames_cons hr
      show ({ U with heap := s₂.heap, slotsUsed := s₂.slotsUsed } : State) = { U.setFrames U.frames with heap := s₂.heap, slotsUsed := s₂.slotsUsed }
      rw [State.setFrames_self ht]
    subst hg
    refine Or.inl ⟨v, ⟨(({ U with heap := s₂.heap, slotsUsed := s₂.slotsUsed } : State).setVm s₂.vm), Ls ++ L, c0 + mc, s0 + ms⟩,
      ⟨X.admits, X.cas, X.clock, X.frames, X.room, X.hears, X.method, X.code, (X.here.setHeapUsed s₂.heap s₂.slotsUsed).setVm hW'.alike, X.tail, State.WarmedH.trans X.warmed hW', X.limits, X.bytes, X.same.trans (hsame.setVm s.vm)⟩,
      ⟨g, mk, s₂, L, rfl, rfl, hqc, rfl, hL, rfl, rfl⟩, ?_⟩
    show Steps p.tables e below _ ((({ U with heap := s₂.heap, slotsUsed := s₂.slotsUsed } : State).setVm s₂.vm).setTop { g with pc := g.pc + len₂, stack := v.toList ++ g.stack })
    rw [← hs₂]
    exact hsteps
  · obtain ⟨e2, q2, q3, q4, q5, q6⟩ := id hsm
    have e3 : s₂ = ({ (U.calling g mk a).setFrames s₂.frames with heap := s₂.heap, slotsUsed := s₂.slotsUsed } : State).setVm s₂.vm := by
      have : s₂ = ({ s₂ with vm := (U.calling g mk a).vm } : State).setVm s₂.vm := rfl
      rw [e2] at this
      exact this
    have hf₂ : s₂.frames = .throwing q :: .java g :: U.frames.tail := hend
    have hW' : U.WarmedH s₂.vm := hW₂
    have hs₂ : s₂ = ((({ U with heap := s₂.heap, slotsUsed := s₂.slotsUsed } : State).setVm s₂.vm).setTop g).pushFrame (.throwing q) := by
      refine e3.trans ?_
      rw [hf₂, State.calling_eq h.top, State.setFrames_setFrames, State.pushFrame, State.frames_setTop _ hr', State.setTop_of_frames _ hr', State.setFrames_setFrames, hr]
      rfl
    have hsame : U.sameButNew ({ U with heap := s₂.heap, slotsUsed := s₂.slotsUsed } : State) L mc ms := by
      refine ⟨?_, q2, q3, q4, q5, q6⟩
      obtain ⟨t, ht, -⟩ := State.frames_cons hr
      show ({ U with heap := s₂.heap, slotsUsed := s₂.slotsUsed } : State) = { U.setFrames U.frames with heap := s₂.heap, slotsUsed := s₂.slotsUsed }
      rw [State.setFrames_self ht]
    subst hg
    refine Or.inr ⟨q, ⟨(({ U with heap := s₂.heap, slotsUsed := s₂.slotsUsed } : State).setVm s₂.vm), Ls ++ L, c0 + mc, s0 + ms⟩,
      ⟨X.admits, X.cas, X.clock, X.frames, X.room, X.hears, X.method, X.code, (X.here.setHeapUsed s₂.heap s₂.slotsUsed).setVm hW'.alike, X.tail, State.WarmedH.trans X.warmed hW', X.limits, X.bytes, X.same.trans (hsame.setVm s.vm)⟩,
      ⟨g, mk, s₂, L, E, ce, rfl, rfl, hx, hce, hcv, hcl, rfl, hL, rfl, rfl⟩, ?_⟩
    show Steps p.tables e below _ (((({ U with heap := s₂.heap, slotsUsed := s₂.slotsUsed } : State).setVm s₂.vm).setTop g).pushFrame (.throwing q))
    rw [← hs₂]
    exact hsteps
end
variable {p : Program} {l : Launch} {e : Env} {R : Room} {s : State} {m : MethodId} {args : Array Value} {below : List Frame} {meth : Method} {c : Code} {T : State} {H : Heap} {locs : List Loc} {cells slots : Nat}
theorem vx_callVX (X : Stand p l e R s m args below meth c T locs cells slots) (hexec : p.tables.exec = Jvm.exec) {own C : String} {index : Nat} {y : MethodName} {bytes : ByteArray} {maxL : Nat} {ret : Option FieldType} {hh : List (Nat × Nat × Nat × Nat)}
    (hown : s.vm.findClass own = some m.cls) (hlink : (Cond.methodLink own index y).before args s = true) (hinst : (Cond.instanceMethod y).before args s = true) (hsel : (Cond.selects C y y).before args s = true)
    (hcode : (Cond.codeWith y bytes maxL ret hh).before args s = true) (hy : y.cls ≠ "java/lang/invoke/MethodHandle" ∧ y.cls ≠ "java/lang/invoke/VarHandle")
    {W9 : Nat} {Pre : Pt → Array Value → Prop} {Post : Pt → Array Value → Option Value → Pt → Prop} {PostX : Pt → Array Value → Addr → Pt → Prop} (hK : vx_Back l R p e below s args y 3 W9 Pre Post PostX)
    {b : Addr} {cellB : Cell} (hcell : T.heap[b]? = some cellB) (hobj : cellB.vm.isStatics = false) (hcls : s.vm.findClass C = some cellB.cls)
    {g : JFrame} (hg : g.method = m) (hsize : g.locals.size = c.maxLocals) {argsL rest : List Value} (hlen : ∀ sig, parseMethodDescriptor y.desc = some sig → argsL.length = sig.parameters.length)
    (hstack : g.stack = argsL.reverse ++ .ref b :: rest) (hW : 2 * g.monitorRoom + (rest.map fun v => v.category).sum ≤ W9) (hdg : decode c.code g.pc = .ok (.invokevirtual index, 3))
    (hpre : ∀ vm₁, s.WarmedH vm₁ → Pre ⟨T.setVm vm₁, locs, cells, slots⟩ (Value.ref b :: argsL).toArray) :
    (∃ (v : Option Value) (vm₁ : Vm) (B : Pt), s.WarmedH vm₁ ∧ Stand p l e R s m args below meth c B.U B.locs B.cells B.slots ∧ Post ⟨T.setVm vm₁, locs, cells, slots⟩ (Value.ref b :: argsL).toArray v B ∧
      ∀ target, Steps p.tables e below (B.U.setTop { g with pc := g.pc + 3, stack := v.toList ++ rest }) target → Steps p.tables e below (T.setTop g) target) ∨
    (∃ (q : Addr) (vm₁ : Vm) (B : Pt), s.WarmedH vm₁ ∧ Stand p l e R s m args below meth c B.U B.locs B.cells B.slots ∧ PostX ⟨T.setVm vm₁, locs, cells, slots⟩ (Value.ref b :: argsL).toArray q B ∧
      Steps p.tables e below (T.setTop g) ((B.U.setTop { g with stack := rest }).pushFrame (.throwing q))) := by
  obtain ⟨mk, methM, hnamed, hmethM, hstM, habM⟩ := Cond.instanceMethod_spec hinst
  obtain ⟨m8, methM', cM, hn8, hmethM', -, -, -, -, -, -, hsigM⟩ := Cond.codeWith_spec hcode
  cases Option.some.inj (hn8.symm.trans hnamed)
  cases hmethM.symm.trans hmethM'
  obtain ⟨c2, r2, m2, q1, q2, q3, q4, kP, hkP, hkPi⟩ := Cond.selects_spec hsel
  cases hcls.symm.trans q1
  cases (State.methodFound?_of_named hnamed hy).symm.trans q2
  cases hnamed.symm.trans q3
  have hselP : selectMethod e.platform s.vm cellB.cls mk = .method mk := by rw [Launch.admits_selectMethod X.admits]; exact q4
  obtain ⟨vm₁, X₁, hstep₁⟩ := X.invokevirtual hexec hown hlink hnamed hmethM hstM hkP hkPi hy (a := b) (cell := cellB) hcell
    (fun z h => by rw [h] at hobj; cases hobj) hselP hmethM habM hkP hkPi (g := g) hg (argsL := argsL) (rest := rest) (hlen _ hsigM) hstack hdg
  rcases hK m meth c ⟨T.setVm vm₁, locs, cells, slots⟩ { g with stack := rest } (.invokevirtual index) mk (Value.ref b :: argsL).toArray X₁ hg hsize hdg hW (X₁.named hnamed) (hpre vm₁ X₁.warmed) with ⟨v, B, X', hpost, hsteps⟩ | ⟨q, B, X', hpost, hsteps⟩
  · exact Or.inl ⟨v, vm₁, B, X₁.warmed, X', hpost, fun target h => hstep₁ _ fun acts => by rw [doInvoke_state]; exact hsteps.trans h⟩
  · exact Or.inr ⟨q, vm₁, B, X₁.warmed, X', hpost, hstep₁ _ fun acts => by rw [doInvoke_state]; exact hsteps⟩
theorem vx_callSX (X : Stand p l e R s m args below meth c T locs cells slots) (hexec : p.tables.exec = Jvm.exec) {own : String} {index : Nat} {y : MethodName} {bytes : ByteArray} {maxL : Nat} {ret : Option FieldType} {hh : List (Nat × Nat × Nat × Nat)}
    (hown : s.vm.findClass own = some m.cls) (hlink : (Cond.methodLink own index y).before args s = true) (hstat : (Cond.static y).before args s = true) (hinit : (Cond.initialized y.cls).before args s = true)
    (hcode : (Cond.codeWith y bytes maxL ret hh).before args s = true) (hy : y.cls ≠ "java/lang/invoke/MethodHandle" ∧ y.cls ≠ "java/lang/invoke/VarHandle")
    {W9 : Nat} {Pre : Pt → Array Value → Prop} {Post : Pt → Array Value → Option Value → Pt → Prop} {PostX : Pt → Array Value → Addr → Pt → Prop} (hK : vx_Back l R p e below s args y 3 W9 Pre Post PostX)
    {g : JFrame} (hg : g.method = m) (hsize : g.locals.size = c.maxLocals) {argsL rest : List Value} (hlen : ∀ sig, parseMethodDescriptor y.desc = some sig → argsL.length = sig.parameters.length)
    (hstack : g.stack = argsL.reverse ++ rest) (hW : 2 * g.monitorRoom + (rest.map fun v => v.category).sum ≤ W9) (hdg : decode c.code g.pc = .ok (.invokestatic index, 3))
    (hpre : ∀ vm₁, s.WarmedH vm₁ → Pre ⟨T.setVm vm₁, locs, cells, slots⟩ argsL.toArray) :
    (∃ (v : Option Value) (vm₁ : Vm) (B : Pt), s.WarmedH vm₁ ∧ Stand p l e R s m args below meth c B.U B.locs B.cells B.slots ∧ Post ⟨T.setVm vm₁, locs, cells, slots⟩ argsL.toArray v B ∧
      ∀ target, Steps p.tables e below (B.U.setTop { g with pc := g.pc + 3, stack := v.toList ++ rest }) target → Steps p.tables e below (T.setTop g) target) ∨
    (∃ (q : Addr) (vm₁ : Vm) (B : Pt), s.WarmedH vm₁ ∧ Stand p l e R s m args below meth c B.U B.locs B.cells B.slots ∧ PostX ⟨T.setVm vm₁, locs, cells, slots⟩ argsL.toArray q B ∧
      Steps p.tables e below (T.setTop g) ((B.U.setTop { g with stack := rest }).pushFrame (.throwing q))) := by
  obtain ⟨mk, methM, cM, hnamed, hmethM, -, -, -, -, -, -, hsigM⟩ := Cond.codeWith_spec hcode
  have hstatic : methM.isStatic = true := Cond.static_spec hnamed hmethM hstat
  obtain ⟨kP, hkP, -⟩ := className_of_methodNamed hnamed
  have hinitP : kP.init = .initialized := Cond.initialized_spec (findClass_of_methodNamed hnamed) hkP hinit
  obtain ⟨vm₁, X₁, hstep₁⟩ := X.invokestatic hexec hown hlink hnamed hmethM hstatic hkP hinitP hy (g := g) hg (argsL := argsL) (rest := rest) (hlen _ hsigM) hstack hdg
  rcases hK m meth c ⟨T.setVm vm₁, locs, cells, slots⟩ { g with stack := rest } (.invokestatic index) mk argsL.toArray X₁ hg hsize hdg hW (X₁.named hnamed) (hpre vm₁ X₁.warmed) with ⟨v, B, X', hpost, hsteps⟩ | ⟨q, B, X', hpost, hsteps⟩
  · exact Or.inl ⟨v, vm₁, B, X₁.warmed, X', hpost, fun target h => hstep₁ _ fun acts => by rw [doInvoke_state]; exact hsteps.trans h⟩
  · exact Or.inr ⟨q, vm₁, B, X₁.warmed, X', hpost, hstep₁ _ fun acts => by rw [doInvoke_state]; exact hsteps⟩
theorem vx_callVW (X : Stand p l e R s m args below meth c T locs cells slots) (hexec : p.tables.exec = Jvm.exec) {own C : String} {index : Nat} {y : MethodName} {bytes : ByteArray} {maxL : Nat} {ret : Option FieldType} {hh : List (Nat × Nat × Nat × Nat)}
    (hown : s.vm.findClass own = some m.cls) (hlink : (Cond.methodLink own index y).before args s = true) (hinst : (Cond.instanceMethod y).before args s = true) (hsel : (Cond.selects C y y).before args s = true)
    (hcode : (Cond.codeWith y bytes maxL ret hh).before args s = true) (hy : y.cls ≠ "java/lang/invoke/MethodHandle" ∧ y.cls ≠ "java/lang/invoke/VarHandle")
    {W9 : Nat} {Pre : Pt → Array Value → Prop} {Post : Pt → Array Value → Option Value → Pt → Prop} (hK : Back l R p e below s args y 3 W9 Pre Post)
    {b : Addr} {cellB : Cell} (hcell : T.heap[b]? = some cellB) (hobj : cellB.vm.isStatics = false) (hcls : s.vm.findClass C = some cellB.cls)
    {g : JFrame} (hg : g.method = m) (hsize : g.locals.size = c.maxLocals) {argsL rest : List Value} (hlen : ∀ sig, parseMethodDescriptor y.desc = some sig → argsL.length = sig.parameters.length)
    (hstack : g.stack = argsL.reverse ++ .ref b :: rest) (hW : 2 * g.monitorRoom + (rest.map fun v => v.category).sum ≤ W9) (hdg : decode c.code g.pc = .ok (.invokevirtual index, 3))
    (hpre : ∀ vm₁, s.WarmedH vm₁ → Pre ⟨T.setVm vm₁, locs, cells, slots⟩ (Value.ref b :: argsL).toArray) :
    ∃ (v : Option Value) (vm₁ : Vm) (B : Pt), s.WarmedH vm₁ ∧ Stand p l e R s m args below meth c B.U B.locs B.cells B.slots ∧ Post ⟨T.setVm vm₁, locs, cells, slots⟩ (Value.ref b :: argsL).toArray v B ∧
      ∀ target, Steps p.tables e below (B.U.setTop { g with pc := g.pc + 3, stack := v.toList ++ rest }) target → Steps p.tables e below (T.setTop g) target := by
  obtain ⟨mk, methM, hnamed, hmethM, hstM, habM⟩ := Cond.instanceMethod_spec hinst
  obtain ⟨m8, methM', cM, hn8, hmethM', -, -, -, -, -, -, hsigM⟩ := Cond.codeWith_spec hcode
  cases Option.some.inj (hn8.symm.trans hnamed)
  cases hmethM.symm.trans hmethM'
  obtain ⟨c2, r2, m2, q1, q2, q3, q4, kP, hkP, hkPi⟩ := Cond.selects_spec hsel
  cases hcls.symm.trans q1
  cases (State.methodFound?_of_named hnamed hy).symm.trans q2
  cases hnamed.symm.trans q3
  have hselP : selectMethod e.platform s.vm cellB.cls mk = .method mk := by rw [Launch.admits_selectMethod X.admits]; exact q4
  obtain ⟨vm₁, X₁, hstep₁⟩ := X.invokevirtual hexec hown hlink hnamed hmethM hstM hkP hkPi hy (a := b) (cell := cellB) hcell
    (fun z h => by rw [h] at hobj; cases hobj) hselP hmethM habM hkP hkPi (g := g) hg (argsL := argsL) (rest := rest) (hlen _ hsigM) hstack hdg
  obtain ⟨v, B, X', hpost, hsteps⟩ := hK m meth c ⟨T.setVm vm₁, locs, cells, slots⟩ { g with stack := rest } (.invokevirtual index) mk (Value.ref b :: argsL).toArray X₁ hg hsize hdg hW (X₁.named hnamed) (hpre vm₁ X₁.warmed)
  exact ⟨v, vm₁, B, X₁.warmed, X', hpost, fun target h => hstep₁ _ fun acts => by rw [doInvoke_state]; exact hsteps.trans h⟩
abbrev vx_CVW (R : Room) (s : State) (args : Array Value) (own C : String) (index : Nat) (y : MethodName) (bytes : ByteArray) (maxL : Nat) (ret : Option FieldType) (hh : List (Nat × Nat × Nat × Nat)) (ws : List Cond) (rm : Room) (mc ms n : Nat) : Prop :=
  (rm.cells = mc ∧ rm.slots = ms ∧ rm.frames + 1 ≤ R.frames ∧ 8 + (maxL + 11) + rm.locals ≤ R.locals ∧ (∀ w ∈ ws, ∀ (a' : Array Value) (U : State), s.WarmedH U.vm → w.before a' U = true) ∧ Cond.codeWith y bytes maxL ret hh ∈ ws) ∧
  (Cond.codeWith y bytes maxL ret hh).before args s = true ∧ (Cond.initialized y.cls).before args s = true ∧ (y.cls ≠ "java/lang/invoke/MethodHandle" ∧ y.cls ≠ "java/lang/invoke/VarHandle") ∧
  (∀ sig, parseMethodDescriptor y.desc = some sig → n = sig.parameters.length) ∧ (Cond.methodLink own index y).before args s = true ∧ (Cond.instanceMethod y).before args s = true ∧ (Cond.selects C y y).before args s = true
theorem vx_cwVW {own C : String} {index maxL mc ms : Nat} {y : MethodName} {bytes : ByteArray} {ret : Option FieldType} {hh : List (Nat × Nat × Nat × Nat)} {Ts ws ws' : List Cond} {rm : Room} (n : Nat) (ht : ∀ w ∈ Ts, w.before args s = true) (hT : GoodIn Ts (wsV own index C y ws)) (hw : ws = Cond.codeWith y bytes maxL ret hh :: ws') (hrc : rm.cells = mc) (hrs : rm.slots = ms)
    (hd : y.cls = C ∧ y.cls ≠ "java/lang/invoke/MethodHandle" ∧ y.cls ≠ "java/lang/invoke/VarHandle" ∧ (parseMethodDescriptor y.desc).map (fun d => d.parameters.length) = some n) (hR : rm.frames + 1 ≤ R.frames ∧ 8 + (maxL + 11) + rm.locals ≤ R.locals) :
    vx_CVW R s args own C index y bytes maxL ret hh ws rm mc ms n := by
  obtain ⟨hC, hd⟩ := hd
  subst hC
  have ok : ∀ w ∈ wsV own index y.cls y ws, w.before args s = true := fun w h => ht w (hT w h).1
  have hG : GoodIn Ts ws := fun w h => hT w (by unfold wsV; exact List.mem_append_right _ h)
  have hc : Cond.codeWith y bytes maxL ret hh ∈ ws := by rw [hw]; exact List.mem_cons_self
  refine ⟨⟨hrc, hrs, hR.1, hR.2, pay_in ht hG, hc⟩, ht _ (hG _ hc).1, ok _ (by simp [wsV]), ⟨hd.1, hd.2.1⟩, fun sig h => ?_, ok _ (by simp [wsV]), ok _ (by simp [wsV]), ok _ (by simp [wsV])⟩
  have h2 := hd.2.2
  rw [h] at h2
  exact (Option.some.inj h2).symm
theorem vx_runVW {y : MethodName} {bytes cc : ByteArray} {maxL nL mc ms n index : Nat} {ret : Option FieldType} {hh : List (Nat × Nat × Nat × Nat)} {ws : List Cond} {rm : Room} {Pc : Array Value → State → Prop} {Qc : Array Value → State → Outcome → State → Prop} {free : Addr → Prop} {Ts : List Cond} {own C : String} {b : Addr} {As rest : List Value} {g : JFrame}
    (S : CallFix p m c cc nL s args Ts own) (hM : Met l y ws rm Pc Qc mc ms free) (cw : vx_CVW R s args own C index y bytes maxL ret hh ws rm mc ms n) (hp : PreV s H C b Pc As)
    (hg : g.method = m) (hn : As.length = n) (hsize : g.locals.size = nL) (hstack : g.stack = As.reverse ++ .ref b :: rest) (hW : 2 * g.monitorRoom + (rest.map fun v => v.category).sum ≤ 8) (hdg : decode cc g.pc = .ok (.invokevirtual index, 3)) (hf : cells + mc ≤ R.cells ∧ slots + ms ≤ R.slots) :
    va_Run p l e R s m args below meth c H locs cells slots mc ms g rest (Qc (Value.ref b :: As).toArray) free := by
  obtain ⟨⟨hrc, hrs, hfr, hlo, hws, hcw⟩, hcode, hini, hy, hlen, hl, hin, hse⟩ := cw
  have hK : Back l R p e below s args y 3 8 (PreOf R mc ms Pc) (PostOf Qc mc ms free) := va_backW (hh := hh) (bytes := bytes) (maxL := maxL) (ret := ret) hM hp.1 hrc hrs hfr hlo hws hcw (fun a' U hW => word_at hW (Or.inl (by first | rfl | simp [Cond.onTables, Cond.keeps, Cond.steady])) hini)
  obtain ⟨hx, hb, hml, ho, -⟩ := S
  obtain ⟨-, ⟨cellB, hcB, hoB, hclB⟩, hPc⟩ := hp
  intro T hT X
  obtain ⟨v, vm₁, ⟨U', l2, c2, s2⟩, hW₁, X', ⟨g', mk, t, L, e1, e2, hq, h1, hL, h2, h3⟩, st⟩ := vx_callVW X hx (C := C) (hh := hh) (bytes := bytes) (maxL := maxL) (ret := ret) ho hl hin hse hcode hy hK (by rw [hT]; exact hcB) hoB hclB hg (hsize.trans hml.symm) (argsL := As) (rest := rest) (fun sig h => hn.trans (hlen sig h)) hstack hW (by rw [hb]; exact hdg)
    (fun vm₁ hW₁ => ⟨hf.1, hf.2, hPc (T.setVm vm₁) hT hW₁⟩)
  dsimp only [Pt.U, Pt.locs, Pt.cells, Pt.slots] at X' e1 e2 h1 h2 h3 st
  subst h1; subst h2; subst h3
  exact ⟨v, (T.setVm vm₁).calling g' mk (Value.ref b :: As).toArray, t, U', L, hT, X', hL, e1, e2, hq, st⟩
section
variable {y : MethodName} {bytes cc : ByteArray} {maxL nL mc ms n index : Nat} {ret : Option FieldType} {ws : List Cond} {rm : Room} {Pc : Array Value → State → Prop} {Qc : Array Value → State → Outcome → State → Prop} {XC : String → State → State → Prop} {free : Addr → Prop} {Ts : List Cond} {own C : String} {b : Addr} {As rest : List Value} {g : JFrame}
theorem vx_runVX {hh : List (Nat × Nat × Nat × Nat)} (S : CallFix p m c cc nL s args Ts own) (hM : vx_Met l y ws rm Pc Qc XC mc ms free) (cw : vx_CVW R s args own C index y bytes maxL ret hh ws rm mc ms n) (hp : PreV s H C b Pc As)
    (hg : g.method = m) (hn : As.length = n) (hsize : g.locals.size = nL) (hstack : g.stack = As.reverse ++ .ref b :: rest) (hW : 2 * g.monitorRoom + (rest.map fun v => v.category).sum ≤ 8) (hdg : decode cc g.pc = .ok (.invokevirtual index, 3)) (hf : cells + mc ≤ R.cells ∧ slots + ms ≤ R.slots) :
    vx_Run p l e R s m args below meth c H locs cells slots mc ms g rest (Qc (Value.ref b :: As).toArray) XC free := by
  obtain ⟨⟨hrc, hrs, hfr, hlo, hws, hcw⟩, hcode, hini, hy, hlen, hl, hin, hse⟩ := cw
  have hK : vx_Back l R p e below s args y 3 8 (PreOf R mc ms Pc) (PostOf Qc mc ms free) (vx_Post XC mc ms free) := vx_backW (hh := hh) (bytes := bytes) (maxL := maxL) (ret := ret) hM hp.1 hrc hrs hfr hlo hws hcw (fun a' U hW => word_at hW (Or.inl (by first | rfl | simp [Cond.onTables, Cond.keeps, Cond.steady])) hini)
  obtain ⟨hx, hb, hml, ho, -⟩ := S
  obtain ⟨-, ⟨cellB, hcB, hoB, hclB⟩, hPc⟩ := hp
  intro T hT X
  rcases vx_callVX X hx (C := C) (hh := hh) (bytes := bytes) (maxL := maxL) (ret := ret) ho hl hin hse hcode hy hK (by rw [hT]; exact hcB) hoB hclB hg (hsize.trans hml.symm) (argsL := As) (rest := rest) (fun sig h => hn.trans (hlen sig h)) hstack hW (by rw [hb]; exact hdg)
    (fun vm₁ hW₁ => ⟨hf.1, hf.2, hPc (T.setVm vm₁) hT hW₁⟩) with ⟨v, vm₁, ⟨U', l2, c2, s2⟩, hW₁, X', ⟨g', mk, t, L, e1, e2, hq, h1, hL, h2, h3⟩, st⟩ | ⟨q, vm₁, ⟨U', l2, c2, s2⟩, hW₁, X', ⟨g', mk, t, L, E, ce, e1, e2, hq, hce, hcv, hcl, h1, hL, h2, h3⟩, st⟩
  · dsimp only [Pt.U, Pt.locs, Pt.cells, Pt.slots] at X' e1 e2 h1 h2 h3 st
    subst h1; subst h2; subst h3
    exact Or.inl ⟨v, (T.setVm vm₁).calling g' mk (Value.ref b :: As).toArray, t, U', L, hT, X', hL, e1, e2, hq, st⟩
  · dsimp only [Pt.U, Pt.locs, Pt.cells, Pt.slots] at X' e1 e2 h1 h2 h3 st hcl
    subst h1; subst h2; subst h3
    exact Or.inr ⟨q, (T.setVm vm₁).calling g' mk (Value.ref b :: As).toArray, t, U', L, E, ce, hT, X', hL, e1, e2, hq, hce, hcv, vx_cls hW₁ hcl, st⟩
theorem vx_runSX {hh : List (Nat × Nat × Nat × Nat)} (S : CallFix p m c cc nL s args Ts own) (hM : vx_Met l y ws rm Pc Qc XC mc ms free) (cw : vx_CSW R s args own index y bytes maxL ret hh ws rm mc ms n) (hp : PreS s H Pc As)
    (hg : g.method = m) (hn : As.length = n) (hsize : g.locals.size = nL) (hstack : g.stack = As.reverse ++ rest) (hW : 2 * g.monitorRoom + (rest.map fun v => v.category).sum ≤ 8) (hdg : decode cc g.pc = .ok (.invokestatic index, 3)) (hf : cells + mc ≤ R.cells ∧ slots + ms ≤ R.slots) :
    vx_Run p l e R s m args below meth c H locs cells slots mc ms g rest (Qc As.toArray) XC free := by
  obtain ⟨⟨hrc, hrs, hfr, hlo, hws, hcw⟩, hcode, hini, hy, hlen, hl, hstt⟩ := cw
  have hK : vx_Back l R p e below s args y 3 8 (PreOf R mc ms Pc) (PostOf Qc mc ms free) (vx_Post XC mc ms free) := vx_backW (hh := hh) (bytes := bytes) (maxL := maxL) (ret := ret) hM hp.1 hrc hrs hfr hlo hws hcw (fun a' U hW => word_at hW (Or.inl (by first | rfl | simp [Cond.onTables, Cond.keeps, Cond.steady])) hini)
  obtain ⟨hx, hb, hml, ho, -⟩ := S
  intro T hT X
  rcases vx_callSX X hx (hh := hh) (bytes := bytes) (maxL := maxL) (ret := ret) ho hl hstt hini hcode hy hK hg (hsize.trans hml.symm) (argsL := As) (rest := rest) (fun sig h => hn.trans (hlen sig h)) hstack hW (by rw [hb]; exact hdg)
    (fun vm₁ hW₁ => ⟨hf.1, hf.2, hp.2 (T.setVm vm₁) hT hW₁⟩) with ⟨v, vm₁, ⟨U', l2, c2, s2⟩, hW₁, X', ⟨g', mk, t, L, e1, e2, hq, h1, hL, h2, h3⟩, st⟩ | ⟨q, vm₁, ⟨U', l2, c2, s2⟩, hW₁, X', ⟨g', mk, t, L, E, ce, e1, e2, hq, hce, hcv, hcl, h1, hL, h2, h3⟩, st⟩
  · dsimp only [Pt.U, Pt.locs, Pt.cells, Pt.slots] at X' e1 e2 h1 h2 h3 st
    subst h1; subst h2; subst h3
    exact Or.inl ⟨v, (T.setVm vm₁).calling g' mk As.toArray, t, U', L, hT, X', hL, e1, e2, hq, st⟩
  · dsimp only [Pt.U, Pt.locs, Pt.cells, Pt.slots] at X' e1 e2 h1 h2 h3 st hcl
    subst h1; subst h2; subst h3
    exact Or.inr ⟨q, (T.setVm vm₁).calling g' mk As.toArray, t, U', L, E, ce, hT, X', hL, e1, e2, hq, hce, hcv, vx_cls hW₁ hcl, st⟩
end
end VXH
theorem vx_ofWH {l : Launch} {y : MethodName} {ws ws' : List Cond} {rm : Room} {Pc : Array Value → State → Prop} {Qc : Array Value → State → Outcome → State → Prop} {XC : String → State → State → Prop} {mc ms : Nat} {free : Addr → Prop} {cc : ByteArray} {maxL : Nat} {ret : Option FieldType} {hh : List (Nat × Nat × Nat × Nat)}
    (hy : plainName y.cls = true) (hw : ws = Cond.codeWith y cc maxL ret hh :: ws')
    (body : ∀ p e s m args below meth c s₁, BodyLoose p l y (headSpec ws rm) cc maxL ret e s m args below meth c s₁ → c.maxLocals = maxL → Pc args s →
      W p l e (headSpec ws rm).room s m args below meth c s.heap [] 0 0 (vx_MQ below Qc XC args s mc ms free) (entryFrame m args maxL)) : vx_Met l y ws rm Pc Qc XC mc ms free := by
  refine MetFree.of_bodyS (code := cc) (maxLocals := maxL) (ret := ret) hy ?_ ?_
  · intro args s m h hn
    obtain ⟨m9, meth, c, hn9, h1, h2, h3, h4, -, h5, h6, -⟩ := Cond.codeWith_spec (atoms_spec (ws := ws) h _ (by rw [hw]; exact List.mem_cons_self))
    cases hn.symm.trans hn9
    exact ⟨meth, c, h1, h2, h3, h4, h5, h6⟩
  · intro p e s m args below meth c s₁ B hml hP _
    have hh0 : s₁.heap = s.heap := by rw [B.state]; rfl
    obtain ⟨t, a1, o, b1, b2, b3⟩ := body p e s m args below meth c s₁ B hml hP s₁ hh0 (Stand.of_body B)
    exact ⟨t, o, a1, b1, b2, b3⟩
/-! ===== END ===== -/
end
section
/-! ===== BEGIN printed: names, fields, word lists, decode rows ===== -/
def RX0 : String := "Signround$Envelope"
def TX0 : u_T := fun k => match k with
  | 0 => ("Signround$Envelope", "persons", "LSignround$Row;", true)
  | 1 => ("Signround$Envelope", "before", "LSignround$Row;", true)
  | 2 => ("Signround$Envelope", "rounds", "LSignround$Row;", true)
  | 3 => ("Signround$Envelope", "openedOn", "LSignround$Row;", true)
  | 4 => ("Signround$Envelope", "reminded", "LSignround$Row;", true)
  | 5 => ("Signround$Envelope", "history", "LSignround$History;", true)
  | 6 => ("Signround$Envelope", "count", "I", false)
  | 7 => ("Signround$Envelope", "state", "I", false)
  | 8 => ("Signround$Envelope", "pace", "I", false)
  | 9 => ("Signround$Envelope", "term", "I", false)
  | 10 => ("Signround$Envelope", "sentOn", "I", false)
  | 11 => ("Signround$Envelope", "signed", "I", false)
  | _ => ("Signround$Envelope", "open", "I", false)
def tyX0 : Nat → FieldType := fun k => match k with
  | 0 => .object "Signround$Row"
  | 1 => .object "Signround$Row"
  | 2 => .object "Signround$Row"
  | 3 => .object "Signround$Row"
  | 4 => .object "Signround$Row"
  | 5 => .object "Signround$History"
  | 6 => .int
  | 7 => .int
  | 8 => .int
  | 9 => .int
  | 10 => .int
  | 11 => .int
  | _ => .int
abbrev wsX00 : List Cond := u_ws RX0 TX0 13
theorem nmX0 : ∀ a, a < 13 → ∀ b, b < 13 → a ≠ b → (TX0 a).2.1 ≠ (TX0 b).2.1 := by decide +kernel
theorem tyX0_ok : ∀ k, k < 13 → parseFieldDescriptor (TX0 k).2.2.1 = some (tyX0 k) := by decide +kernel
abbrev cX0_init : ByteArray := prog_2_method_1_code
def yX0_init : MethodName := ⟨RX0, "<init>", "()V"⟩
abbrev cX0_allSlots : ByteArray := prog_2_method_2_code
def yX0_allSlots : MethodName := ⟨RX0, "allSlots", "()I"⟩
abbrev cX0_append : ByteArray := prog_2_method_3_code
def yX0_append : MethodName := ⟨RX0, "append", "(II)V"⟩
abbrev cX0_nextBehind : ByteArray := prog_2_method_4_code
def yX0_nextBehind : MethodName := ⟨RX0, "nextBehind", "(I)I"⟩
abbrev cX0_aheadOf : ByteArray := prog_2_method_5_code
def yX0_aheadOf : MethodName := ⟨RX0, "aheadOf", "(I)I"⟩
abbrev cX0_ordersBehind : ByteArray := prog_2_method_6_code
def yX0_ordersBehind : MethodName := ⟨RX0, "ordersBehind", "(ILSignround$Row;)I"⟩
abbrev cX0_start : ByteArray := prog_2_method_7_code
def yX0_start : MethodName := ⟨RX0, "start", "(I)I"⟩
abbrev cX0_mark : ByteArray := prog_2_method_8_code
def yX0_mark : MethodName := ⟨RX0, "mark", "(IIII)I"⟩
abbrev cX0_openNext : ByteArray := prog_2_method_9_code
def yX0_openNext : MethodName := ⟨RX0, "openNext", "(I)I"⟩
abbrev cX0_finish : ByteArray := prog_2_method_10_code
def yX0_finish : MethodName := ⟨RX0, "finish", "(IIIII)I"⟩
abbrev cX0_meetDay : ByteArray := prog_2_method_11_code
def yX0_meetDay : MethodName := ⟨RX0, "meetDay", "(I)I"⟩
abbrev cX0_remind : ByteArray := prog_2_method_12_code
def yX0_remind : MethodName := ⟨RX0, "remind", "(I)I"⟩
abbrev cX0_reminderBehind : ByteArray := prog_2_method_13_code
def yX0_reminderBehind : MethodName := ⟨RX0, "reminderBehind", "(I)I"⟩
abbrev cX0_canRemind : ByteArray := prog_2_method_14_code
def yX0_canRemind : MethodName := ⟨RX0, "canRemind", "(I)Z"⟩
abbrev cX0_daysToPace : ByteArray := prog_2_method_15_code
def yX0_daysToPace : MethodName := ⟨RX0, "daysToPace", "(II)I"⟩
abbrev cX0_stateOf : ByteArray := prog_2_method_16_code
def yX0_stateOf : MethodName := ⟨RX0, "stateOf", "(I)I"⟩
def RX1 : String := "Signround$History"
def TX1 : u_T := fun k => match k with
  | 0 => ("Signround$History", "kinds", "LSignround$Row;", true)
  | 1 => ("Signround$History", "persons", "LSignround$Row;", true)
  | 2 => ("Signround$History", "slots", "LSignround$Row;", true)
  | 3 => ("Signround$History", "days", "LSignround$Row;", true)
  | _ => ("Signround$History", "length", "I", false)
def tyX1 : Nat → FieldType := fun k => match k with
  | 0 => .object "Signround$Row"
  | 1 => .object "Signround$Row"
  | 2 => .object "Signround$Row"
  | 3 => .object "Signround$Row"
  | _ => .int
abbrev wsX10 : List Cond := u_ws RX1 TX1 5
theorem nmX1 : ∀ a, a < 5 → ∀ b, b < 5 → a ≠ b → (TX1 a).2.1 ≠ (TX1 b).2.1 := by decide +kernel
theorem tyX1_ok : ∀ k, k < 5 → parseFieldDescriptor (TX1 k).2.2.1 = some (tyX1 k) := by decide +kernel
abbrev cX1_init : ByteArray := prog_3_method_1_code
def yX1_init : MethodName := ⟨RX1, "<init>", "()V"⟩
abbrev cX1_add : ByteArray := prog_3_method_2_code
def yX1_add : MethodName := ⟨RX1, "add", "(IIII)V"⟩
abbrev cX1_sealBehind : ByteArray := prog_3_method_3_code
def yX1_sealBehind : MethodName := ⟨RX1, "sealBehind", "(I)I"⟩
abbrev cX1_signedAfter : ByteArray := prog_3_method_4_code
def yX1_signedAfter : MethodName := ⟨RX1, "signedAfter", "(I)I"⟩
abbrev cX1_stateAfter : ByteArray := prog_3_method_5_code
def yX1_stateAfter : MethodName := ⟨RX1, "stateAfter", "(II)I"⟩
abbrev cX1_isSigning : ByteArray := prog_3_method_6_code
def yX1_isSigning : MethodName := ⟨RX1, "isSigning", "(I)Z"⟩
abbrev cX1_stateWith : ByteArray := prog_3_method_7_code
def yX1_stateWith : MethodName := ⟨RX1, "stateWith", "(IIZ)I"⟩
def RX2 : String := "Signround$Row"
def TX2 : u_T := fun k => match k with
  | _ => ("Signround$Row", "cells", "[I", true)
def tyX2 : Nat → FieldType := fun k => match k with
  | _ => .array .int
abbrev wsX20 : List Cond := u_ws RX2 TX2 1
theorem nmX2 : ∀ a, a < 1 → ∀ b, b < 1 → a ≠ b → (TX2 a).2.1 ≠ (TX2 b).2.1 := by decide +kernel
theorem tyX2_ok : ∀ k, k < 1 → parseFieldDescriptor (TX2 k).2.2.1 = some (tyX2 k) := by decide +kernel
abbrev cX2_init : ByteArray := prog_4_method_1_code
def yX2_init : MethodName := ⟨RX2, "<init>", "(I)V"⟩
abbrev cX2_get : ByteArray := prog_4_method_2_code
def yX2_get : MethodName := ⟨RX2, "get", "(I)I"⟩
abbrev cX2_set : ByteArray := prog_4_method_3_code
def yX2_set : MethodName := ⟨RX2, "set", "(II)V"⟩
def RX3 : String := "Signround$Standin"
def TX3 : u_T := fun k => match k with
  | 0 => ("Signround$Standin", "other", "I", false)
  | 1 => ("Signround$Standin", "first", "I", false)
  | 2 => ("Signround$Standin", "last", "I", false)
  | 3 => ("Signround$Standin", "limit", "I", false)
  | _ => ("Signround$Standin", "signedToday", "I", false)
def tyX3 : Nat → FieldType := fun k => match k with
  | 0 => .int
  | 1 => .int
  | 2 => .int
  | 3 => .int
  | _ => .int
abbrev wsX30 : List Cond := u_ws RX3 TX3 5
theorem nmX3 : ∀ a, a < 5 → ∀ b, b < 5 → a ≠ b → (TX3 a).2.1 ≠ (TX3 b).2.1 := by decide +kernel
theorem tyX3_ok : ∀ k, k < 5 → parseFieldDescriptor (TX3 k).2.2.1 = some (tyX3 k) := by decide +kernel
abbrev cX3_init : ByteArray := prog_5_method_1_code
def yX3_init : MethodName := ⟨RX3, "<init>", "()V"⟩
abbrev cX3_otherOn : ByteArray := prog_5_method_2_code
def yX3_otherOn : MethodName := ⟨RX3, "otherOn", "(I)I"⟩
def RX4 : String := "Signround"
def TX4 : u_T := fun k => match k with
  | 0 => ("Signround", "desk", "[LSignround$Envelope;", true)
  | 1 => ("Signround", "standins", "[LSignround$Standin;", true)
  | 2 => ("Signround", "ways", "LSignround$Row;", true)
  | 3 => ("Signround", "drafted", "I", false)
  | _ => ("Signround", "day", "I", false)
def tyX4 : Nat → FieldType := fun k => match k with
  | 0 => .array (.object "Signround$Envelope")
  | 1 => .array (.object "Signround$Standin")
  | 2 => .object "Signround$Row"
  | 3 => .int
  | _ => .int
abbrev wsX40 : List Cond := u_ws RX4 TX4 5
theorem nmX4 : ∀ a, a < 5 → ∀ b, b < 5 → a ≠ b → (TX4 a).2.1 ≠ (TX4 b).2.1 := by decide +kernel
theorem tyX4_ok : ∀ k, k < 5 → parseFieldDescriptor (TX4 k).2.2.1 = some (tyX4 k) := by decide +kernel
abbrev cX4_init : ByteArray := prog_1_method_1_code
def yX4_init : MethodName := ⟨RX4, "<init>", "()V"⟩
abbrev cX4_draft : ByteArray := prog_1_method_2_code
def yX4_draft : MethodName := ⟨RX4, "draft", "()I"⟩
abbrev cX4_addSlot : ByteArray := prog_1_method_3_code
def yX4_addSlot : MethodName := ⟨RX4, "addSlot", "(III)I"⟩
abbrev cX4_addRound : ByteArray := prog_1_method_4_code
def yX4_addRound : MethodName := ⟨RX4, "addRound", "(II)I"⟩
abbrev cX4_setTimes : ByteArray := prog_1_method_5_code
def yX4_setTimes : MethodName := ⟨RX4, "setTimes", "(III)V"⟩
abbrev cX4_send : ByteArray := prog_1_method_6_code
def yX4_send : MethodName := ⟨RX4, "send", "(I)I"⟩
abbrev cX4_sign : ByteArray := prog_1_method_7_code
def yX4_sign : MethodName := ⟨RX4, "sign", "(III)I"⟩
abbrev cX4_whyNot : ByteArray := prog_1_method_8_code
def yX4_whyNot : MethodName := ⟨RX4, "whyNot", "(III)I"⟩
abbrev cX4_decline : ByteArray := prog_1_method_9_code
def yX4_decline : MethodName := ⟨RX4, "decline", "(III)I"⟩
abbrev cX4_cancel : ByteArray := prog_1_method_10_code
def yX4_cancel : MethodName := ⟨RX4, "cancel", "(I)I"⟩
abbrev cX4_delegate : ByteArray := prog_1_method_11_code
def yX4_delegate : MethodName := ⟨RX4, "delegate", "(IIIII)I"⟩
abbrev cX4_revoke : ByteArray := prog_1_method_12_code
def yX4_revoke : MethodName := ⟨RX4, "revoke", "(I)I"⟩
abbrev cX4_delegateToday : ByteArray := prog_1_method_13_code
def yX4_delegateToday : MethodName := ⟨RX4, "delegateToday", "(I)I"⟩
abbrev cX4_signedFor : ByteArray := prog_1_method_14_code
def yX4_signedFor : MethodName := ⟨RX4, "signedFor", "(I)I"⟩
abbrev cX4_toSign : ByteArray := prog_1_method_15_code
def yX4_toSign : MethodName := ⟨RX4, "toSign", "(I)I"⟩
abbrev cX4_pass : ByteArray := prog_1_method_16_code
def yX4_pass : MethodName := ⟨RX4, "pass", "(I)I"⟩
abbrev cX4_today : ByteArray := prog_1_method_17_code
def yX4_today : MethodName := ⟨RX4, "today", "()I"⟩
abbrev cX4_nextReminder : ByteArray := prog_1_method_18_code
def yX4_nextReminder : MethodName := ⟨RX4, "nextReminder", "(I)I"⟩
abbrev cX4_envelopes : ByteArray := prog_1_method_19_code
def yX4_envelopes : MethodName := ⟨RX4, "envelopes", "()I"⟩
abbrev cX4_state : ByteArray := prog_1_method_20_code
def yX4_state : MethodName := ⟨RX4, "state", "(I)I"⟩
abbrev cX4_slots : ByteArray := prog_1_method_21_code
def yX4_slots : MethodName := ⟨RX4, "slots", "(I)I"⟩
abbrev cX4_slotState : ByteArray := prog_1_method_22_code
def yX4_slotState : MethodName := ⟨RX4, "slotState", "(II)I"⟩
abbrev cX4_missing : ByteArray := prog_1_method_23_code
def yX4_missing : MethodName := ⟨RX4, "missing", "(II)I"⟩
abbrev cX4_share : ByteArray := prog_1_method_24_code
def yX4_share : MethodName := ⟨RX4, "share", "(I)F"⟩
abbrev cX4_ahead : ByteArray := prog_1_method_25_code
def yX4_ahead : MethodName := ⟨RX4, "ahead", "(II)I"⟩
abbrev cX4_roundOf : ByteArray := prog_1_method_26_code
def yX4_roundOf : MethodName := ⟨RX4, "roundOf", "(II)I"⟩
abbrev cX4_orders : ByteArray := prog_1_method_27_code
def yX4_orders : MethodName := ⟨RX4, "orders", "(I)I"⟩
abbrev cX4_ordersByAll : ByteArray := prog_1_method_28_code
def yX4_ordersByAll : MethodName := ⟨RX4, "ordersByAll", "(I)I"⟩
abbrev cX4_ordersLeft : ByteArray := prog_1_method_29_code
def yX4_ordersLeft : MethodName := ⟨RX4, "ordersLeft", "(I)I"⟩
abbrev cX4_events : ByteArray := prog_1_method_30_code
def yX4_events : MethodName := ⟨RX4, "events", "(I)I"⟩
abbrev cX4_kindOf : ByteArray := prog_1_method_31_code
def yX4_kindOf : MethodName := ⟨RX4, "kindOf", "(II)I"⟩
abbrev cX4_personOf : ByteArray := prog_1_method_32_code
def yX4_personOf : MethodName := ⟨RX4, "personOf", "(II)I"⟩
abbrev cX4_dayOf : ByteArray := prog_1_method_33_code
def yX4_dayOf : MethodName := ⟨RX4, "dayOf", "(II)I"⟩
abbrev cX4_seal : ByteArray := prog_1_method_34_code
def yX4_seal : MethodName := ⟨RX4, "seal", "(II)I"⟩
abbrev cX4_stateBehind : ByteArray := prog_1_method_35_code
def yX4_stateBehind : MethodName := ⟨RX4, "stateBehind", "(II)I"⟩
abbrev cX4_openBehind : ByteArray := prog_1_method_36_code
def yX4_openBehind : MethodName := ⟨RX4, "openBehind", "(II)I"⟩
abbrev cX4_envelopeAt : ByteArray := prog_1_method_37_code
def yX4_envelopeAt : MethodName := ⟨RX4, "envelopeAt", "(I)LSignround$Envelope;"⟩
abbrev cX4_standinOf : ByteArray := prog_1_method_38_code
def yX4_standinOf : MethodName := ⟨RX4, "standinOf", "(I)LSignround$Standin;"⟩
abbrev cX4_refuseNoPerson : ByteArray := prog_1_method_39_code
def yX4_refuseNoPerson : MethodName := ⟨RX4, "refuseNoPerson", "(I)V"⟩
abbrev cX4_refuseNoSlot : ByteArray := prog_1_method_40_code
def yX4_refuseNoSlot : MethodName := ⟨RX4, "refuseNoSlot", "(LSignround$Envelope;I)V"⟩
abbrev cX4_refuseNoEvent : ByteArray := prog_1_method_41_code
def yX4_refuseNoEvent : MethodName := ⟨RX4, "refuseNoEvent", "(LSignround$History;I)V"⟩
abbrev cX4_refuseTooManyEvents : ByteArray := prog_1_method_42_code
def yX4_refuseTooManyEvents : MethodName := ⟨RX4, "refuseTooManyEvents", "(LSignround$History;I)V"⟩
abbrev cX4_refuseNoDraft : ByteArray := prog_1_method_43_code
def yX4_refuseNoDraft : MethodName := ⟨RX4, "refuseNoDraft", "(LSignround$Envelope;)V"⟩
abbrev cX4_reasonFor : ByteArray := prog_1_method_44_code
def yX4_reasonFor : MethodName := ⟨RX4, "reasonFor", "(ILSignround$Envelope;I)I"⟩
abbrev cX4_passOneDay : ByteArray := prog_1_method_45_code
def yX4_passOneDay : MethodName := ⟨RX4, "passOneDay", "()I"⟩
abbrev cX4_countByTrying : ByteArray := prog_1_method_46_code
def yX4_countByTrying : MethodName := ⟨RX4, "countByTrying", "(LSignround$Envelope;II)I"⟩
abbrev cX4_has : ByteArray := prog_1_method_47_code
def yX4_has : MethodName := ⟨RX4, "has", "(II)Z"⟩
def RX5 : String := "SignroundModel"
def TX5 : u_T := fun k => match k with
  | 0 => ("SignroundModel", "today", "I", false)
  | 1 => ("SignroundModel", "envelopes", "I", false)
  | 2 => ("SignroundModel", "slots", "[I", true)
  | 3 => ("SignroundModel", "pace", "[I", true)
  | 4 => ("SignroundModel", "term", "[I", true)
  | 5 => ("SignroundModel", "events", "[I", true)
  | 6 => ("SignroundModel", "who", "[I", true)
  | 7 => ("SignroundModel", "before", "[I", true)
  | 8 => ("SignroundModel", "kind", "[I", true)
  | 9 => ("SignroundModel", "person", "[I", true)
  | 10 => ("SignroundModel", "slot", "[I", true)
  | 11 => ("SignroundModel", "day", "[I", true)
  | 12 => ("SignroundModel", "other", "[I", true)
  | 13 => ("SignroundModel", "first", "[I", true)
  | 14 => ("SignroundModel", "last", "[I", true)
  | 15 => ("SignroundModel", "limit", "[I", true)
  | 16 => ("SignroundModel", "signedFor", "[I", true)
  | 17 => ("SignroundModel", "signedOn", "[I", true)
  | 18 => ("SignroundModel", "state", "I", false)
  | 19 => ("SignroundModel", "signed", "I", false)
  | 20 => ("SignroundModel", "opened", "I", false)
  | 21 => ("SignroundModel", "openOn", "[I", true)
  | 22 => ("SignroundModel", "reminded", "[I", true)
  | 23 => ("SignroundModel", "ways", "[I", true)
  | _ => ("SignroundModel", "thrown", "I", false)
def tyX5 : Nat → FieldType := fun k => match k with
  | 0 => .int
  | 1 => .int
  | 2 => .array .int
  | 3 => .array .int
  | 4 => .array .int
  | 5 => .array .int
  | 6 => .array .int
  | 7 => .array .int
  | 8 => .array .int
  | 9 => .array .int
  | 10 => .array .int
  | 11 => .array .int
  | 12 => .array .int
  | 13 => .array .int
  | 14 => .array .int
  | 15 => .array .int
  | 16 => .array .int
  | 17 => .array .int
  | 18 => .int
  | 19 => .int
  | 20 => .int
  | 21 => .array .int
  | 22 => .array .int
  | 23 => .array .int
  | _ => .int
abbrev wsX50 : List Cond := u_ws RX5 TX5 25
theorem nmX5 : ∀ a, a < 25 → ∀ b, b < 25 → a ≠ b → (TX5 a).2.1 ≠ (TX5 b).2.1 := by decide +kernel
theorem tyX5_ok : ∀ k, k < 25 → parseFieldDescriptor (TX5 k).2.2.1 = some (tyX5 k) := by decide +kernel
abbrev cX5_init : ByteArray := prog_7_method_1_code
def yX5_init : MethodName := ⟨RX5, "<init>", "()V"⟩
abbrev cX5_thrown : ByteArray := prog_7_method_2_code
def yX5_thrown : MethodName := ⟨RX5, "thrown", "()I"⟩
abbrev cX5_in : ByteArray := prog_7_method_3_code
def yX5_in : MethodName := ⟨RX5, "in", "(III)Z"⟩
abbrev cX5_goes : ByteArray := prog_7_method_4_code
def yX5_goes : MethodName := ⟨RX5, "goes", "(ZZZ)Z"⟩
abbrev cX5_told : ByteArray := prog_7_method_5_code
def yX5_told : MethodName := ⟨RX5, "told", "(I)I"⟩
abbrev cX5_isPerson : ByteArray := prog_7_method_6_code
def yX5_isPerson : MethodName := ⟨RX5, "isPerson", "(I)Z"⟩
abbrev cX5_isEnvelope : ByteArray := prog_7_method_7_code
def yX5_isEnvelope : MethodName := ⟨RX5, "isEnvelope", "(I)Z"⟩
abbrev cX5_isSlot : ByteArray := prog_7_method_8_code
def yX5_isSlot : MethodName := ⟨RX5, "isSlot", "(II)Z"⟩
abbrev cX5_isEvent : ByteArray := prog_7_method_9_code
def yX5_isEvent : MethodName := ⟨RX5, "isEvent", "(II)Z"⟩
abbrev cX5_areEvents : ByteArray := prog_7_method_10_code
def yX5_areEvents : MethodName := ⟨RX5, "areEvents", "(II)Z"⟩
abbrev cX5_has : ByteArray := prog_7_method_11_code
def yX5_has : MethodName := ⟨RX5, "has", "(II)Z"⟩
abbrev cX5_many : ByteArray := prog_7_method_12_code
def yX5_many : MethodName := ⟨RX5, "many", "(I)I"⟩
abbrev cX5_all : ByteArray := prog_7_method_13_code
def yX5_all : MethodName := ⟨RX5, "all", "(I)I"⟩
abbrev cX5_opens : ByteArray := prog_7_method_14_code
def yX5_opens : MethodName := ⟨RX5, "opens", "(II)V"⟩
abbrev cX5_ends : ByteArray := prog_7_method_15_code
def yX5_ends : MethodName := ⟨RX5, "ends", "(I)I"⟩
abbrev cX5_tells : ByteArray := prog_7_method_16_code
def yX5_tells : MethodName := ⟨RX5, "tells", "(II)V"⟩
abbrev cX5_looks : ByteArray := prog_7_method_17_code
def yX5_looks : MethodName := ⟨RX5, "looks", "(I)V"⟩
abbrev cX5_isIn : ByteArray := prog_7_method_18_code
def yX5_isIn : MethodName := ⟨RX5, "isIn", "(II)Z"⟩
abbrev cX5_open : ByteArray := prog_7_method_19_code
def yX5_open : MethodName := ⟨RX5, "open", "()I"⟩
abbrev cX5_notes : ByteArray := prog_7_method_20_code
def yX5_notes : MethodName := ⟨RX5, "notes", "(IIII)V"⟩
abbrev cX5_closes : ByteArray := prog_7_method_21_code
def yX5_closes : MethodName := ⟨RX5, "closes", "(IIII)I"⟩
abbrev cX5_draft : ByteArray := prog_7_method_22_code
def yX5_draft : MethodName := ⟨RX5, "draft", "()I"⟩
abbrev cX5_adds : ByteArray := prog_7_method_23_code
def yX5_adds : MethodName := ⟨RX5, "adds", "(III)I"⟩
abbrev cX5_addSlot : ByteArray := prog_7_method_24_code
def yX5_addSlot : MethodName := ⟨RX5, "addSlot", "(III)I"⟩
abbrev cX5_addRound : ByteArray := prog_7_method_25_code
def yX5_addRound : MethodName := ⟨RX5, "addRound", "(II)I"⟩
abbrev cX5_setTimes : ByteArray := prog_7_method_26_code
def yX5_setTimes : MethodName := ⟨RX5, "setTimes", "(III)V"⟩
abbrev cX5_send : ByteArray := prog_7_method_27_code
def yX5_send : MethodName := ⟨RX5, "send", "(I)I"⟩
abbrev cX5_delegated : ByteArray := prog_7_method_28_code
def yX5_delegated : MethodName := ⟨RX5, "delegated", "(I)I"⟩
abbrev cX5_signedToday : ByteArray := prog_7_method_29_code
def yX5_signedToday : MethodName := ⟨RX5, "signedToday", "(I)I"⟩
abbrev cX5_why : ByteArray := prog_7_method_30_code
def yX5_why : MethodName := ⟨RX5, "why", "(III)I"⟩
abbrev cX5_sign : ByteArray := prog_7_method_31_code
def yX5_sign : MethodName := ⟨RX5, "sign", "(III)I"⟩
abbrev cX5_whyNot : ByteArray := prog_7_method_32_code
def yX5_whyNot : MethodName := ⟨RX5, "whyNot", "(III)I"⟩
abbrev cX5_decline : ByteArray := prog_7_method_33_code
def yX5_decline : MethodName := ⟨RX5, "decline", "(III)I"⟩
abbrev cX5_cancel : ByteArray := prog_7_method_34_code
def yX5_cancel : MethodName := ⟨RX5, "cancel", "(I)I"⟩
abbrev cX5_delegate : ByteArray := prog_7_method_35_code
def yX5_delegate : MethodName := ⟨RX5, "delegate", "(IIIII)I"⟩
abbrev cX5_revoke : ByteArray := prog_7_method_36_code
def yX5_revoke : MethodName := ⟨RX5, "revoke", "(I)I"⟩
abbrev cX5_delegateToday : ByteArray := prog_7_method_37_code
def yX5_delegateToday : MethodName := ⟨RX5, "delegateToday", "(I)I"⟩
abbrev cX5_signedFor : ByteArray := prog_7_method_38_code
def yX5_signedFor : MethodName := ⟨RX5, "signedFor", "(I)I"⟩
abbrev cX5_toSign : ByteArray := prog_7_method_39_code
def yX5_toSign : MethodName := ⟨RX5, "toSign", "(I)I"⟩
abbrev cX5_reminds : ByteArray := prog_7_method_40_code
def yX5_reminds : MethodName := ⟨RX5, "reminds", "(I)I"⟩
abbrev cX5_passes : ByteArray := prog_7_method_41_code
def yX5_passes : MethodName := ⟨RX5, "passes", "()I"⟩
abbrev cX5_pass : ByteArray := prog_7_method_42_code
def yX5_pass : MethodName := ⟨RX5, "pass", "(I)I"⟩
abbrev cX5_today : ByteArray := prog_7_method_43_code
def yX5_today : MethodName := ⟨RX5, "today", "()I"⟩
abbrev cX5_next : ByteArray := prog_7_method_44_code
def yX5_next : MethodName := ⟨RX5, "next", "(I)I"⟩
abbrev cX5_nextReminder : ByteArray := prog_7_method_45_code
def yX5_nextReminder : MethodName := ⟨RX5, "nextReminder", "(I)I"⟩
abbrev cX5_envelopes : ByteArray := prog_7_method_46_code
def yX5_envelopes : MethodName := ⟨RX5, "envelopes", "()I"⟩
abbrev cX5_state : ByteArray := prog_7_method_47_code
def yX5_state : MethodName := ⟨RX5, "state", "(I)I"⟩
abbrev cX5_slots : ByteArray := prog_7_method_48_code
def yX5_slots : MethodName := ⟨RX5, "slots", "(I)I"⟩
abbrev cX5_slotState : ByteArray := prog_7_method_49_code
def yX5_slotState : MethodName := ⟨RX5, "slotState", "(II)I"⟩
abbrev cX5_missing : ByteArray := prog_7_method_50_code
def yX5_missing : MethodName := ⟨RX5, "missing", "(II)I"⟩
abbrev cX5_share : ByteArray := prog_7_method_51_code
def yX5_share : MethodName := ⟨RX5, "share", "(I)F"⟩
abbrev cX5_reach : ByteArray := prog_7_method_52_code
def yX5_reach : MethodName := ⟨RX5, "reach", "(II)I"⟩
abbrev cX5_ahead : ByteArray := prog_7_method_53_code
def yX5_ahead : MethodName := ⟨RX5, "ahead", "(II)I"⟩
abbrev cX5_roundOf : ByteArray := prog_7_method_54_code
def yX5_roundOf : MethodName := ⟨RX5, "roundOf", "(II)I"⟩
abbrev cX5_countsFrom : ByteArray := prog_7_method_55_code
def yX5_countsFrom : MethodName := ⟨RX5, "countsFrom", "(II)I"⟩
abbrev cX5_orders : ByteArray := prog_7_method_56_code
def yX5_orders : MethodName := ⟨RX5, "orders", "(I)I"⟩
abbrev cX5_ordersByAll : ByteArray := prog_7_method_57_code
def yX5_ordersByAll : MethodName := ⟨RX5, "ordersByAll", "(I)I"⟩
abbrev cX5_ordersLeft : ByteArray := prog_7_method_58_code
def yX5_ordersLeft : MethodName := ⟨RX5, "ordersLeft", "(I)I"⟩
abbrev cX5_events : ByteArray := prog_7_method_59_code
def yX5_events : MethodName := ⟨RX5, "events", "(I)I"⟩
abbrev cX5_kindOf : ByteArray := prog_7_method_60_code
def yX5_kindOf : MethodName := ⟨RX5, "kindOf", "(II)I"⟩
abbrev cX5_personOf : ByteArray := prog_7_method_61_code
def yX5_personOf : MethodName := ⟨RX5, "personOf", "(II)I"⟩
abbrev cX5_dayOf : ByteArray := prog_7_method_62_code
def yX5_dayOf : MethodName := ⟨RX5, "dayOf", "(II)I"⟩
abbrev cX5_seal : ByteArray := prog_7_method_63_code
def yX5_seal : MethodName := ⟨RX5, "seal", "(II)I"⟩
abbrev cX5_stateBehind : ByteArray := prog_7_method_64_code
def yX5_stateBehind : MethodName := ⟨RX5, "stateBehind", "(II)I"⟩
abbrev cX5_openBehind : ByteArray := prog_7_method_65_code
def yX5_openBehind : MethodName := ⟨RX5, "openBehind", "(II)I"⟩
def RJ6 : String := "java/lang/Integer"
def TJ6 : u_T := fun k => match k with
  | _ => ("", "", "", false)
def tyJ6 : Nat → FieldType := fun k => match k with
  | _ => .int
abbrev wsJ60 : List Cond := u_ws RJ6 TJ6 0
theorem nmJ6 : ∀ a, a < 0 → ∀ b, b < 0 → a ≠ b → (TJ6 a).2.1 ≠ (TJ6 b).2.1 := by decide +kernel
theorem tyJ6_ok : ∀ k, k < 0 → parseFieldDescriptor (TJ6 k).2.2.1 = some (tyJ6 k) := by decide +kernel
abbrev cJ6_bitCount_0f7a4 : ByteArray := prog_12_method_49_code
def yJ6_bitCount_0f7a4 : MethodName := ⟨RJ6, "bitCount", "(I)I"⟩
def RJ9 : String := "java/lang/Math"
def TJ9 : u_T := fun k => match k with
  | _ => ("", "", "", false)
def tyJ9 : Nat → FieldType := fun k => match k with
  | _ => .int
abbrev wsJ90 : List Cond := u_ws RJ9 TJ9 0
theorem nmJ9 : ∀ a, a < 0 → ∀ b, b < 0 → a ≠ b → (TJ9 a).2.1 ≠ (TJ9 b).2.1 := by decide +kernel
theorem tyJ9_ok : ∀ k, k < 0 → parseFieldDescriptor (TJ9 k).2.2.1 = some (tyJ9 k) := by decide +kernel
abbrev cJ9_max_7cf53 : ByteArray := prog_13_method_65_code
def yJ9_max_7cf53 : MethodName := ⟨RJ9, "max", "(II)I"⟩
abbrev cJ9_min_7cf53 : ByteArray := prog_13_method_69_code
def yJ9_min_7cf53 : MethodName := ⟨RJ9, "min", "(II)I"⟩
def RJ0 : String := "java/lang/String"
def TJ0 : u_T := fun k => match k with
  | _ => ("", "", "", false)
def tyJ0 : Nat → FieldType := fun k => match k with
  | _ => .int
abbrev wsJ00 : List Cond := u_ws RJ0 TJ0 0
theorem nmJ0 : ∀ a, a < 0 → ∀ b, b < 0 → a ≠ b → (TJ0 a).2.1 ≠ (TJ0 b).2.1 := by decide +kernel
theorem tyJ0_ok : ∀ k, k < 0 → parseFieldDescriptor (TJ0 k).2.2.1 = some (tyJ0 k) := by decide +kernel
def RL : String := "SignroundLaw"
abbrev cL_draft : ByteArray := method_3_code
def yL_draft : MethodName := ⟨RL, "draft", "(LSignround;[J)I"⟩
abbrev cL_addSlot : ByteArray := method_4_code
def yL_addSlot : MethodName := ⟨RL, "addSlot", "(LSignround;III[J)I"⟩
abbrev cL_addRound : ByteArray := method_5_code
def yL_addRound : MethodName := ⟨RL, "addRound", "(LSignround;II[J)I"⟩
abbrev cL_setTimes : ByteArray := method_6_code
def yL_setTimes : MethodName := ⟨RL, "setTimes", "(LSignround;III)I"⟩
abbrev cL_send : ByteArray := method_7_code
def yL_send : MethodName := ⟨RL, "send", "(LSignround;I[J)I"⟩
abbrev cL_sign : ByteArray := method_8_code
def yL_sign : MethodName := ⟨RL, "sign", "(LSignround;III[J)I"⟩
abbrev cL_whyNot : ByteArray := method_9_code
def yL_whyNot : MethodName := ⟨RL, "whyNot", "(LSignround;III[J)I"⟩
abbrev cL_decline : ByteArray := method_10_code
def yL_decline : MethodName := ⟨RL, "decline", "(LSignround;III[J)I"⟩
abbrev cL_cancel : ByteArray := method_11_code
def yL_cancel : MethodName := ⟨RL, "cancel", "(LSignround;I[J)I"⟩
abbrev cL_delegate : ByteArray := method_12_code
def yL_delegate : MethodName := ⟨RL, "delegate", "(LSignround;IIIII[J)I"⟩
abbrev cL_revoke : ByteArray := method_13_code
def yL_revoke : MethodName := ⟨RL, "revoke", "(LSignround;I[J)I"⟩
abbrev cL_delegateToday : ByteArray := method_14_code
def yL_delegateToday : MethodName := ⟨RL, "delegateToday", "(LSignround;I[J)I"⟩
abbrev cL_signedFor : ByteArray := method_15_code
def yL_signedFor : MethodName := ⟨RL, "signedFor", "(LSignround;I[J)I"⟩
abbrev cL_toSign : ByteArray := method_16_code
def yL_toSign : MethodName := ⟨RL, "toSign", "(LSignround;I[J)I"⟩
abbrev cL_pass : ByteArray := method_17_code
def yL_pass : MethodName := ⟨RL, "pass", "(LSignround;I[J)I"⟩
abbrev cL_nextReminder : ByteArray := method_18_code
def yL_nextReminder : MethodName := ⟨RL, "nextReminder", "(LSignround;I[J)I"⟩
abbrev cL_state : ByteArray := method_19_code
def yL_state : MethodName := ⟨RL, "state", "(LSignround;I[J)I"⟩
abbrev cL_slots : ByteArray := method_20_code
def yL_slots : MethodName := ⟨RL, "slots", "(LSignround;I[J)I"⟩
abbrev cL_slotState : ByteArray := method_21_code
def yL_slotState : MethodName := ⟨RL, "slotState", "(LSignround;II[J)I"⟩
abbrev cL_missing : ByteArray := method_22_code
def yL_missing : MethodName := ⟨RL, "missing", "(LSignround;II[J)I"⟩
abbrev cL_share : ByteArray := method_23_code
def yL_share : MethodName := ⟨RL, "share", "(LSignround;I[D)I"⟩
abbrev cL_ahead : ByteArray := method_24_code
def yL_ahead : MethodName := ⟨RL, "ahead", "(LSignround;II[J)I"⟩
abbrev cL_roundOf : ByteArray := method_25_code
def yL_roundOf : MethodName := ⟨RL, "roundOf", "(LSignround;II[J)I"⟩
abbrev cL_orders : ByteArray := method_26_code
def yL_orders : MethodName := ⟨RL, "orders", "(LSignround;I[J)I"⟩
abbrev cL_ordersByAll : ByteArray := method_27_code
def yL_ordersByAll : MethodName := ⟨RL, "ordersByAll", "(LSignround;I[J)I"⟩
abbrev cL_ordersLeft : ByteArray := method_28_code
def yL_ordersLeft : MethodName := ⟨RL, "ordersLeft", "(LSignround;I[J)I"⟩
abbrev cL_events : ByteArray := method_29_code
def yL_events : MethodName := ⟨RL, "events", "(LSignround;I[J)I"⟩
abbrev cL_kindOf : ByteArray := method_30_code
def yL_kindOf : MethodName := ⟨RL, "kindOf", "(LSignround;II[J)I"⟩
abbrev cL_personOf : ByteArray := method_31_code
def yL_personOf : MethodName := ⟨RL, "personOf", "(LSignround;II[J)I"⟩
abbrev cL_dayOf : ByteArray := method_32_code
def yL_dayOf : MethodName := ⟨RL, "dayOf", "(LSignround;II[J)I"⟩
abbrev cL_seal : ByteArray := method_33_code
def yL_seal : MethodName := ⟨RL, "seal", "(LSignround;II[J)I"⟩
abbrev cL_stateBehind : ByteArray := method_34_code
def yL_stateBehind : MethodName := ⟨RL, "stateBehind", "(LSignround;II[J)I"⟩
abbrev cL_openBehind : ByteArray := method_35_code
def yL_openBehind : MethodName := ⟨RL, "openBehind", "(LSignround;II[J)I"⟩
abbrev cL_law : ByteArray := code
def yL_law : MethodName := ⟨RL, "law", "([I)Z"⟩
abbrev vwCl : List vw_C := [(RX0, TX0, 13), (RX1, TX1, 5), (RX2, TX2, 1), (RX3, TX3, 5), (RX4, TX4, 5), (RX5, TX5, 25)]
end
section
theorem dX0_init_0 : decode cX0_init 0 = .ok (.aload_n 0, 1) := by decide +kernel
theorem dX0_init_1 : decode cX0_init 1 = .ok (.invokespecial 3, 3) := by decide +kernel
theorem dX0_init_4 : decode cX0_init 4 = .ok (.aload_n 0, 1) := by decide +kernel
theorem dX0_init_5 : decode cX0_init 5 = .ok (.new 9, 3) := by decide +kernel
theorem dX0_init_8 : decode cX0_init 8 = .ok (.dup, 1) := by decide +kernel
theorem dX0_init_9 : decode cX0_init 9 = .ok (.bipush 8, 2) := by decide +kernel
theorem dX0_init_11 : decode cX0_init 11 = .ok (.invokespecial 11, 3) := by decide +kernel
theorem dX0_init_14 : decode cX0_init 14 = .ok (.putfield 14, 3) := by decide +kernel
theorem dX0_init_17 : decode cX0_init 17 = .ok (.aload_n 0, 1) := by decide +kernel
theorem dX0_init_18 : decode cX0_init 18 = .ok (.new 9, 3) := by decide +kernel
theorem dX0_init_21 : decode cX0_init 21 = .ok (.dup, 1) := by decide +kernel
theorem dX0_init_22 : decode cX0_init 22 = .ok (.bipush 8, 2) := by decide +kernel
theorem dX0_init_24 : decode cX0_init 24 = .ok (.invokespecial 11, 3) := by decide +kernel
theorem dX0_init_27 : decode cX0_init 27 = .ok (.putfield 20, 3) := by decide +kernel
theorem dX0_init_30 : decode cX0_init 30 = .ok (.aload_n 0, 1) := by decide +kernel
theorem dX0_init_31 : decode cX0_init 31 = .ok (.new 9, 3) := by decide +kernel
theorem dX0_init_34 : decode cX0_init 34 = .ok (.dup, 1) := by decide +kernel
theorem dX0_init_35 : decode cX0_init 35 = .ok (.bipush 8, 2) := by decide +kernel
theorem dX0_init_37 : decode cX0_init 37 = .ok (.invokespecial 11, 3) := by decide +kernel
theorem dX0_init_40 : decode cX0_init 40 = .ok (.putfield 23, 3) := by decide +kernel
theorem dX0_init_43 : decode cX0_init 43 = .ok (.aload_n 0, 1) := by decide +kernel
theorem dX0_init_44 : decode cX0_init 44 = .ok (.new 9, 3) := by decide +kernel
theorem dX0_init_47 : decode cX0_init 47 = .ok (.dup, 1) := by decide +kernel
theorem dX0_init_48 : decode cX0_init 48 = .ok (.bipush 8, 2) := by decide +kernel
theorem dX0_init_50 : decode cX0_init 50 = .ok (.invokespecial 11, 3) := by decide +kernel
theorem dX0_init_53 : decode cX0_init 53 = .ok (.putfield 26, 3) := by decide +kernel
theorem dX0_init_56 : decode cX0_init 56 = .ok (.aload_n 0, 1) := by decide +kernel
theorem dX0_init_57 : decode cX0_init 57 = .ok (.new 9, 3) := by decide +kernel
theorem dX0_init_60 : decode cX0_init 60 = .ok (.dup, 1) := by decide +kernel
theorem dX0_init_61 : decode cX0_init 61 = .ok (.bipush 8, 2) := by decide +kernel
theorem dX0_init_63 : decode cX0_init 63 = .ok (.invokespecial 11, 3) := by decide +kernel
theorem dX0_init_66 : decode cX0_init 66 = .ok (.putfield 29, 3) := by decide +kernel
theorem dX0_init_69 : decode cX0_init 69 = .ok (.aload_n 0, 1) := by decide +kernel
theorem dX0_init_70 : decode cX0_init 70 = .ok (.new 32, 3) := by decide +kernel
theorem dX0_init_73 : decode cX0_init 73 = .ok (.dup, 1) := by decide +kernel
theorem dX0_init_74 : decode cX0_init 74 = .ok (.invokespecial 34, 3) := by decide +kernel
theorem dX0_init_77 : decode cX0_init 77 = .ok (.putfield 35, 3) := by decide +kernel
theorem dX0_init_80 : decode cX0_init 80 = .ok (.aload_n 0, 1) := by decide +kernel
theorem dX0_init_81 : decode cX0_init 81 = .ok (.iconst 0, 1) := by decide +kernel
theorem dX0_init_82 : decode cX0_init 82 = .ok (.putfield 39, 3) := by decide +kernel
theorem dX0_init_85 : decode cX0_init 85 = .ok (.return_, 1) := by decide +kernel
theorem dX0_allSlots_0 : decode cX0_allSlots 0 = .ok (.iconst 1, 1) := by decide +kernel
theorem dX0_allSlots_1 : decode cX0_allSlots 1 = .ok (.aload_n 0, 1) := by decide +kernel
theorem dX0_allSlots_2 : decode cX0_allSlots 2 = .ok (.getfield 43, 3) := by decide +kernel
theorem dX0_allSlots_5 : decode cX0_allSlots 5 = .ok (.ishl, 1) := by decide +kernel
theorem dX0_allSlots_6 : decode cX0_allSlots 6 = .ok (.iconst 1, 1) := by decide +kernel
theorem dX0_allSlots_7 : decode cX0_allSlots 7 = .ok (.isub, 1) := by decide +kernel
theorem dX0_allSlots_8 : decode cX0_allSlots 8 = .ok (.ireturn, 1) := by decide +kernel
theorem dX0_append_0 : decode cX0_append 0 = .ok (.iconst 0, 1) := by decide +kernel
theorem dX0_append_1 : decode cX0_append 1 = .ok (.istore_n 3, 1) := by decide +kernel
theorem dX0_append_2 : decode cX0_append 2 = .ok (.iconst 0, 1) := by decide +kernel
theorem dX0_append_3 : decode cX0_append 3 = .ok (.istore 4, 2) := by decide +kernel
theorem dX0_append_5 : decode cX0_append 5 = .ok (.iload 4, 2) := by decide +kernel
theorem dX0_append_7 : decode cX0_append 7 = .ok (.aload_n 0, 1) := by decide +kernel
theorem dX0_append_8 : decode cX0_append 8 = .ok (.getfield 43, 3) := by decide +kernel
theorem dX0_append_11 : decode cX0_append 11 = .ok (.if_icmp .ge 34, 3) := by decide +kernel
theorem dX0_append_14 : decode cX0_append 14 = .ok (.iload_n 2, 1) := by decide +kernel
theorem dX0_append_15 : decode cX0_append 15 = .ok (.iload 4, 2) := by decide +kernel
theorem dX0_append_17 : decode cX0_append 17 = .ok (.invokestatic 46, 3) := by decide +kernel
theorem dX0_append_20 : decode cX0_append 20 = .ok (.ifCond .eq 19, 3) := by decide +kernel
theorem dX0_append_23 : decode cX0_append 23 = .ok (.iload_n 3, 1) := by decide +kernel
theorem dX0_append_24 : decode cX0_append 24 = .ok (.aload_n 0, 1) := by decide +kernel
theorem dX0_append_25 : decode cX0_append 25 = .ok (.getfield 23, 3) := by decide +kernel
theorem dX0_append_28 : decode cX0_append 28 = .ok (.iload 4, 2) := by decide +kernel
theorem dX0_append_30 : decode cX0_append 30 = .ok (.invokevirtual 50, 3) := by decide +kernel
theorem dX0_append_33 : decode cX0_append 33 = .ok (.iconst 1, 1) := by decide +kernel
theorem dX0_append_34 : decode cX0_append 34 = .ok (.iadd, 1) := by decide +kernel
theorem dX0_append_35 : decode cX0_append 35 = .ok (.invokestatic 54, 3) := by decide +kernel
theorem dX0_append_38 : decode cX0_append 38 = .ok (.istore_n 3, 1) := by decide +kernel
theorem dX0_append_39 : decode cX0_append 39 = .ok (.iinc 4 1, 3) := by decide +kernel
theorem dX0_append_42 : decode cX0_append 42 = .ok (.goto (-37), 3) := by decide +kernel
theorem dX0_append_45 : decode cX0_append 45 = .ok (.aload_n 0, 1) := by decide +kernel
theorem dX0_append_46 : decode cX0_append 46 = .ok (.getfield 14, 3) := by decide +kernel
theorem dX0_append_49 : decode cX0_append 49 = .ok (.aload_n 0, 1) := by decide +kernel
theorem dX0_append_50 : decode cX0_append 50 = .ok (.getfield 43, 3) := by decide +kernel
theorem dX0_append_53 : decode cX0_append 53 = .ok (.iload_n 1, 1) := by decide +kernel
theorem dX0_append_54 : decode cX0_append 54 = .ok (.invokevirtual 60, 3) := by decide +kernel
theorem dX0_append_57 : decode cX0_append 57 = .ok (.aload_n 0, 1) := by decide +kernel
theorem dX0_append_58 : decode cX0_append 58 = .ok (.getfield 20, 3) := by decide +kernel
theorem dX0_append_61 : decode cX0_append 61 = .ok (.aload_n 0, 1) := by decide +kernel
theorem dX0_append_62 : decode cX0_append 62 = .ok (.getfield 43, 3) := by decide +kernel
theorem dX0_append_65 : decode cX0_append 65 = .ok (.iload_n 2, 1) := by decide +kernel
theorem dX0_append_66 : decode cX0_append 66 = .ok (.invokevirtual 60, 3) := by decide +kernel
theorem dX0_append_69 : decode cX0_append 69 = .ok (.aload_n 0, 1) := by decide +kernel
theorem dX0_append_70 : decode cX0_append 70 = .ok (.getfield 23, 3) := by decide +kernel
theorem dX0_append_73 : decode cX0_append 73 = .ok (.aload_n 0, 1) := by decide +kernel
theorem dX0_append_74 : decode cX0_append 74 = .ok (.getfield 43, 3) := by decide +kernel
theorem dX0_append_77 : decode cX0_append 77 = .ok (.iload_n 3, 1) := by decide +kernel
theorem dX0_append_78 : decode cX0_append 78 = .ok (.invokevirtual 60, 3) := by decide +kernel
theorem dX0_append_81 : decode cX0_append 81 = .ok (.aload_n 0, 1) := by decide +kernel
theorem dX0_append_82 : decode cX0_append 82 = .ok (.dup, 1) := by decide +kernel
theorem dX0_append_83 : decode cX0_append 83 = .ok (.getfield 43, 3) := by decide +kernel
theorem dX0_append_86 : decode cX0_append 86 = .ok (.iconst 1, 1) := by decide +kernel
theorem dX0_append_87 : decode cX0_append 87 = .ok (.iadd, 1) := by decide +kernel
theorem dX0_append_88 : decode cX0_append 88 = .ok (.putfield 43, 3) := by decide +kernel
theorem dX0_append_91 : decode cX0_append 91 = .ok (.return_, 1) := by decide +kernel
theorem dX0_nextBehind_0 : decode cX0_nextBehind 0 = .ok (.iconst 0, 1) := by decide +kernel
theorem dX0_nextBehind_1 : decode cX0_nextBehind 1 = .ok (.istore_n 2, 1) := by decide +kernel
theorem dX0_nextBehind_2 : decode cX0_nextBehind 2 = .ok (.iconst 0, 1) := by decide +kernel
theorem dX0_nextBehind_3 : decode cX0_nextBehind 3 = .ok (.istore_n 3, 1) := by decide +kernel
theorem dX0_nextBehind_4 : decode cX0_nextBehind 4 = .ok (.iload_n 3, 1) := by decide +kernel
theorem dX0_nextBehind_5 : decode cX0_nextBehind 5 = .ok (.aload_n 0, 1) := by decide +kernel
theorem dX0_nextBehind_6 : decode cX0_nextBehind 6 = .ok (.getfield 43, 3) := by decide +kernel
theorem dX0_nextBehind_9 : decode cX0_nextBehind 9 = .ok (.if_icmp .ge 38, 3) := by decide +kernel
theorem dX0_nextBehind_12 : decode cX0_nextBehind 12 = .ok (.iload_n 1, 1) := by decide +kernel
theorem dX0_nextBehind_13 : decode cX0_nextBehind 13 = .ok (.iload_n 3, 1) := by decide +kernel
theorem dX0_nextBehind_14 : decode cX0_nextBehind 14 = .ok (.invokestatic 46, 3) := by decide +kernel
theorem dX0_nextBehind_17 : decode cX0_nextBehind 17 = .ok (.ifCond .ne 24, 3) := by decide +kernel
theorem dX0_nextBehind_20 : decode cX0_nextBehind 20 = .ok (.aload_n 0, 1) := by decide +kernel
theorem dX0_nextBehind_21 : decode cX0_nextBehind 21 = .ok (.getfield 20, 3) := by decide +kernel
theorem dX0_nextBehind_24 : decode cX0_nextBehind 24 = .ok (.iload_n 3, 1) := by decide +kernel
theorem dX0_nextBehind_25 : decode cX0_nextBehind 25 = .ok (.invokevirtual 50, 3) := by decide +kernel
theorem dX0_nextBehind_28 : decode cX0_nextBehind 28 = .ok (.iload_n 1, 1) := by decide +kernel
theorem dX0_nextBehind_29 : decode cX0_nextBehind 29 = .ok (.iconst (-1), 1) := by decide +kernel
theorem dX0_nextBehind_30 : decode cX0_nextBehind 30 = .ok (.ixor, 1) := by decide +kernel
theorem dX0_nextBehind_31 : decode cX0_nextBehind 31 = .ok (.iand, 1) := by decide +kernel
theorem dX0_nextBehind_32 : decode cX0_nextBehind 32 = .ok (.ifCond .ne 9, 3) := by decide +kernel
theorem dX0_nextBehind_35 : decode cX0_nextBehind 35 = .ok (.iload_n 2, 1) := by decide +kernel
theorem dX0_nextBehind_36 : decode cX0_nextBehind 36 = .ok (.iconst 1, 1) := by decide +kernel
theorem dX0_nextBehind_37 : decode cX0_nextBehind 37 = .ok (.iload_n 3, 1) := by decide +kernel
theorem dX0_nextBehind_38 : decode cX0_nextBehind 38 = .ok (.ishl, 1) := by decide +kernel
theorem dX0_nextBehind_39 : decode cX0_nextBehind 39 = .ok (.ior, 1) := by decide +kernel
theorem dX0_nextBehind_40 : decode cX0_nextBehind 40 = .ok (.istore_n 2, 1) := by decide +kernel
theorem dX0_nextBehind_41 : decode cX0_nextBehind 41 = .ok (.iinc 3 1, 3) := by decide +kernel
theorem dX0_nextBehind_44 : decode cX0_nextBehind 44 = .ok (.goto (-40), 3) := by decide +kernel
theorem dX0_nextBehind_47 : decode cX0_nextBehind 47 = .ok (.iload_n 2, 1) := by decide +kernel
theorem dX0_nextBehind_48 : decode cX0_nextBehind 48 = .ok (.ireturn, 1) := by decide +kernel
theorem dX0_aheadOf_0 : decode cX0_aheadOf 0 = .ok (.aload_n 0, 1) := by decide +kernel
theorem dX0_aheadOf_1 : decode cX0_aheadOf 1 = .ok (.getfield 20, 3) := by decide +kernel
theorem dX0_aheadOf_4 : decode cX0_aheadOf 4 = .ok (.iload_n 1, 1) := by decide +kernel
theorem dX0_aheadOf_5 : decode cX0_aheadOf 5 = .ok (.invokevirtual 50, 3) := by decide +kernel
theorem dX0_aheadOf_8 : decode cX0_aheadOf 8 = .ok (.istore_n 2, 1) := by decide +kernel
theorem dX0_aheadOf_9 : decode cX0_aheadOf 9 = .ok (.iload_n 1, 1) := by decide +kernel
theorem dX0_aheadOf_10 : decode cX0_aheadOf 10 = .ok (.iconst 1, 1) := by decide +kernel
theorem dX0_aheadOf_11 : decode cX0_aheadOf 11 = .ok (.isub, 1) := by decide +kernel
theorem dX0_aheadOf_12 : decode cX0_aheadOf 12 = .ok (.istore_n 3, 1) := by decide +kernel
theorem dX0_aheadOf_13 : decode cX0_aheadOf 13 = .ok (.iload_n 3, 1) := by decide +kernel
theorem dX0_aheadOf_14 : decode cX0_aheadOf 14 = .ok (.ifCond .lt 28, 3) := by decide +kernel
theorem dX0_aheadOf_17 : decode cX0_aheadOf 17 = .ok (.iload_n 2, 1) := by decide +kernel
theorem dX0_aheadOf_18 : decode cX0_aheadOf 18 = .ok (.iload_n 3, 1) := by decide +kernel
theorem dX0_aheadOf_19 : decode cX0_aheadOf 19 = .ok (.invokestatic 46, 3) := by decide +kernel
theorem dX0_aheadOf_22 : decode cX0_aheadOf 22 = .ok (.ifCond .eq 14, 3) := by decide +kernel
theorem dX0_aheadOf_25 : decode cX0_aheadOf 25 = .ok (.iload_n 2, 1) := by decide +kernel
theorem dX0_aheadOf_26 : decode cX0_aheadOf 26 = .ok (.aload_n 0, 1) := by decide +kernel
theorem dX0_aheadOf_27 : decode cX0_aheadOf 27 = .ok (.getfield 20, 3) := by decide +kernel
theorem dX0_aheadOf_30 : decode cX0_aheadOf 30 = .ok (.iload_n 3, 1) := by decide +kernel
theorem dX0_aheadOf_31 : decode cX0_aheadOf 31 = .ok (.invokevirtual 50, 3) := by decide +kernel
theorem dX0_aheadOf_34 : decode cX0_aheadOf 34 = .ok (.ior, 1) := by decide +kernel
theorem dX0_aheadOf_35 : decode cX0_aheadOf 35 = .ok (.istore_n 2, 1) := by decide +kernel
theorem dX0_aheadOf_36 : decode cX0_aheadOf 36 = .ok (.iinc 3 (-1), 3) := by decide +kernel
theorem dX0_aheadOf_39 : decode cX0_aheadOf 39 = .ok (.goto (-26), 3) := by decide +kernel
theorem dX0_aheadOf_42 : decode cX0_aheadOf 42 = .ok (.iload_n 2, 1) := by decide +kernel
theorem dX0_aheadOf_43 : decode cX0_aheadOf 43 = .ok (.ireturn, 1) := by decide +kernel
theorem dX0_ordersBehind_0 : decode cX0_ordersBehind 0 = .ok (.aload_n 0, 1) := by decide +kernel
theorem dX0_ordersBehind_1 : decode cX0_ordersBehind 1 = .ok (.invokevirtual 64, 3) := by decide +kernel
theorem dX0_ordersBehind_4 : decode cX0_ordersBehind 4 = .ok (.istore_n 3, 1) := by decide +kernel
theorem dX0_ordersBehind_5 : decode cX0_ordersBehind 5 = .ok (.iload_n 1, 1) := by decide +kernel
theorem dX0_ordersBehind_6 : decode cX0_ordersBehind 6 = .ok (.istore 4, 2) := by decide +kernel
theorem dX0_ordersBehind_8 : decode cX0_ordersBehind 8 = .ok (.iload 4, 2) := by decide +kernel
theorem dX0_ordersBehind_10 : decode cX0_ordersBehind 10 = .ok (.iload_n 3, 1) := by decide +kernel
theorem dX0_ordersBehind_11 : decode cX0_ordersBehind 11 = .ok (.if_icmp .gt 16, 3) := by decide +kernel
theorem dX0_ordersBehind_14 : decode cX0_ordersBehind 14 = .ok (.aload_n 2, 1) := by decide +kernel
theorem dX0_ordersBehind_15 : decode cX0_ordersBehind 15 = .ok (.iload 4, 2) := by decide +kernel
theorem dX0_ordersBehind_17 : decode cX0_ordersBehind 17 = .ok (.iconst 0, 1) := by decide +kernel
theorem dX0_ordersBehind_18 : decode cX0_ordersBehind 18 = .ok (.invokevirtual 60, 3) := by decide +kernel
theorem dX0_ordersBehind_21 : decode cX0_ordersBehind 21 = .ok (.iinc 4 1, 3) := by decide +kernel
theorem dX0_ordersBehind_24 : decode cX0_ordersBehind 24 = .ok (.goto (-16), 3) := by decide +kernel
theorem dX0_ordersBehind_27 : decode cX0_ordersBehind 27 = .ok (.aload_n 2, 1) := by decide +kernel
theorem dX0_ordersBehind_28 : decode cX0_ordersBehind 28 = .ok (.iload_n 1, 1) := by decide +kernel
theorem dX0_ordersBehind_29 : decode cX0_ordersBehind 29 = .ok (.iconst 1, 1) := by decide +kernel
theorem dX0_ordersBehind_30 : decode cX0_ordersBehind 30 = .ok (.invokevirtual 60, 3) := by decide +kernel
theorem dX0_ordersBehind_33 : decode cX0_ordersBehind 33 = .ok (.iload_n 1, 1) := by decide +kernel
theorem dX0_ordersBehind_34 : decode cX0_ordersBehind 34 = .ok (.istore 4, 2) := by decide +kernel
theorem dX0_ordersBehind_36 : decode cX0_ordersBehind 36 = .ok (.iload 4, 2) := by decide +kernel
theorem dX0_ordersBehind_38 : decode cX0_ordersBehind 38 = .ok (.iload_n 3, 1) := by decide +kernel
theorem dX0_ordersBehind_39 : decode cX0_ordersBehind 39 = .ok (.if_icmp .ge 87, 3) := by decide +kernel
theorem dX0_ordersBehind_42 : decode cX0_ordersBehind 42 = .ok (.aload_n 2, 1) := by decide +kernel
theorem dX0_ordersBehind_43 : decode cX0_ordersBehind 43 = .ok (.iload 4, 2) := by decide +kernel
theorem dX0_ordersBehind_45 : decode cX0_ordersBehind 45 = .ok (.invokevirtual 50, 3) := by decide +kernel
theorem dX0_ordersBehind_48 : decode cX0_ordersBehind 48 = .ok (.istore 5, 2) := by decide +kernel
theorem dX0_ordersBehind_50 : decode cX0_ordersBehind 50 = .ok (.iload 5, 2) := by decide +kernel
theorem dX0_ordersBehind_52 : decode cX0_ordersBehind 52 = .ok (.ifCond .ne 7, 3) := by decide +kernel
theorem dX0_ordersBehind_55 : decode cX0_ordersBehind 55 = .ok (.iconst 0, 1) := by decide +kernel
theorem dX0_ordersBehind_56 : decode cX0_ordersBehind 56 = .ok (.goto 9, 3) := by decide +kernel
theorem dX0_ordersBehind_59 : decode cX0_ordersBehind 59 = .ok (.aload_n 0, 1) := by decide +kernel
theorem dX0_ordersBehind_60 : decode cX0_ordersBehind 60 = .ok (.iload 4, 2) := by decide +kernel
theorem dX0_ordersBehind_62 : decode cX0_ordersBehind 62 = .ok (.invokevirtual 68, 3) := by decide +kernel
theorem dX0_ordersBehind_65 : decode cX0_ordersBehind 65 = .ok (.istore 6, 2) := by decide +kernel
theorem dX0_ordersBehind_67 : decode cX0_ordersBehind 67 = .ok (.iconst 0, 1) := by decide +kernel
theorem dX0_ordersBehind_68 : decode cX0_ordersBehind 68 = .ok (.istore 7, 2) := by decide +kernel
theorem dX0_ordersBehind_70 : decode cX0_ordersBehind 70 = .ok (.iload 7, 2) := by decide +kernel
theorem dX0_ordersBehind_72 : decode cX0_ordersBehind 72 = .ok (.aload_n 0, 1) := by decide +kernel
theorem dX0_ordersBehind_73 : decode cX0_ordersBehind 73 = .ok (.getfield 43, 3) := by decide +kernel
theorem dX0_ordersBehind_76 : decode cX0_ordersBehind 76 = .ok (.if_icmp .ge 44, 3) := by decide +kernel
theorem dX0_ordersBehind_79 : decode cX0_ordersBehind 79 = .ok (.iload 6, 2) := by decide +kernel
theorem dX0_ordersBehind_81 : decode cX0_ordersBehind 81 = .ok (.iload 7, 2) := by decide +kernel
theorem dX0_ordersBehind_83 : decode cX0_ordersBehind 83 = .ok (.invokestatic 46, 3) := by decide +kernel
theorem dX0_ordersBehind_86 : decode cX0_ordersBehind 86 = .ok (.ifCond .eq 28, 3) := by decide +kernel
theorem dX0_ordersBehind_89 : decode cX0_ordersBehind 89 = .ok (.aload_n 2, 1) := by decide +kernel
theorem dX0_ordersBehind_90 : decode cX0_ordersBehind 90 = .ok (.iload 4, 2) := by decide +kernel
theorem dX0_ordersBehind_92 : decode cX0_ordersBehind 92 = .ok (.iconst 1, 1) := by decide +kernel
theorem dX0_ordersBehind_93 : decode cX0_ordersBehind 93 = .ok (.iload 7, 2) := by decide +kernel
theorem dX0_ordersBehind_95 : decode cX0_ordersBehind 95 = .ok (.ishl, 1) := by decide +kernel
theorem dX0_ordersBehind_96 : decode cX0_ordersBehind 96 = .ok (.ior, 1) := by decide +kernel
theorem dX0_ordersBehind_97 : decode cX0_ordersBehind 97 = .ok (.aload_n 2, 1) := by decide +kernel
theorem dX0_ordersBehind_98 : decode cX0_ordersBehind 98 = .ok (.iload 4, 2) := by decide +kernel
theorem dX0_ordersBehind_100 : decode cX0_ordersBehind 100 = .ok (.iconst 1, 1) := by decide +kernel
theorem dX0_ordersBehind_101 : decode cX0_ordersBehind 101 = .ok (.iload 7, 2) := by decide +kernel
theorem dX0_ordersBehind_103 : decode cX0_ordersBehind 103 = .ok (.ishl, 1) := by decide +kernel
theorem dX0_ordersBehind_104 : decode cX0_ordersBehind 104 = .ok (.ior, 1) := by decide +kernel
theorem dX0_ordersBehind_105 : decode cX0_ordersBehind 105 = .ok (.invokevirtual 50, 3) := by decide +kernel
theorem dX0_ordersBehind_108 : decode cX0_ordersBehind 108 = .ok (.iload 5, 2) := by decide +kernel
theorem dX0_ordersBehind_110 : decode cX0_ordersBehind 110 = .ok (.iadd, 1) := by decide +kernel
theorem dX0_ordersBehind_111 : decode cX0_ordersBehind 111 = .ok (.invokevirtual 60, 3) := by decide +kernel
theorem dX0_ordersBehind_114 : decode cX0_ordersBehind 114 = .ok (.iinc 7 1, 3) := by decide +kernel
theorem dX0_ordersBehind_117 : decode cX0_ordersBehind 117 = .ok (.goto (-47), 3) := by decide +kernel
theorem dX0_ordersBehind_120 : decode cX0_ordersBehind 120 = .ok (.iinc 4 1, 3) := by decide +kernel
theorem dX0_ordersBehind_123 : decode cX0_ordersBehind 123 = .ok (.goto (-87), 3) := by decide +kernel
theorem dX0_ordersBehind_126 : decode cX0_ordersBehind 126 = .ok (.aload_n 2, 1) := by decide +kernel
theorem dX0_ordersBehind_127 : decode cX0_ordersBehind 127 = .ok (.iload_n 3, 1) := by decide +kernel
theorem dX0_ordersBehind_128 : decode cX0_ordersBehind 128 = .ok (.invokevirtual 50, 3) := by decide +kernel
theorem dX0_ordersBehind_131 : decode cX0_ordersBehind 131 = .ok (.ireturn, 1) := by decide +kernel
theorem dX0_start_0 : decode cX0_start 0 = .ok (.aload_n 0, 1) := by decide +kernel
theorem dX0_start_1 : decode cX0_start 1 = .ok (.iconst 1, 1) := by decide +kernel
theorem dX0_start_2 : decode cX0_start 2 = .ok (.putfield 39, 3) := by decide +kernel
theorem dX0_start_5 : decode cX0_start 5 = .ok (.aload_n 0, 1) := by decide +kernel
theorem dX0_start_6 : decode cX0_start 6 = .ok (.iload_n 1, 1) := by decide +kernel
theorem dX0_start_7 : decode cX0_start 7 = .ok (.putfield 71, 3) := by decide +kernel
theorem dX0_start_10 : decode cX0_start 10 = .ok (.aload_n 0, 1) := by decide +kernel
theorem dX0_start_11 : decode cX0_start 11 = .ok (.getfield 35, 3) := by decide +kernel
theorem dX0_start_14 : decode cX0_start 14 = .ok (.iconst 0, 1) := by decide +kernel
theorem dX0_start_15 : decode cX0_start 15 = .ok (.iconst (-1), 1) := by decide +kernel
theorem dX0_start_16 : decode cX0_start 16 = .ok (.iconst (-1), 1) := by decide +kernel
theorem dX0_start_17 : decode cX0_start 17 = .ok (.iload_n 1, 1) := by decide +kernel
theorem dX0_start_18 : decode cX0_start 18 = .ok (.invokevirtual 74, 3) := by decide +kernel
theorem dX0_start_21 : decode cX0_start 21 = .ok (.aload_n 0, 1) := by decide +kernel
theorem dX0_start_22 : decode cX0_start 22 = .ok (.iload_n 1, 1) := by decide +kernel
theorem dX0_start_23 : decode cX0_start 23 = .ok (.invokevirtual 78, 3) := by decide +kernel
theorem dX0_start_26 : decode cX0_start 26 = .ok (.ireturn, 1) := by decide +kernel
theorem dX0_mark_0 : decode cX0_mark 0 = .ok (.aload_n 0, 1) := by decide +kernel
theorem dX0_mark_1 : decode cX0_mark 1 = .ok (.dup, 1) := by decide +kernel
theorem dX0_mark_2 : decode cX0_mark 2 = .ok (.getfield 81, 3) := by decide +kernel
theorem dX0_mark_5 : decode cX0_mark 5 = .ok (.iconst 1, 1) := by decide +kernel
theorem dX0_mark_6 : decode cX0_mark 6 = .ok (.iload_n 3, 1) := by decide +kernel
theorem dX0_mark_7 : decode cX0_mark 7 = .ok (.ishl, 1) := by decide +kernel
theorem dX0_mark_8 : decode cX0_mark 8 = .ok (.ior, 1) := by decide +kernel
theorem dX0_mark_9 : decode cX0_mark 9 = .ok (.putfield 81, 3) := by decide +kernel
theorem dX0_mark_12 : decode cX0_mark 12 = .ok (.aload_n 0, 1) := by decide +kernel
theorem dX0_mark_13 : decode cX0_mark 13 = .ok (.dup, 1) := by decide +kernel
theorem dX0_mark_14 : decode cX0_mark 14 = .ok (.getfield 84, 3) := by decide +kernel
theorem dX0_mark_17 : decode cX0_mark 17 = .ok (.iconst 1, 1) := by decide +kernel
theorem dX0_mark_18 : decode cX0_mark 18 = .ok (.iload_n 3, 1) := by decide +kernel
theorem dX0_mark_19 : decode cX0_mark 19 = .ok (.ishl, 1) := by decide +kernel
theorem dX0_mark_20 : decode cX0_mark 20 = .ok (.iconst (-1), 1) := by decide +kernel
theorem dX0_mark_21 : decode cX0_mark 21 = .ok (.ixor, 1) := by decide +kernel
theorem dX0_mark_22 : decode cX0_mark 22 = .ok (.iand, 1) := by decide +kernel
theorem dX0_mark_23 : decode cX0_mark 23 = .ok (.putfield 84, 3) := by decide +kernel
theorem dX0_mark_26 : decode cX0_mark 26 = .ok (.aload_n 0, 1) := by decide +kernel
theorem dX0_mark_27 : decode cX0_mark 27 = .ok (.getfield 35, 3) := by decide +kernel
theorem dX0_mark_30 : decode cX0_mark 30 = .ok (.iload_n 1, 1) := by decide +kernel
theorem dX0_mark_31 : decode cX0_mark 31 = .ok (.iload_n 2, 1) := by decide +kernel
theorem dX0_mark_32 : decode cX0_mark 32 = .ok (.iload_n 3, 1) := by decide +kernel
theorem dX0_mark_33 : decode cX0_mark 33 = .ok (.iload 4, 2) := by decide +kernel
theorem dX0_mark_35 : decode cX0_mark 35 = .ok (.invokevirtual 74, 3) := by decide +kernel
theorem dX0_mark_38 : decode cX0_mark 38 = .ok (.aload_n 0, 1) := by decide +kernel
theorem dX0_mark_39 : decode cX0_mark 39 = .ok (.getfield 81, 3) := by decide +kernel
theorem dX0_mark_42 : decode cX0_mark 42 = .ok (.aload_n 0, 1) := by decide +kernel
theorem dX0_mark_43 : decode cX0_mark 43 = .ok (.invokevirtual 64, 3) := by decide +kernel
theorem dX0_mark_46 : decode cX0_mark 46 = .ok (.if_icmp .ne 8, 3) := by decide +kernel
theorem dX0_mark_49 : decode cX0_mark 49 = .ok (.aload_n 0, 1) := by decide +kernel
theorem dX0_mark_50 : decode cX0_mark 50 = .ok (.iconst 2, 1) := by decide +kernel
theorem dX0_mark_51 : decode cX0_mark 51 = .ok (.putfield 39, 3) := by decide +kernel
theorem dX0_mark_54 : decode cX0_mark 54 = .ok (.aload_n 0, 1) := by decide +kernel
theorem dX0_mark_55 : decode cX0_mark 55 = .ok (.iload 4, 2) := by decide +kernel
theorem dX0_mark_57 : decode cX0_mark 57 = .ok (.invokevirtual 78, 3) := by decide +kernel
theorem dX0_mark_60 : decode cX0_mark 60 = .ok (.ireturn, 1) := by decide +kernel
theorem dX0_openNext_0 : decode cX0_openNext 0 = .ok (.aload_n 0, 1) := by decide +kernel
theorem dX0_openNext_1 : decode cX0_openNext 1 = .ok (.aload_n 0, 1) := by decide +kernel
theorem dX0_openNext_2 : decode cX0_openNext 2 = .ok (.getfield 81, 3) := by decide +kernel
theorem dX0_openNext_5 : decode cX0_openNext 5 = .ok (.invokevirtual 68, 3) := by decide +kernel
theorem dX0_openNext_8 : decode cX0_openNext 8 = .ok (.aload_n 0, 1) := by decide +kernel
theorem dX0_openNext_9 : decode cX0_openNext 9 = .ok (.getfield 84, 3) := by decide +kernel
theorem dX0_openNext_12 : decode cX0_openNext 12 = .ok (.iconst (-1), 1) := by decide +kernel
theorem dX0_openNext_13 : decode cX0_openNext 13 = .ok (.ixor, 1) := by decide +kernel
theorem dX0_openNext_14 : decode cX0_openNext 14 = .ok (.iand, 1) := by decide +kernel
theorem dX0_openNext_15 : decode cX0_openNext 15 = .ok (.istore_n 2, 1) := by decide +kernel
theorem dX0_openNext_16 : decode cX0_openNext 16 = .ok (.iconst 0, 1) := by decide +kernel
theorem dX0_openNext_17 : decode cX0_openNext 17 = .ok (.istore_n 3, 1) := by decide +kernel
theorem dX0_openNext_18 : decode cX0_openNext 18 = .ok (.iload_n 3, 1) := by decide +kernel
theorem dX0_openNext_19 : decode cX0_openNext 19 = .ok (.aload_n 0, 1) := by decide +kernel
theorem dX0_openNext_20 : decode cX0_openNext 20 = .ok (.getfield 43, 3) := by decide +kernel
theorem dX0_openNext_23 : decode cX0_openNext 23 = .ok (.if_icmp .ge 26, 3) := by decide +kernel
theorem dX0_openNext_26 : decode cX0_openNext 26 = .ok (.iload_n 2, 1) := by decide +kernel
theorem dX0_openNext_27 : decode cX0_openNext 27 = .ok (.iload_n 3, 1) := by decide +kernel
theorem dX0_openNext_28 : decode cX0_openNext 28 = .ok (.invokestatic 46, 3) := by decide +kernel
theorem dX0_openNext_31 : decode cX0_openNext 31 = .ok (.ifCond .eq 12, 3) := by decide +kernel
theorem dX0_openNext_34 : decode cX0_openNext 34 = .ok (.aload_n 0, 1) := by decide +kernel
theorem dX0_openNext_35 : decode cX0_openNext 35 = .ok (.getfield 26, 3) := by decide +kernel
theorem dX0_openNext_38 : decode cX0_openNext 38 = .ok (.iload_n 3, 1) := by decide +kernel
theorem dX0_openNext_39 : decode cX0_openNext 39 = .ok (.iload_n 1, 1) := by decide +kernel
theorem dX0_openNext_40 : decode cX0_openNext 40 = .ok (.invokevirtual 60, 3) := by decide +kernel
theorem dX0_openNext_43 : decode cX0_openNext 43 = .ok (.iinc 3 1, 3) := by decide +kernel
theorem dX0_openNext_46 : decode cX0_openNext 46 = .ok (.goto (-28), 3) := by decide +kernel
theorem dX0_openNext_49 : decode cX0_openNext 49 = .ok (.aload_n 0, 1) := by decide +kernel
theorem dX0_openNext_50 : decode cX0_openNext 50 = .ok (.dup, 1) := by decide +kernel
theorem dX0_openNext_51 : decode cX0_openNext 51 = .ok (.getfield 84, 3) := by decide +kernel
theorem dX0_openNext_54 : decode cX0_openNext 54 = .ok (.iload_n 2, 1) := by decide +kernel
theorem dX0_openNext_55 : decode cX0_openNext 55 = .ok (.ior, 1) := by decide +kernel
theorem dX0_openNext_56 : decode cX0_openNext 56 = .ok (.putfield 84, 3) := by decide +kernel
theorem dX0_openNext_59 : decode cX0_openNext 59 = .ok (.iload_n 2, 1) := by decide +kernel
theorem dX0_openNext_60 : decode cX0_openNext 60 = .ok (.invokestatic 87, 3) := by decide +kernel
theorem dX0_openNext_63 : decode cX0_openNext 63 = .ok (.ireturn, 1) := by decide +kernel
theorem dX0_finish_0 : decode cX0_finish 0 = .ok (.aload_n 0, 1) := by decide +kernel
theorem dX0_finish_1 : decode cX0_finish 1 = .ok (.iload_n 1, 1) := by decide +kernel
theorem dX0_finish_2 : decode cX0_finish 2 = .ok (.putfield 39, 3) := by decide +kernel
theorem dX0_finish_5 : decode cX0_finish 5 = .ok (.aload_n 0, 1) := by decide +kernel
theorem dX0_finish_6 : decode cX0_finish 6 = .ok (.iconst 0, 1) := by decide +kernel
theorem dX0_finish_7 : decode cX0_finish 7 = .ok (.putfield 84, 3) := by decide +kernel
theorem dX0_finish_10 : decode cX0_finish 10 = .ok (.aload_n 0, 1) := by decide +kernel
theorem dX0_finish_11 : decode cX0_finish 11 = .ok (.getfield 35, 3) := by decide +kernel
theorem dX0_finish_14 : decode cX0_finish 14 = .ok (.iload_n 2, 1) := by decide +kernel
theorem dX0_finish_15 : decode cX0_finish 15 = .ok (.iload_n 3, 1) := by decide +kernel
theorem dX0_finish_16 : decode cX0_finish 16 = .ok (.iload 4, 2) := by decide +kernel
theorem dX0_finish_18 : decode cX0_finish 18 = .ok (.iload 5, 2) := by decide +kernel
theorem dX0_finish_20 : decode cX0_finish 20 = .ok (.invokevirtual 74, 3) := by decide +kernel
theorem dX0_finish_23 : decode cX0_finish 23 = .ok (.aload_n 0, 1) := by decide +kernel
theorem dX0_finish_24 : decode cX0_finish 24 = .ok (.getfield 43, 3) := by decide +kernel
theorem dX0_finish_27 : decode cX0_finish 27 = .ok (.aload_n 0, 1) := by decide +kernel
theorem dX0_finish_28 : decode cX0_finish 28 = .ok (.getfield 81, 3) := by decide +kernel
theorem dX0_finish_31 : decode cX0_finish 31 = .ok (.invokestatic 87, 3) := by decide +kernel
theorem dX0_finish_34 : decode cX0_finish 34 = .ok (.isub, 1) := by decide +kernel
theorem dX0_finish_35 : decode cX0_finish 35 = .ok (.ireturn, 1) := by decide +kernel
theorem dX0_meetDay_0 : decode cX0_meetDay 0 = .ok (.aload_n 0, 1) := by decide +kernel
theorem dX0_meetDay_1 : decode cX0_meetDay 1 = .ok (.getfield 39, 3) := by decide +kernel
theorem dX0_meetDay_4 : decode cX0_meetDay 4 = .ok (.iconst 1, 1) := by decide +kernel
theorem dX0_meetDay_5 : decode cX0_meetDay 5 = .ok (.if_icmp .eq 5, 3) := by decide +kernel
theorem dX0_meetDay_8 : decode cX0_meetDay 8 = .ok (.iconst 0, 1) := by decide +kernel
theorem dX0_meetDay_9 : decode cX0_meetDay 9 = .ok (.ireturn, 1) := by decide +kernel
theorem dX0_meetDay_10 : decode cX0_meetDay 10 = .ok (.aload_n 0, 1) := by decide +kernel
theorem dX0_meetDay_11 : decode cX0_meetDay 11 = .ok (.getfield 92, 3) := by decide +kernel
theorem dX0_meetDay_14 : decode cX0_meetDay 14 = .ok (.ifCond .le 28, 3) := by decide +kernel
theorem dX0_meetDay_17 : decode cX0_meetDay 17 = .ok (.iload_n 1, 1) := by decide +kernel
theorem dX0_meetDay_18 : decode cX0_meetDay 18 = .ok (.aload_n 0, 1) := by decide +kernel
theorem dX0_meetDay_19 : decode cX0_meetDay 19 = .ok (.getfield 71, 3) := by decide +kernel
theorem dX0_meetDay_22 : decode cX0_meetDay 22 = .ok (.aload_n 0, 1) := by decide +kernel
theorem dX0_meetDay_23 : decode cX0_meetDay 23 = .ok (.getfield 92, 3) := by decide +kernel
theorem dX0_meetDay_26 : decode cX0_meetDay 26 = .ok (.iadd, 1) := by decide +kernel
theorem dX0_meetDay_27 : decode cX0_meetDay 27 = .ok (.if_icmp .ne 15, 3) := by decide +kernel
theorem dX0_meetDay_30 : decode cX0_meetDay 30 = .ok (.aload_n 0, 1) := by decide +kernel
theorem dX0_meetDay_31 : decode cX0_meetDay 31 = .ok (.iconst 5, 1) := by decide +kernel
theorem dX0_meetDay_32 : decode cX0_meetDay 32 = .ok (.iconst 5, 1) := by decide +kernel
theorem dX0_meetDay_33 : decode cX0_meetDay 33 = .ok (.iconst (-1), 1) := by decide +kernel
theorem dX0_meetDay_34 : decode cX0_meetDay 34 = .ok (.iconst (-1), 1) := by decide +kernel
theorem dX0_meetDay_35 : decode cX0_meetDay 35 = .ok (.iload_n 1, 1) := by decide +kernel
theorem dX0_meetDay_36 : decode cX0_meetDay 36 = .ok (.invokevirtual 95, 3) := by decide +kernel
theorem dX0_meetDay_39 : decode cX0_meetDay 39 = .ok (.pop, 1) := by decide +kernel
theorem dX0_meetDay_40 : decode cX0_meetDay 40 = .ok (.iconst 0, 1) := by decide +kernel
theorem dX0_meetDay_41 : decode cX0_meetDay 41 = .ok (.ireturn, 1) := by decide +kernel
theorem dX0_meetDay_42 : decode cX0_meetDay 42 = .ok (.aload_n 0, 1) := by decide +kernel
theorem dX0_meetDay_43 : decode cX0_meetDay 43 = .ok (.iload_n 1, 1) := by decide +kernel
theorem dX0_meetDay_44 : decode cX0_meetDay 44 = .ok (.invokevirtual 99, 3) := by decide +kernel
theorem dX0_meetDay_47 : decode cX0_meetDay 47 = .ok (.ireturn, 1) := by decide +kernel
theorem dX0_remind_0 : decode cX0_remind 0 = .ok (.iconst 0, 1) := by decide +kernel
theorem dX0_remind_1 : decode cX0_remind 1 = .ok (.istore_n 2, 1) := by decide +kernel
theorem dX0_remind_2 : decode cX0_remind 2 = .ok (.iconst 0, 1) := by decide +kernel
theorem dX0_remind_3 : decode cX0_remind 3 = .ok (.istore_n 3, 1) := by decide +kernel
theorem dX0_remind_4 : decode cX0_remind 4 = .ok (.iload_n 3, 1) := by decide +kernel
theorem dX0_remind_5 : decode cX0_remind 5 = .ok (.aload_n 0, 1) := by decide +kernel
theorem dX0_remind_6 : decode cX0_remind 6 = .ok (.getfield 43, 3) := by decide +kernel
theorem dX0_remind_9 : decode cX0_remind 9 = .ok (.if_icmp .ge 70, 3) := by decide +kernel
theorem dX0_remind_12 : decode cX0_remind 12 = .ok (.aload_n 0, 1) := by decide +kernel
theorem dX0_remind_13 : decode cX0_remind 13 = .ok (.iload_n 3, 1) := by decide +kernel
theorem dX0_remind_14 : decode cX0_remind 14 = .ok (.invokevirtual 102, 3) := by decide +kernel
theorem dX0_remind_17 : decode cX0_remind 17 = .ok (.ifCond .eq 56, 3) := by decide +kernel
theorem dX0_remind_20 : decode cX0_remind 20 = .ok (.aload_n 0, 1) := by decide +kernel
theorem dX0_remind_21 : decode cX0_remind 21 = .ok (.iload_n 3, 1) := by decide +kernel
theorem dX0_remind_22 : decode cX0_remind 22 = .ok (.iload_n 1, 1) := by decide +kernel
theorem dX0_remind_23 : decode cX0_remind 23 = .ok (.invokevirtual 106, 3) := by decide +kernel
theorem dX0_remind_26 : decode cX0_remind 26 = .ok (.aload_n 0, 1) := by decide +kernel
theorem dX0_remind_27 : decode cX0_remind 27 = .ok (.getfield 109, 3) := by decide +kernel
theorem dX0_remind_30 : decode cX0_remind 30 = .ok (.if_icmp .ne 43, 3) := by decide +kernel
theorem dX0_remind_33 : decode cX0_remind 33 = .ok (.aload_n 0, 1) := by decide +kernel
theorem dX0_remind_34 : decode cX0_remind 34 = .ok (.getfield 29, 3) := by decide +kernel
theorem dX0_remind_37 : decode cX0_remind 37 = .ok (.iload_n 3, 1) := by decide +kernel
theorem dX0_remind_38 : decode cX0_remind 38 = .ok (.aload_n 0, 1) := by decide +kernel
theorem dX0_remind_39 : decode cX0_remind 39 = .ok (.getfield 29, 3) := by decide +kernel
theorem dX0_remind_42 : decode cX0_remind 42 = .ok (.iload_n 3, 1) := by decide +kernel
theorem dX0_remind_43 : decode cX0_remind 43 = .ok (.invokevirtual 50, 3) := by decide +kernel
theorem dX0_remind_46 : decode cX0_remind 46 = .ok (.iconst 1, 1) := by decide +kernel
theorem dX0_remind_47 : decode cX0_remind 47 = .ok (.iadd, 1) := by decide +kernel
theorem dX0_remind_48 : decode cX0_remind 48 = .ok (.invokevirtual 60, 3) := by decide +kernel
theorem dX0_remind_51 : decode cX0_remind 51 = .ok (.aload_n 0, 1) := by decide +kernel
theorem dX0_remind_52 : decode cX0_remind 52 = .ok (.getfield 35, 3) := by decide +kernel
theorem dX0_remind_55 : decode cX0_remind 55 = .ok (.bipush 6, 2) := by decide +kernel
theorem dX0_remind_57 : decode cX0_remind 57 = .ok (.aload_n 0, 1) := by decide +kernel
theorem dX0_remind_58 : decode cX0_remind 58 = .ok (.getfield 14, 3) := by decide +kernel
theorem dX0_remind_61 : decode cX0_remind 61 = .ok (.iload_n 3, 1) := by decide +kernel
theorem dX0_remind_62 : decode cX0_remind 62 = .ok (.invokevirtual 50, 3) := by decide +kernel
theorem dX0_remind_65 : decode cX0_remind 65 = .ok (.iload_n 3, 1) := by decide +kernel
theorem dX0_remind_66 : decode cX0_remind 66 = .ok (.iload_n 1, 1) := by decide +kernel
theorem dX0_remind_67 : decode cX0_remind 67 = .ok (.invokevirtual 74, 3) := by decide +kernel
theorem dX0_remind_70 : decode cX0_remind 70 = .ok (.iinc 2 1, 3) := by decide +kernel
theorem dX0_remind_73 : decode cX0_remind 73 = .ok (.iinc 3 1, 3) := by decide +kernel
theorem dX0_remind_76 : decode cX0_remind 76 = .ok (.goto (-72), 3) := by decide +kernel
theorem dX0_remind_79 : decode cX0_remind 79 = .ok (.iload_n 2, 1) := by decide +kernel
theorem dX0_remind_80 : decode cX0_remind 80 = .ok (.ireturn, 1) := by decide +kernel
theorem dX0_reminderBehind_0 : decode cX0_reminderBehind 0 = .ok (.iconst (-1), 1) := by decide +kernel
theorem dX0_reminderBehind_1 : decode cX0_reminderBehind 1 = .ok (.istore_n 2, 1) := by decide +kernel
theorem dX0_reminderBehind_2 : decode cX0_reminderBehind 2 = .ok (.iconst 0, 1) := by decide +kernel
theorem dX0_reminderBehind_3 : decode cX0_reminderBehind 3 = .ok (.istore_n 3, 1) := by decide +kernel
theorem dX0_reminderBehind_4 : decode cX0_reminderBehind 4 = .ok (.iload_n 3, 1) := by decide +kernel
theorem dX0_reminderBehind_5 : decode cX0_reminderBehind 5 = .ok (.aload_n 0, 1) := by decide +kernel
theorem dX0_reminderBehind_6 : decode cX0_reminderBehind 6 = .ok (.getfield 43, 3) := by decide +kernel
theorem dX0_reminderBehind_9 : decode cX0_reminderBehind 9 = .ok (.if_icmp .ge 44, 3) := by decide +kernel
theorem dX0_reminderBehind_12 : decode cX0_reminderBehind 12 = .ok (.aload_n 0, 1) := by decide +kernel
theorem dX0_reminderBehind_13 : decode cX0_reminderBehind 13 = .ok (.iload_n 3, 1) := by decide +kernel
theorem dX0_reminderBehind_14 : decode cX0_reminderBehind 14 = .ok (.invokevirtual 102, 3) := by decide +kernel
theorem dX0_reminderBehind_17 : decode cX0_reminderBehind 17 = .ok (.ifCond .eq 30, 3) := by decide +kernel
theorem dX0_reminderBehind_20 : decode cX0_reminderBehind 20 = .ok (.iload_n 1, 1) := by decide +kernel
theorem dX0_reminderBehind_21 : decode cX0_reminderBehind 21 = .ok (.aload_n 0, 1) := by decide +kernel
theorem dX0_reminderBehind_22 : decode cX0_reminderBehind 22 = .ok (.iload_n 3, 1) := by decide +kernel
theorem dX0_reminderBehind_23 : decode cX0_reminderBehind 23 = .ok (.iload_n 1, 1) := by decide +kernel
theorem dX0_reminderBehind_24 : decode cX0_reminderBehind 24 = .ok (.invokevirtual 106, 3) := by decide +kernel
theorem dX0_reminderBehind_27 : decode cX0_reminderBehind 27 = .ok (.iadd, 1) := by decide +kernel
theorem dX0_reminderBehind_28 : decode cX0_reminderBehind 28 = .ok (.istore 4, 2) := by decide +kernel
theorem dX0_reminderBehind_30 : decode cX0_reminderBehind 30 = .ok (.iload_n 2, 1) := by decide +kernel
theorem dX0_reminderBehind_31 : decode cX0_reminderBehind 31 = .ok (.iconst (-1), 1) := by decide +kernel
theorem dX0_reminderBehind_32 : decode cX0_reminderBehind 32 = .ok (.if_icmp .ne 8, 3) := by decide +kernel
theorem dX0_reminderBehind_35 : decode cX0_reminderBehind 35 = .ok (.iload 4, 2) := by decide +kernel
theorem dX0_reminderBehind_37 : decode cX0_reminderBehind 37 = .ok (.goto 9, 3) := by decide +kernel
theorem dX0_reminderBehind_40 : decode cX0_reminderBehind 40 = .ok (.iload_n 2, 1) := by decide +kernel
theorem dX0_reminderBehind_41 : decode cX0_reminderBehind 41 = .ok (.iload 4, 2) := by decide +kernel
theorem dX0_reminderBehind_43 : decode cX0_reminderBehind 43 = .ok (.invokestatic 112, 3) := by decide +kernel
theorem dX0_reminderBehind_46 : decode cX0_reminderBehind 46 = .ok (.istore_n 2, 1) := by decide +kernel
theorem dX0_reminderBehind_47 : decode cX0_reminderBehind 47 = .ok (.iinc 3 1, 3) := by decide +kernel
theorem dX0_reminderBehind_50 : decode cX0_reminderBehind 50 = .ok (.goto (-46), 3) := by decide +kernel
theorem dX0_reminderBehind_53 : decode cX0_reminderBehind 53 = .ok (.iload_n 2, 1) := by decide +kernel
theorem dX0_reminderBehind_54 : decode cX0_reminderBehind 54 = .ok (.ireturn, 1) := by decide +kernel
theorem dX0_canRemind_0 : decode cX0_canRemind 0 = .ok (.aload_n 0, 1) := by decide +kernel
theorem dX0_canRemind_1 : decode cX0_canRemind 1 = .ok (.getfield 109, 3) := by decide +kernel
theorem dX0_canRemind_4 : decode cX0_canRemind 4 = .ok (.ifCond .le 30, 3) := by decide +kernel
theorem dX0_canRemind_7 : decode cX0_canRemind 7 = .ok (.aload_n 0, 1) := by decide +kernel
theorem dX0_canRemind_8 : decode cX0_canRemind 8 = .ok (.getfield 84, 3) := by decide +kernel
theorem dX0_canRemind_11 : decode cX0_canRemind 11 = .ok (.iload_n 1, 1) := by decide +kernel
theorem dX0_canRemind_12 : decode cX0_canRemind 12 = .ok (.invokestatic 46, 3) := by decide +kernel
theorem dX0_canRemind_15 : decode cX0_canRemind 15 = .ok (.ifCond .eq 19, 3) := by decide +kernel
theorem dX0_canRemind_18 : decode cX0_canRemind 18 = .ok (.aload_n 0, 1) := by decide +kernel
theorem dX0_canRemind_19 : decode cX0_canRemind 19 = .ok (.getfield 29, 3) := by decide +kernel
theorem dX0_canRemind_22 : decode cX0_canRemind 22 = .ok (.iload_n 1, 1) := by decide +kernel
theorem dX0_canRemind_23 : decode cX0_canRemind 23 = .ok (.invokevirtual 50, 3) := by decide +kernel
theorem dX0_canRemind_26 : decode cX0_canRemind 26 = .ok (.iconst 5, 1) := by decide +kernel
theorem dX0_canRemind_27 : decode cX0_canRemind 27 = .ok (.if_icmp .ge 7, 3) := by decide +kernel
theorem dX0_canRemind_30 : decode cX0_canRemind 30 = .ok (.iconst 1, 1) := by decide +kernel
theorem dX0_canRemind_31 : decode cX0_canRemind 31 = .ok (.goto 4, 3) := by decide +kernel
theorem dX0_canRemind_34 : decode cX0_canRemind 34 = .ok (.iconst 0, 1) := by decide +kernel
theorem dX0_canRemind_35 : decode cX0_canRemind 35 = .ok (.ireturn, 1) := by decide +kernel
theorem dX0_daysToPace_0 : decode cX0_daysToPace 0 = .ok (.aload_n 0, 1) := by decide +kernel
theorem dX0_daysToPace_1 : decode cX0_daysToPace 1 = .ok (.getfield 109, 3) := by decide +kernel
theorem dX0_daysToPace_4 : decode cX0_daysToPace 4 = .ok (.ifCond .gt 7, 3) := by decide +kernel
theorem dX0_daysToPace_7 : decode cX0_daysToPace 7 = .ok (.iconst 0, 1) := by decide +kernel
theorem dX0_daysToPace_8 : decode cX0_daysToPace 8 = .ok (.goto 23, 3) := by decide +kernel
theorem dX0_daysToPace_11 : decode cX0_daysToPace 11 = .ok (.aload_n 0, 1) := by decide +kernel
theorem dX0_daysToPace_12 : decode cX0_daysToPace 12 = .ok (.getfield 109, 3) := by decide +kernel
theorem dX0_daysToPace_15 : decode cX0_daysToPace 15 = .ok (.iload_n 2, 1) := by decide +kernel
theorem dX0_daysToPace_16 : decode cX0_daysToPace 16 = .ok (.aload_n 0, 1) := by decide +kernel
theorem dX0_daysToPace_17 : decode cX0_daysToPace 17 = .ok (.getfield 26, 3) := by decide +kernel
theorem dX0_daysToPace_20 : decode cX0_daysToPace 20 = .ok (.iload_n 1, 1) := by decide +kernel
theorem dX0_daysToPace_21 : decode cX0_daysToPace 21 = .ok (.invokevirtual 50, 3) := by decide +kernel
theorem dX0_daysToPace_24 : decode cX0_daysToPace 24 = .ok (.isub, 1) := by decide +kernel
theorem dX0_daysToPace_25 : decode cX0_daysToPace 25 = .ok (.aload_n 0, 1) := by decide +kernel
theorem dX0_daysToPace_26 : decode cX0_daysToPace 26 = .ok (.getfield 109, 3) := by decide +kernel
theorem dX0_daysToPace_29 : decode cX0_daysToPace 29 = .ok (.irem, 1) := by decide +kernel
theorem dX0_daysToPace_30 : decode cX0_daysToPace 30 = .ok (.isub, 1) := by decide +kernel
theorem dX0_daysToPace_31 : decode cX0_daysToPace 31 = .ok (.ireturn, 1) := by decide +kernel
theorem dX0_stateOf_0 : decode cX0_stateOf 0 = .ok (.aload_n 0, 1) := by decide +kernel
theorem dX0_stateOf_1 : decode cX0_stateOf 1 = .ok (.getfield 81, 3) := by decide +kernel
theorem dX0_stateOf_4 : decode cX0_stateOf 4 = .ok (.iload_n 1, 1) := by decide +kernel
theorem dX0_stateOf_5 : decode cX0_stateOf 5 = .ok (.invokestatic 46, 3) := by decide +kernel
theorem dX0_stateOf_8 : decode cX0_stateOf 8 = .ok (.ifCond .eq 5, 3) := by decide +kernel
theorem dX0_stateOf_11 : decode cX0_stateOf 11 = .ok (.iconst 2, 1) := by decide +kernel
theorem dX0_stateOf_12 : decode cX0_stateOf 12 = .ok (.ireturn, 1) := by decide +kernel
theorem dX0_stateOf_13 : decode cX0_stateOf 13 = .ok (.aload_n 0, 1) := by decide +kernel
theorem dX0_stateOf_14 : decode cX0_stateOf 14 = .ok (.getfield 84, 3) := by decide +kernel
theorem dX0_stateOf_17 : decode cX0_stateOf 17 = .ok (.iload_n 1, 1) := by decide +kernel
theorem dX0_stateOf_18 : decode cX0_stateOf 18 = .ok (.invokestatic 46, 3) := by decide +kernel
theorem dX0_stateOf_21 : decode cX0_stateOf 21 = .ok (.ifCond .eq 5, 3) := by decide +kernel
theorem dX0_stateOf_24 : decode cX0_stateOf 24 = .ok (.iconst 1, 1) := by decide +kernel
theorem dX0_stateOf_25 : decode cX0_stateOf 25 = .ok (.ireturn, 1) := by decide +kernel
theorem dX0_stateOf_26 : decode cX0_stateOf 26 = .ok (.aload_n 0, 1) := by decide +kernel
theorem dX0_stateOf_27 : decode cX0_stateOf 27 = .ok (.getfield 39, 3) := by decide +kernel
theorem dX0_stateOf_30 : decode cX0_stateOf 30 = .ok (.ifCond .eq 11, 3) := by decide +kernel
theorem dX0_stateOf_33 : decode cX0_stateOf 33 = .ok (.aload_n 0, 1) := by decide +kernel
theorem dX0_stateOf_34 : decode cX0_stateOf 34 = .ok (.getfield 39, 3) := by decide +kernel
theorem dX0_stateOf_37 : decode cX0_stateOf 37 = .ok (.iconst 1, 1) := by decide +kernel
theorem dX0_stateOf_38 : decode cX0_stateOf 38 = .ok (.if_icmp .ne 7, 3) := by decide +kernel
theorem dX0_stateOf_41 : decode cX0_stateOf 41 = .ok (.iconst 0, 1) := by decide +kernel
theorem dX0_stateOf_42 : decode cX0_stateOf 42 = .ok (.goto 4, 3) := by decide +kernel
theorem dX0_stateOf_45 : decode cX0_stateOf 45 = .ok (.iconst 3, 1) := by decide +kernel
theorem dX0_stateOf_46 : decode cX0_stateOf 46 = .ok (.ireturn, 1) := by decide +kernel
theorem dX1_init_0 : decode cX1_init 0 = .ok (.aload_n 0, 1) := by decide +kernel
theorem dX1_init_1 : decode cX1_init 1 = .ok (.invokespecial 3, 3) := by decide +kernel
theorem dX1_init_4 : decode cX1_init 4 = .ok (.aload_n 0, 1) := by decide +kernel
theorem dX1_init_5 : decode cX1_init 5 = .ok (.new 9, 3) := by decide +kernel
theorem dX1_init_8 : decode cX1_init 8 = .ok (.dup, 1) := by decide +kernel
theorem dX1_init_9 : decode cX1_init 9 = .ok (.bipush 49, 2) := by decide +kernel
theorem dX1_init_11 : decode cX1_init 11 = .ok (.invokespecial 11, 3) := by decide +kernel
theorem dX1_init_14 : decode cX1_init 14 = .ok (.putfield 14, 3) := by decide +kernel
theorem dX1_init_17 : decode cX1_init 17 = .ok (.aload_n 0, 1) := by decide +kernel
theorem dX1_init_18 : decode cX1_init 18 = .ok (.new 9, 3) := by decide +kernel
theorem dX1_init_21 : decode cX1_init 21 = .ok (.dup, 1) := by decide +kernel
theorem dX1_init_22 : decode cX1_init 22 = .ok (.bipush 49, 2) := by decide +kernel
theorem dX1_init_24 : decode cX1_init 24 = .ok (.invokespecial 11, 3) := by decide +kernel
theorem dX1_init_27 : decode cX1_init 27 = .ok (.putfield 20, 3) := by decide +kernel
theorem dX1_init_30 : decode cX1_init 30 = .ok (.aload_n 0, 1) := by decide +kernel
theorem dX1_init_31 : decode cX1_init 31 = .ok (.new 9, 3) := by decide +kernel
theorem dX1_init_34 : decode cX1_init 34 = .ok (.dup, 1) := by decide +kernel
theorem dX1_init_35 : decode cX1_init 35 = .ok (.bipush 49, 2) := by decide +kernel
theorem dX1_init_37 : decode cX1_init 37 = .ok (.invokespecial 11, 3) := by decide +kernel
theorem dX1_init_40 : decode cX1_init 40 = .ok (.putfield 23, 3) := by decide +kernel
theorem dX1_init_43 : decode cX1_init 43 = .ok (.aload_n 0, 1) := by decide +kernel
theorem dX1_init_44 : decode cX1_init 44 = .ok (.new 9, 3) := by decide +kernel
theorem dX1_init_47 : decode cX1_init 47 = .ok (.dup, 1) := by decide +kernel
theorem dX1_init_48 : decode cX1_init 48 = .ok (.bipush 49, 2) := by decide +kernel
theorem dX1_init_50 : decode cX1_init 50 = .ok (.invokespecial 11, 3) := by decide +kernel
theorem dX1_init_53 : decode cX1_init 53 = .ok (.putfield 26, 3) := by decide +kernel
theorem dX1_init_56 : decode cX1_init 56 = .ok (.return_, 1) := by decide +kernel
theorem dX1_add_0 : decode cX1_add 0 = .ok (.aload_n 0, 1) := by decide +kernel
theorem dX1_add_1 : decode cX1_add 1 = .ok (.getfield 29, 3) := by decide +kernel
theorem dX1_add_4 : decode cX1_add 4 = .ok (.bipush 49, 2) := by decide +kernel
theorem dX1_add_6 : decode cX1_add 6 = .ok (.if_icmp .lt 4, 3) := by decide +kernel
theorem dX1_add_9 : decode cX1_add 9 = .ok (.return_, 1) := by decide +kernel
theorem dX1_add_10 : decode cX1_add 10 = .ok (.aload_n 0, 1) := by decide +kernel
theorem dX1_add_11 : decode cX1_add 11 = .ok (.getfield 14, 3) := by decide +kernel
theorem dX1_add_14 : decode cX1_add 14 = .ok (.aload_n 0, 1) := by decide +kernel
theorem dX1_add_15 : decode cX1_add 15 = .ok (.getfield 29, 3) := by decide +kernel
theorem dX1_add_18 : decode cX1_add 18 = .ok (.iload_n 1, 1) := by decide +kernel
theorem dX1_add_19 : decode cX1_add 19 = .ok (.invokevirtual 33, 3) := by decide +kernel
theorem dX1_add_22 : decode cX1_add 22 = .ok (.aload_n 0, 1) := by decide +kernel
theorem dX1_add_23 : decode cX1_add 23 = .ok (.getfield 20, 3) := by decide +kernel
theorem dX1_add_26 : decode cX1_add 26 = .ok (.aload_n 0, 1) := by decide +kernel
theorem dX1_add_27 : decode cX1_add 27 = .ok (.getfield 29, 3) := by decide +kernel
theorem dX1_add_30 : decode cX1_add 30 = .ok (.iload_n 2, 1) := by decide +kernel
theorem dX1_add_31 : decode cX1_add 31 = .ok (.invokevirtual 33, 3) := by decide +kernel
theorem dX1_add_34 : decode cX1_add 34 = .ok (.aload_n 0, 1) := by decide +kernel
theorem dX1_add_35 : decode cX1_add 35 = .ok (.getfield 23, 3) := by decide +kernel
theorem dX1_add_38 : decode cX1_add 38 = .ok (.aload_n 0, 1) := by decide +kernel
theorem dX1_add_39 : decode cX1_add 39 = .ok (.getfield 29, 3) := by decide +kernel
theorem dX1_add_42 : decode cX1_add 42 = .ok (.iload_n 3, 1) := by decide +kernel
theorem dX1_add_43 : decode cX1_add 43 = .ok (.invokevirtual 33, 3) := by decide +kernel
theorem dX1_add_46 : decode cX1_add 46 = .ok (.aload_n 0, 1) := by decide +kernel
theorem dX1_add_47 : decode cX1_add 47 = .ok (.getfield 26, 3) := by decide +kernel
theorem dX1_add_50 : decode cX1_add 50 = .ok (.aload_n 0, 1) := by decide +kernel
theorem dX1_add_51 : decode cX1_add 51 = .ok (.getfield 29, 3) := by decide +kernel
theorem dX1_add_54 : decode cX1_add 54 = .ok (.iload 4, 2) := by decide +kernel
theorem dX1_add_56 : decode cX1_add 56 = .ok (.invokevirtual 33, 3) := by decide +kernel
theorem dX1_add_59 : decode cX1_add 59 = .ok (.aload_n 0, 1) := by decide +kernel
theorem dX1_add_60 : decode cX1_add 60 = .ok (.dup, 1) := by decide +kernel
theorem dX1_add_61 : decode cX1_add 61 = .ok (.getfield 29, 3) := by decide +kernel
theorem dX1_add_64 : decode cX1_add 64 = .ok (.iconst 1, 1) := by decide +kernel
theorem dX1_add_65 : decode cX1_add 65 = .ok (.iadd, 1) := by decide +kernel
theorem dX1_add_66 : decode cX1_add 66 = .ok (.putfield 29, 3) := by decide +kernel
theorem dX1_add_69 : decode cX1_add 69 = .ok (.return_, 1) := by decide +kernel
theorem dX1_sealBehind_0 : decode cX1_sealBehind 0 = .ok (.iconst 1, 1) := by decide +kernel
theorem dX1_sealBehind_1 : decode cX1_sealBehind 1 = .ok (.istore_n 2, 1) := by decide +kernel
theorem dX1_sealBehind_2 : decode cX1_sealBehind 2 = .ok (.iconst 0, 1) := by decide +kernel
theorem dX1_sealBehind_3 : decode cX1_sealBehind 3 = .ok (.istore_n 3, 1) := by decide +kernel
theorem dX1_sealBehind_4 : decode cX1_sealBehind 4 = .ok (.iload_n 3, 1) := by decide +kernel
theorem dX1_sealBehind_5 : decode cX1_sealBehind 5 = .ok (.iload_n 1, 1) := by decide +kernel
theorem dX1_sealBehind_6 : decode cX1_sealBehind 6 = .ok (.if_icmp .ge 71, 3) := by decide +kernel
theorem dX1_sealBehind_9 : decode cX1_sealBehind 9 = .ok (.bipush 31, 2) := by decide +kernel
theorem dX1_sealBehind_11 : decode cX1_sealBehind 11 = .ok (.iload_n 2, 1) := by decide +kernel
theorem dX1_sealBehind_12 : decode cX1_sealBehind 12 = .ok (.imul, 1) := by decide +kernel
theorem dX1_sealBehind_13 : decode cX1_sealBehind 13 = .ok (.bipush 7, 2) := by decide +kernel
theorem dX1_sealBehind_15 : decode cX1_sealBehind 15 = .ok (.aload_n 0, 1) := by decide +kernel
theorem dX1_sealBehind_16 : decode cX1_sealBehind 16 = .ok (.getfield 14, 3) := by decide +kernel
theorem dX1_sealBehind_19 : decode cX1_sealBehind 19 = .ok (.iload_n 3, 1) := by decide +kernel
theorem dX1_sealBehind_20 : decode cX1_sealBehind 20 = .ok (.invokevirtual 37, 3) := by decide +kernel
theorem dX1_sealBehind_23 : decode cX1_sealBehind 23 = .ok (.imul, 1) := by decide +kernel
theorem dX1_sealBehind_24 : decode cX1_sealBehind 24 = .ok (.iadd, 1) := by decide +kernel
theorem dX1_sealBehind_25 : decode cX1_sealBehind 25 = .ok (.bipush 11, 2) := by decide +kernel
theorem dX1_sealBehind_27 : decode cX1_sealBehind 27 = .ok (.aload_n 0, 1) := by decide +kernel
theorem dX1_sealBehind_28 : decode cX1_sealBehind 28 = .ok (.getfield 20, 3) := by decide +kernel
theorem dX1_sealBehind_31 : decode cX1_sealBehind 31 = .ok (.iload_n 3, 1) := by decide +kernel
theorem dX1_sealBehind_32 : decode cX1_sealBehind 32 = .ok (.invokevirtual 37, 3) := by decide +kernel
theorem dX1_sealBehind_35 : decode cX1_sealBehind 35 = .ok (.iconst 1, 1) := by decide +kernel
theorem dX1_sealBehind_36 : decode cX1_sealBehind 36 = .ok (.iadd, 1) := by decide +kernel
theorem dX1_sealBehind_37 : decode cX1_sealBehind 37 = .ok (.imul, 1) := by decide +kernel
theorem dX1_sealBehind_38 : decode cX1_sealBehind 38 = .ok (.iadd, 1) := by decide +kernel
theorem dX1_sealBehind_39 : decode cX1_sealBehind 39 = .ok (.bipush 13, 2) := by decide +kernel
theorem dX1_sealBehind_41 : decode cX1_sealBehind 41 = .ok (.aload_n 0, 1) := by decide +kernel
theorem dX1_sealBehind_42 : decode cX1_sealBehind 42 = .ok (.getfield 23, 3) := by decide +kernel
theorem dX1_sealBehind_45 : decode cX1_sealBehind 45 = .ok (.iload_n 3, 1) := by decide +kernel
theorem dX1_sealBehind_46 : decode cX1_sealBehind 46 = .ok (.invokevirtual 37, 3) := by decide +kernel
theorem dX1_sealBehind_49 : decode cX1_sealBehind 49 = .ok (.iconst 1, 1) := by decide +kernel
theorem dX1_sealBehind_50 : decode cX1_sealBehind 50 = .ok (.iadd, 1) := by decide +kernel
theorem dX1_sealBehind_51 : decode cX1_sealBehind 51 = .ok (.imul, 1) := by decide +kernel
theorem dX1_sealBehind_52 : decode cX1_sealBehind 52 = .ok (.iadd, 1) := by decide +kernel
theorem dX1_sealBehind_53 : decode cX1_sealBehind 53 = .ok (.bipush 17, 2) := by decide +kernel
theorem dX1_sealBehind_55 : decode cX1_sealBehind 55 = .ok (.aload_n 0, 1) := by decide +kernel
theorem dX1_sealBehind_56 : decode cX1_sealBehind 56 = .ok (.getfield 26, 3) := by decide +kernel
theorem dX1_sealBehind_59 : decode cX1_sealBehind 59 = .ok (.iload_n 3, 1) := by decide +kernel
theorem dX1_sealBehind_60 : decode cX1_sealBehind 60 = .ok (.invokevirtual 37, 3) := by decide +kernel
theorem dX1_sealBehind_63 : decode cX1_sealBehind 63 = .ok (.imul, 1) := by decide +kernel
theorem dX1_sealBehind_64 : decode cX1_sealBehind 64 = .ok (.iadd, 1) := by decide +kernel
theorem dX1_sealBehind_65 : decode cX1_sealBehind 65 = .ok (.istore_n 2, 1) := by decide +kernel
theorem dX1_sealBehind_66 : decode cX1_sealBehind 66 = .ok (.iload_n 2, 1) := by decide +kernel
theorem dX1_sealBehind_67 : decode cX1_sealBehind 67 = .ok (.ldc 41, 2) := by decide +kernel
theorem dX1_sealBehind_69 : decode cX1_sealBehind 69 = .ok (.irem, 1) := by decide +kernel
theorem dX1_sealBehind_70 : decode cX1_sealBehind 70 = .ok (.istore_n 2, 1) := by decide +kernel
theorem dX1_sealBehind_71 : decode cX1_sealBehind 71 = .ok (.iinc 3 1, 3) := by decide +kernel
theorem dX1_sealBehind_74 : decode cX1_sealBehind 74 = .ok (.goto (-70), 3) := by decide +kernel
theorem dX1_sealBehind_77 : decode cX1_sealBehind 77 = .ok (.iload_n 2, 1) := by decide +kernel
theorem dX1_sealBehind_78 : decode cX1_sealBehind 78 = .ok (.ireturn, 1) := by decide +kernel
theorem dX1_signedAfter_0 : decode cX1_signedAfter 0 = .ok (.iconst 0, 1) := by decide +kernel
theorem dX1_signedAfter_1 : decode cX1_signedAfter 1 = .ok (.istore_n 2, 1) := by decide +kernel
theorem dX1_signedAfter_2 : decode cX1_signedAfter 2 = .ok (.iconst 0, 1) := by decide +kernel
theorem dX1_signedAfter_3 : decode cX1_signedAfter 3 = .ok (.istore_n 3, 1) := by decide +kernel
theorem dX1_signedAfter_4 : decode cX1_signedAfter 4 = .ok (.iload_n 3, 1) := by decide +kernel
theorem dX1_signedAfter_5 : decode cX1_signedAfter 5 = .ok (.iload_n 1, 1) := by decide +kernel
theorem dX1_signedAfter_6 : decode cX1_signedAfter 6 = .ok (.if_icmp .ge 36, 3) := by decide +kernel
theorem dX1_signedAfter_9 : decode cX1_signedAfter 9 = .ok (.aload_n 0, 1) := by decide +kernel
theorem dX1_signedAfter_10 : decode cX1_signedAfter 10 = .ok (.getfield 14, 3) := by decide +kernel
theorem dX1_signedAfter_13 : decode cX1_signedAfter 13 = .ok (.iload_n 3, 1) := by decide +kernel
theorem dX1_signedAfter_14 : decode cX1_signedAfter 14 = .ok (.invokevirtual 37, 3) := by decide +kernel
theorem dX1_signedAfter_17 : decode cX1_signedAfter 17 = .ok (.invokestatic 42, 3) := by decide +kernel
theorem dX1_signedAfter_20 : decode cX1_signedAfter 20 = .ok (.ifCond .eq 16, 3) := by decide +kernel
theorem dX1_signedAfter_23 : decode cX1_signedAfter 23 = .ok (.iload_n 2, 1) := by decide +kernel
theorem dX1_signedAfter_24 : decode cX1_signedAfter 24 = .ok (.iconst 1, 1) := by decide +kernel
theorem dX1_signedAfter_25 : decode cX1_signedAfter 25 = .ok (.aload_n 0, 1) := by decide +kernel
theorem dX1_signedAfter_26 : decode cX1_signedAfter 26 = .ok (.getfield 23, 3) := by decide +kernel
theorem dX1_signedAfter_29 : decode cX1_signedAfter 29 = .ok (.iload_n 3, 1) := by decide +kernel
theorem dX1_signedAfter_30 : decode cX1_signedAfter 30 = .ok (.invokevirtual 37, 3) := by decide +kernel
theorem dX1_signedAfter_33 : decode cX1_signedAfter 33 = .ok (.ishl, 1) := by decide +kernel
theorem dX1_signedAfter_34 : decode cX1_signedAfter 34 = .ok (.ior, 1) := by decide +kernel
theorem dX1_signedAfter_35 : decode cX1_signedAfter 35 = .ok (.istore_n 2, 1) := by decide +kernel
theorem dX1_signedAfter_36 : decode cX1_signedAfter 36 = .ok (.iinc 3 1, 3) := by decide +kernel
theorem dX1_signedAfter_39 : decode cX1_signedAfter 39 = .ok (.goto (-35), 3) := by decide +kernel
theorem dX1_signedAfter_42 : decode cX1_signedAfter 42 = .ok (.iload_n 2, 1) := by decide +kernel
theorem dX1_signedAfter_43 : decode cX1_signedAfter 43 = .ok (.ireturn, 1) := by decide +kernel
theorem dX1_stateAfter_0 : decode cX1_stateAfter 0 = .ok (.iconst 0, 1) := by decide +kernel
theorem dX1_stateAfter_1 : decode cX1_stateAfter 1 = .ok (.istore_n 3, 1) := by decide +kernel
theorem dX1_stateAfter_2 : decode cX1_stateAfter 2 = .ok (.iconst 0, 1) := by decide +kernel
theorem dX1_stateAfter_3 : decode cX1_stateAfter 3 = .ok (.istore 4, 2) := by decide +kernel
theorem dX1_stateAfter_5 : decode cX1_stateAfter 5 = .ok (.iconst 0, 1) := by decide +kernel
theorem dX1_stateAfter_6 : decode cX1_stateAfter 6 = .ok (.istore 5, 2) := by decide +kernel
theorem dX1_stateAfter_8 : decode cX1_stateAfter 8 = .ok (.iload 5, 2) := by decide +kernel
theorem dX1_stateAfter_10 : decode cX1_stateAfter 10 = .ok (.iload_n 1, 1) := by decide +kernel
theorem dX1_stateAfter_11 : decode cX1_stateAfter 11 = .ok (.if_icmp .ge 49, 3) := by decide +kernel
theorem dX1_stateAfter_14 : decode cX1_stateAfter 14 = .ok (.aload_n 0, 1) := by decide +kernel
theorem dX1_stateAfter_15 : decode cX1_stateAfter 15 = .ok (.getfield 14, 3) := by decide +kernel
theorem dX1_stateAfter_18 : decode cX1_stateAfter 18 = .ok (.iload 5, 2) := by decide +kernel
theorem dX1_stateAfter_20 : decode cX1_stateAfter 20 = .ok (.invokevirtual 37, 3) := by decide +kernel
theorem dX1_stateAfter_23 : decode cX1_stateAfter 23 = .ok (.istore 6, 2) := by decide +kernel
theorem dX1_stateAfter_25 : decode cX1_stateAfter 25 = .ok (.iload 6, 2) := by decide +kernel
theorem dX1_stateAfter_27 : decode cX1_stateAfter 27 = .ok (.invokestatic 42, 3) := by decide +kernel
theorem dX1_stateAfter_30 : decode cX1_stateAfter 30 = .ok (.ifCond .eq 6, 3) := by decide +kernel
theorem dX1_stateAfter_33 : decode cX1_stateAfter 33 = .ok (.iinc 4 1, 3) := by decide +kernel
theorem dX1_stateAfter_36 : decode cX1_stateAfter 36 = .ok (.iload 6, 2) := by decide +kernel
theorem dX1_stateAfter_38 : decode cX1_stateAfter 38 = .ok (.iload_n 3, 1) := by decide +kernel
theorem dX1_stateAfter_39 : decode cX1_stateAfter 39 = .ok (.iload 4, 2) := by decide +kernel
theorem dX1_stateAfter_41 : decode cX1_stateAfter 41 = .ok (.iload_n 2, 1) := by decide +kernel
theorem dX1_stateAfter_42 : decode cX1_stateAfter 42 = .ok (.if_icmp .ne 7, 3) := by decide +kernel
theorem dX1_stateAfter_45 : decode cX1_stateAfter 45 = .ok (.iconst 1, 1) := by decide +kernel
theorem dX1_stateAfter_46 : decode cX1_stateAfter 46 = .ok (.goto 4, 3) := by decide +kernel
theorem dX1_stateAfter_49 : decode cX1_stateAfter 49 = .ok (.iconst 0, 1) := by decide +kernel
theorem dX1_stateAfter_50 : decode cX1_stateAfter 50 = .ok (.invokestatic 46, 3) := by decide +kernel
theorem dX1_stateAfter_53 : decode cX1_stateAfter 53 = .ok (.istore_n 3, 1) := by decide +kernel
theorem dX1_stateAfter_54 : decode cX1_stateAfter 54 = .ok (.iinc 5 1, 3) := by decide +kernel
theorem dX1_stateAfter_57 : decode cX1_stateAfter 57 = .ok (.goto (-49), 3) := by decide +kernel
theorem dX1_stateAfter_60 : decode cX1_stateAfter 60 = .ok (.iload_n 3, 1) := by decide +kernel
theorem dX1_stateAfter_61 : decode cX1_stateAfter 61 = .ok (.ireturn, 1) := by decide +kernel
theorem dX1_isSigning_0 : decode cX1_isSigning 0 = .ok (.iload_n 0, 1) := by decide +kernel
theorem dX1_isSigning_1 : decode cX1_isSigning 1 = .ok (.iconst 1, 1) := by decide +kernel
theorem dX1_isSigning_2 : decode cX1_isSigning 2 = .ok (.if_icmp .eq 8, 3) := by decide +kernel
theorem dX1_isSigning_5 : decode cX1_isSigning 5 = .ok (.iload_n 0, 1) := by decide +kernel
theorem dX1_isSigning_6 : decode cX1_isSigning 6 = .ok (.iconst 2, 1) := by decide +kernel
theorem dX1_isSigning_7 : decode cX1_isSigning 7 = .ok (.if_icmp .ne 7, 3) := by decide +kernel
theorem dX1_isSigning_10 : decode cX1_isSigning 10 = .ok (.iconst 1, 1) := by decide +kernel
theorem dX1_isSigning_11 : decode cX1_isSigning 11 = .ok (.goto 4, 3) := by decide +kernel
theorem dX1_isSigning_14 : decode cX1_isSigning 14 = .ok (.iconst 0, 1) := by decide +kernel
theorem dX1_isSigning_15 : decode cX1_isSigning 15 = .ok (.ireturn, 1) := by decide +kernel
theorem dX1_stateWith_0 : decode cX1_stateWith 0 = .ok (.iload_n 0, 1) := by decide +kernel
theorem dX1_stateWith_1 : decode cX1_stateWith 1 = .ok (.tableswitch 57 0 5 #[39, 41, 41, 51, 53, 55], 39) := by decide +kernel
theorem dX1_stateWith_40 : decode cX1_stateWith 40 = .ok (.iconst 1, 1) := by decide +kernel
theorem dX1_stateWith_41 : decode cX1_stateWith 41 = .ok (.ireturn, 1) := by decide +kernel
theorem dX1_stateWith_42 : decode cX1_stateWith 42 = .ok (.iload_n 2, 1) := by decide +kernel
theorem dX1_stateWith_43 : decode cX1_stateWith 43 = .ok (.ifCond .eq 7, 3) := by decide +kernel
theorem dX1_stateWith_46 : decode cX1_stateWith 46 = .ok (.iconst 2, 1) := by decide +kernel
theorem dX1_stateWith_47 : decode cX1_stateWith 47 = .ok (.goto 4, 3) := by decide +kernel
theorem dX1_stateWith_50 : decode cX1_stateWith 50 = .ok (.iload_n 1, 1) := by decide +kernel
theorem dX1_stateWith_51 : decode cX1_stateWith 51 = .ok (.ireturn, 1) := by decide +kernel
theorem dX1_stateWith_52 : decode cX1_stateWith 52 = .ok (.iconst 3, 1) := by decide +kernel
theorem dX1_stateWith_53 : decode cX1_stateWith 53 = .ok (.ireturn, 1) := by decide +kernel
theorem dX1_stateWith_54 : decode cX1_stateWith 54 = .ok (.iconst 4, 1) := by decide +kernel
theorem dX1_stateWith_55 : decode cX1_stateWith 55 = .ok (.ireturn, 1) := by decide +kernel
theorem dX1_stateWith_56 : decode cX1_stateWith 56 = .ok (.iconst 5, 1) := by decide +kernel
theorem dX1_stateWith_57 : decode cX1_stateWith 57 = .ok (.ireturn, 1) := by decide +kernel
theorem dX1_stateWith_58 : decode cX1_stateWith 58 = .ok (.iload_n 1, 1) := by decide +kernel
theorem dX1_stateWith_59 : decode cX1_stateWith 59 = .ok (.ireturn, 1) := by decide +kernel
theorem dX2_init_0 : decode cX2_init 0 = .ok (.aload_n 0, 1) := by decide +kernel
theorem dX2_init_1 : decode cX2_init 1 = .ok (.invokespecial 1, 3) := by decide +kernel
theorem dX2_init_4 : decode cX2_init 4 = .ok (.aload_n 0, 1) := by decide +kernel
theorem dX2_init_5 : decode cX2_init 5 = .ok (.iload_n 1, 1) := by decide +kernel
theorem dX2_init_6 : decode cX2_init 6 = .ok (.ifCond .ge 7, 3) := by decide +kernel
theorem dX2_init_9 : decode cX2_init 9 = .ok (.iconst 0, 1) := by decide +kernel
theorem dX2_init_10 : decode cX2_init 10 = .ok (.goto 4, 3) := by decide +kernel
theorem dX2_init_13 : decode cX2_init 13 = .ok (.iload_n 1, 1) := by decide +kernel
theorem dX2_init_14 : decode cX2_init 14 = .ok (.newarray .int, 2) := by decide +kernel
theorem dX2_init_16 : decode cX2_init 16 = .ok (.putfield 7, 3) := by decide +kernel
theorem dX2_init_19 : decode cX2_init 19 = .ok (.return_, 1) := by decide +kernel
theorem dX2_get_0 : decode cX2_get 0 = .ok (.iload_n 1, 1) := by decide +kernel
theorem dX2_get_1 : decode cX2_get 1 = .ok (.ifCond .lt 12, 3) := by decide +kernel
theorem dX2_get_4 : decode cX2_get 4 = .ok (.iload_n 1, 1) := by decide +kernel
theorem dX2_get_5 : decode cX2_get 5 = .ok (.aload_n 0, 1) := by decide +kernel
theorem dX2_get_6 : decode cX2_get 6 = .ok (.getfield 7, 3) := by decide +kernel
theorem dX2_get_9 : decode cX2_get 9 = .ok (.arraylength, 1) := by decide +kernel
theorem dX2_get_10 : decode cX2_get 10 = .ok (.if_icmp .lt 7, 3) := by decide +kernel
theorem dX2_get_13 : decode cX2_get 13 = .ok (.iconst 0, 1) := by decide +kernel
theorem dX2_get_14 : decode cX2_get 14 = .ok (.goto 9, 3) := by decide +kernel
theorem dX2_get_17 : decode cX2_get 17 = .ok (.aload_n 0, 1) := by decide +kernel
theorem dX2_get_18 : decode cX2_get 18 = .ok (.getfield 7, 3) := by decide +kernel
theorem dX2_get_21 : decode cX2_get 21 = .ok (.iload_n 1, 1) := by decide +kernel
theorem dX2_get_22 : decode cX2_get 22 = .ok (.iaload, 1) := by decide +kernel
theorem dX2_get_23 : decode cX2_get 23 = .ok (.ireturn, 1) := by decide +kernel
theorem dX2_set_0 : decode cX2_set 0 = .ok (.iload_n 1, 1) := by decide +kernel
theorem dX2_set_1 : decode cX2_set 1 = .ok (.ifCond .lt 19, 3) := by decide +kernel
theorem dX2_set_4 : decode cX2_set 4 = .ok (.iload_n 1, 1) := by decide +kernel
theorem dX2_set_5 : decode cX2_set 5 = .ok (.aload_n 0, 1) := by decide +kernel
theorem dX2_set_6 : decode cX2_set 6 = .ok (.getfield 7, 3) := by decide +kernel
theorem dX2_set_9 : decode cX2_set 9 = .ok (.arraylength, 1) := by decide +kernel
theorem dX2_set_10 : decode cX2_set 10 = .ok (.if_icmp .ge 10, 3) := by decide +kernel
theorem dX2_set_13 : decode cX2_set 13 = .ok (.aload_n 0, 1) := by decide +kernel
theorem dX2_set_14 : decode cX2_set 14 = .ok (.getfield 7, 3) := by decide +kernel
theorem dX2_set_17 : decode cX2_set 17 = .ok (.iload_n 1, 1) := by decide +kernel
theorem dX2_set_18 : decode cX2_set 18 = .ok (.iload_n 2, 1) := by decide +kernel
theorem dX2_set_19 : decode cX2_set 19 = .ok (.iastore, 1) := by decide +kernel
theorem dX2_set_20 : decode cX2_set 20 = .ok (.return_, 1) := by decide +kernel
theorem dX3_init_0 : decode cX3_init 0 = .ok (.aload_n 0, 1) := by decide +kernel
theorem dX3_init_1 : decode cX3_init 1 = .ok (.invokespecial 3, 3) := by decide +kernel
theorem dX3_init_4 : decode cX3_init 4 = .ok (.aload_n 0, 1) := by decide +kernel
theorem dX3_init_5 : decode cX3_init 5 = .ok (.iconst (-1), 1) := by decide +kernel
theorem dX3_init_6 : decode cX3_init 6 = .ok (.putfield 9, 3) := by decide +kernel
theorem dX3_init_9 : decode cX3_init 9 = .ok (.return_, 1) := by decide +kernel
theorem dX3_otherOn_0 : decode cX3_otherOn 0 = .ok (.aload_n 0, 1) := by decide +kernel
theorem dX3_otherOn_1 : decode cX3_otherOn 1 = .ok (.getfield 15, 3) := by decide +kernel
theorem dX3_otherOn_4 : decode cX3_otherOn 4 = .ok (.iload_n 1, 1) := by decide +kernel
theorem dX3_otherOn_5 : decode cX3_otherOn 5 = .ok (.if_icmp .gt 18, 3) := by decide +kernel
theorem dX3_otherOn_8 : decode cX3_otherOn 8 = .ok (.iload_n 1, 1) := by decide +kernel
theorem dX3_otherOn_9 : decode cX3_otherOn 9 = .ok (.aload_n 0, 1) := by decide +kernel
theorem dX3_otherOn_10 : decode cX3_otherOn 10 = .ok (.getfield 18, 3) := by decide +kernel
theorem dX3_otherOn_13 : decode cX3_otherOn 13 = .ok (.if_icmp .gt 10, 3) := by decide +kernel
theorem dX3_otherOn_16 : decode cX3_otherOn 16 = .ok (.aload_n 0, 1) := by decide +kernel
theorem dX3_otherOn_17 : decode cX3_otherOn 17 = .ok (.getfield 9, 3) := by decide +kernel
theorem dX3_otherOn_20 : decode cX3_otherOn 20 = .ok (.goto 4, 3) := by decide +kernel
theorem dX3_otherOn_23 : decode cX3_otherOn 23 = .ok (.iconst (-1), 1) := by decide +kernel
theorem dX3_otherOn_24 : decode cX3_otherOn 24 = .ok (.ireturn, 1) := by decide +kernel
theorem dX4_init_0 : decode cX4_init 0 = .ok (.aload_n 0, 1) := by decide +kernel
theorem dX4_init_1 : decode cX4_init 1 = .ok (.invokespecial 3, 3) := by decide +kernel
theorem dX4_init_4 : decode cX4_init 4 = .ok (.aload_n 0, 1) := by decide +kernel
theorem dX4_init_5 : decode cX4_init 5 = .ok (.bipush 6, 2) := by decide +kernel
theorem dX4_init_7 : decode cX4_init 7 = .ok (.anewarray 9, 3) := by decide +kernel
theorem dX4_init_10 : decode cX4_init 10 = .ok (.putfield 11, 3) := by decide +kernel
theorem dX4_init_13 : decode cX4_init 13 = .ok (.aload_n 0, 1) := by decide +kernel
theorem dX4_init_14 : decode cX4_init 14 = .ok (.bipush 8, 2) := by decide +kernel
theorem dX4_init_16 : decode cX4_init 16 = .ok (.anewarray 15, 3) := by decide +kernel
theorem dX4_init_19 : decode cX4_init 19 = .ok (.putfield 17, 3) := by decide +kernel
theorem dX4_init_22 : decode cX4_init 22 = .ok (.aload_n 0, 1) := by decide +kernel
theorem dX4_init_23 : decode cX4_init 23 = .ok (.new 21, 3) := by decide +kernel
theorem dX4_init_26 : decode cX4_init 26 = .ok (.dup, 1) := by decide +kernel
theorem dX4_init_27 : decode cX4_init 27 = .ok (.sipush 256, 3) := by decide +kernel
theorem dX4_init_30 : decode cX4_init 30 = .ok (.invokespecial 23, 3) := by decide +kernel
theorem dX4_init_33 : decode cX4_init 33 = .ok (.putfield 26, 3) := by decide +kernel
theorem dX4_init_36 : decode cX4_init 36 = .ok (.iconst 0, 1) := by decide +kernel
theorem dX4_init_37 : decode cX4_init 37 = .ok (.istore_n 1, 1) := by decide +kernel
theorem dX4_init_38 : decode cX4_init 38 = .ok (.iload_n 1, 1) := by decide +kernel
theorem dX4_init_39 : decode cX4_init 39 = .ok (.aload_n 0, 1) := by decide +kernel
theorem dX4_init_40 : decode cX4_init 40 = .ok (.getfield 17, 3) := by decide +kernel
theorem dX4_init_43 : decode cX4_init 43 = .ok (.arraylength, 1) := by decide +kernel
theorem dX4_init_44 : decode cX4_init 44 = .ok (.if_icmp .ge 22, 3) := by decide +kernel
theorem dX4_init_47 : decode cX4_init 47 = .ok (.aload_n 0, 1) := by decide +kernel
theorem dX4_init_48 : decode cX4_init 48 = .ok (.getfield 17, 3) := by decide +kernel
theorem dX4_init_51 : decode cX4_init 51 = .ok (.iload_n 1, 1) := by decide +kernel
theorem dX4_init_52 : decode cX4_init 52 = .ok (.new 15, 3) := by decide +kernel
theorem dX4_init_55 : decode cX4_init 55 = .ok (.dup, 1) := by decide +kernel
theorem dX4_init_56 : decode cX4_init 56 = .ok (.invokespecial 30, 3) := by decide +kernel
theorem dX4_init_59 : decode cX4_init 59 = .ok (.aastore, 1) := by decide +kernel
theorem dX4_init_60 : decode cX4_init 60 = .ok (.iinc 1 1, 3) := by decide +kernel
theorem dX4_init_63 : decode cX4_init 63 = .ok (.goto (-25), 3) := by decide +kernel
theorem dX4_init_66 : decode cX4_init 66 = .ok (.return_, 1) := by decide +kernel
theorem dX4_draft_0 : decode cX4_draft 0 = .ok (.aload_n 0, 1) := by decide +kernel
theorem dX4_draft_1 : decode cX4_draft 1 = .ok (.getfield 31, 3) := by decide +kernel
theorem dX4_draft_4 : decode cX4_draft 4 = .ok (.aload_n 0, 1) := by decide +kernel
theorem dX4_draft_5 : decode cX4_draft 5 = .ok (.getfield 11, 3) := by decide +kernel
theorem dX4_draft_8 : decode cX4_draft 8 = .ok (.arraylength, 1) := by decide +kernel
theorem dX4_draft_9 : decode cX4_draft 9 = .ok (.if_icmp .lt 13, 3) := by decide +kernel
theorem dX4_draft_12 : decode cX4_draft 12 = .ok (.new 35, 3) := by decide +kernel
theorem dX4_draft_15 : decode cX4_draft 15 = .ok (.dup, 1) := by decide +kernel
theorem dX4_draft_16 : decode cX4_draft 16 = .ok (.ldc 37, 2) := by decide +kernel
theorem dX4_draft_18 : decode cX4_draft 18 = .ok (.invokespecial 39, 3) := by decide +kernel
theorem dX4_draft_21 : decode cX4_draft 21 = .ok (.athrow, 1) := by decide +kernel
theorem dX4_draft_22 : decode cX4_draft 22 = .ok (.aload_n 0, 1) := by decide +kernel
theorem dX4_draft_23 : decode cX4_draft 23 = .ok (.getfield 11, 3) := by decide +kernel
theorem dX4_draft_26 : decode cX4_draft 26 = .ok (.aload_n 0, 1) := by decide +kernel
theorem dX4_draft_27 : decode cX4_draft 27 = .ok (.getfield 31, 3) := by decide +kernel
theorem dX4_draft_30 : decode cX4_draft 30 = .ok (.new 9, 3) := by decide +kernel
theorem dX4_draft_33 : decode cX4_draft 33 = .ok (.dup, 1) := by decide +kernel
theorem dX4_draft_34 : decode cX4_draft 34 = .ok (.invokespecial 42, 3) := by decide +kernel
theorem dX4_draft_37 : decode cX4_draft 37 = .ok (.aastore, 1) := by decide +kernel
theorem dX4_draft_38 : decode cX4_draft 38 = .ok (.aload_n 0, 1) := by decide +kernel
theorem dX4_draft_39 : decode cX4_draft 39 = .ok (.dup, 1) := by decide +kernel
theorem dX4_draft_40 : decode cX4_draft 40 = .ok (.getfield 31, 3) := by decide +kernel
theorem dX4_draft_43 : decode cX4_draft 43 = .ok (.iconst 1, 1) := by decide +kernel
theorem dX4_draft_44 : decode cX4_draft 44 = .ok (.iadd, 1) := by decide +kernel
theorem dX4_draft_45 : decode cX4_draft 45 = .ok (.putfield 31, 3) := by decide +kernel
theorem dX4_draft_48 : decode cX4_draft 48 = .ok (.aload_n 0, 1) := by decide +kernel
theorem dX4_draft_49 : decode cX4_draft 49 = .ok (.getfield 31, 3) := by decide +kernel
theorem dX4_draft_52 : decode cX4_draft 52 = .ok (.iconst 1, 1) := by decide +kernel
theorem dX4_draft_53 : decode cX4_draft 53 = .ok (.isub, 1) := by decide +kernel
theorem dX4_draft_54 : decode cX4_draft 54 = .ok (.ireturn, 1) := by decide +kernel
theorem dX4_addSlot_0 : decode cX4_addSlot 0 = .ok (.aload_n 0, 1) := by decide +kernel
theorem dX4_addSlot_1 : decode cX4_addSlot 1 = .ok (.iload_n 1, 1) := by decide +kernel
theorem dX4_addSlot_2 : decode cX4_addSlot 2 = .ok (.invokevirtual 43, 3) := by decide +kernel
theorem dX4_addSlot_5 : decode cX4_addSlot 5 = .ok (.astore 4, 2) := by decide +kernel
theorem dX4_addSlot_7 : decode cX4_addSlot 7 = .ok (.iload_n 2, 1) := by decide +kernel
theorem dX4_addSlot_8 : decode cX4_addSlot 8 = .ok (.invokestatic 47, 3) := by decide +kernel
theorem dX4_addSlot_11 : decode cX4_addSlot 11 = .ok (.iload_n 3, 1) := by decide +kernel
theorem dX4_addSlot_12 : decode cX4_addSlot 12 = .ok (.ifCond .lt 12, 3) := by decide +kernel
theorem dX4_addSlot_15 : decode cX4_addSlot 15 = .ok (.iload_n 3, 1) := by decide +kernel
theorem dX4_addSlot_16 : decode cX4_addSlot 16 = .ok (.aload 4, 2) := by decide +kernel
theorem dX4_addSlot_18 : decode cX4_addSlot 18 = .ok (.invokevirtual 50, 3) := by decide +kernel
theorem dX4_addSlot_21 : decode cX4_addSlot 21 = .ok (.if_icmp .le 13, 3) := by decide +kernel
theorem dX4_addSlot_24 : decode cX4_addSlot 24 = .ok (.new 54, 3) := by decide +kernel
theorem dX4_addSlot_27 : decode cX4_addSlot 27 = .ok (.dup, 1) := by decide +kernel
theorem dX4_addSlot_28 : decode cX4_addSlot 28 = .ok (.ldc 56, 2) := by decide +kernel
theorem dX4_addSlot_30 : decode cX4_addSlot 30 = .ok (.invokespecial 58, 3) := by decide +kernel
theorem dX4_addSlot_33 : decode cX4_addSlot 33 = .ok (.athrow, 1) := by decide +kernel
theorem dX4_addSlot_34 : decode cX4_addSlot 34 = .ok (.aload 4, 2) := by decide +kernel
theorem dX4_addSlot_36 : decode cX4_addSlot 36 = .ok (.invokestatic 59, 3) := by decide +kernel
theorem dX4_addSlot_39 : decode cX4_addSlot 39 = .ok (.aload 4, 2) := by decide +kernel
theorem dX4_addSlot_41 : decode cX4_addSlot 41 = .ok (.getfield 63, 3) := by decide +kernel
theorem dX4_addSlot_44 : decode cX4_addSlot 44 = .ok (.bipush 8, 2) := by decide +kernel
theorem dX4_addSlot_46 : decode cX4_addSlot 46 = .ok (.if_icmp .lt 13, 3) := by decide +kernel
theorem dX4_addSlot_49 : decode cX4_addSlot 49 = .ok (.new 35, 3) := by decide +kernel
theorem dX4_addSlot_52 : decode cX4_addSlot 52 = .ok (.dup, 1) := by decide +kernel
theorem dX4_addSlot_53 : decode cX4_addSlot 53 = .ok (.ldc 66, 2) := by decide +kernel
theorem dX4_addSlot_55 : decode cX4_addSlot 55 = .ok (.invokespecial 39, 3) := by decide +kernel
theorem dX4_addSlot_58 : decode cX4_addSlot 58 = .ok (.athrow, 1) := by decide +kernel
theorem dX4_addSlot_59 : decode cX4_addSlot 59 = .ok (.aload 4, 2) := by decide +kernel
theorem dX4_addSlot_61 : decode cX4_addSlot 61 = .ok (.iload_n 2, 1) := by decide +kernel
theorem dX4_addSlot_62 : decode cX4_addSlot 62 = .ok (.iload_n 3, 1) := by decide +kernel
theorem dX4_addSlot_63 : decode cX4_addSlot 63 = .ok (.invokevirtual 68, 3) := by decide +kernel
theorem dX4_addSlot_66 : decode cX4_addSlot 66 = .ok (.aload 4, 2) := by decide +kernel
theorem dX4_addSlot_68 : decode cX4_addSlot 68 = .ok (.getfield 63, 3) := by decide +kernel
theorem dX4_addSlot_71 : decode cX4_addSlot 71 = .ok (.iconst 1, 1) := by decide +kernel
theorem dX4_addSlot_72 : decode cX4_addSlot 72 = .ok (.isub, 1) := by decide +kernel
theorem dX4_addSlot_73 : decode cX4_addSlot 73 = .ok (.ireturn, 1) := by decide +kernel
theorem dX4_addRound_0 : decode cX4_addRound 0 = .ok (.aload_n 0, 1) := by decide +kernel
theorem dX4_addRound_1 : decode cX4_addRound 1 = .ok (.iload_n 1, 1) := by decide +kernel
theorem dX4_addRound_2 : decode cX4_addRound 2 = .ok (.invokevirtual 43, 3) := by decide +kernel
theorem dX4_addRound_5 : decode cX4_addRound 5 = .ok (.astore_n 3, 1) := by decide +kernel
theorem dX4_addRound_6 : decode cX4_addRound 6 = .ok (.iload_n 2, 1) := by decide +kernel
theorem dX4_addRound_7 : decode cX4_addRound 7 = .ok (.iconst 1, 1) := by decide +kernel
theorem dX4_addRound_8 : decode cX4_addRound 8 = .ok (.if_icmp .lt 10, 3) := by decide +kernel
theorem dX4_addRound_11 : decode cX4_addRound 11 = .ok (.iload_n 2, 1) := by decide +kernel
theorem dX4_addRound_12 : decode cX4_addRound 12 = .ok (.sipush 256, 3) := by decide +kernel
theorem dX4_addRound_15 : decode cX4_addRound 15 = .ok (.if_icmp .lt 13, 3) := by decide +kernel
theorem dX4_addRound_18 : decode cX4_addRound 18 = .ok (.new 54, 3) := by decide +kernel
theorem dX4_addRound_21 : decode cX4_addRound 21 = .ok (.dup, 1) := by decide +kernel
theorem dX4_addRound_22 : decode cX4_addRound 22 = .ok (.ldc 72, 2) := by decide +kernel
theorem dX4_addRound_24 : decode cX4_addRound 24 = .ok (.invokespecial 58, 3) := by decide +kernel
theorem dX4_addRound_27 : decode cX4_addRound 27 = .ok (.athrow, 1) := by decide +kernel
theorem dX4_addRound_28 : decode cX4_addRound 28 = .ok (.aload_n 3, 1) := by decide +kernel
theorem dX4_addRound_29 : decode cX4_addRound 29 = .ok (.invokestatic 59, 3) := by decide +kernel
theorem dX4_addRound_32 : decode cX4_addRound 32 = .ok (.aload_n 3, 1) := by decide +kernel
theorem dX4_addRound_33 : decode cX4_addRound 33 = .ok (.getfield 63, 3) := by decide +kernel
theorem dX4_addRound_36 : decode cX4_addRound 36 = .ok (.iload_n 2, 1) := by decide +kernel
theorem dX4_addRound_37 : decode cX4_addRound 37 = .ok (.invokestatic 74, 3) := by decide +kernel
theorem dX4_addRound_40 : decode cX4_addRound 40 = .ok (.iadd, 1) := by decide +kernel
theorem dX4_addRound_41 : decode cX4_addRound 41 = .ok (.bipush 8, 2) := by decide +kernel
theorem dX4_addRound_43 : decode cX4_addRound 43 = .ok (.if_icmp .le 13, 3) := by decide +kernel
theorem dX4_addRound_46 : decode cX4_addRound 46 = .ok (.new 35, 3) := by decide +kernel
theorem dX4_addRound_49 : decode cX4_addRound 49 = .ok (.dup, 1) := by decide +kernel
theorem dX4_addRound_50 : decode cX4_addRound 50 = .ok (.ldc 80, 2) := by decide +kernel
theorem dX4_addRound_52 : decode cX4_addRound 52 = .ok (.invokespecial 39, 3) := by decide +kernel
theorem dX4_addRound_55 : decode cX4_addRound 55 = .ok (.athrow, 1) := by decide +kernel
theorem dX4_addRound_56 : decode cX4_addRound 56 = .ok (.aload_n 3, 1) := by decide +kernel
theorem dX4_addRound_57 : decode cX4_addRound 57 = .ok (.invokevirtual 50, 3) := by decide +kernel
theorem dX4_addRound_60 : decode cX4_addRound 60 = .ok (.istore 4, 2) := by decide +kernel
theorem dX4_addRound_62 : decode cX4_addRound 62 = .ok (.iconst 0, 1) := by decide +kernel
theorem dX4_addRound_63 : decode cX4_addRound 63 = .ok (.istore 5, 2) := by decide +kernel
theorem dX4_addRound_65 : decode cX4_addRound 65 = .ok (.iload 5, 2) := by decide +kernel
theorem dX4_addRound_67 : decode cX4_addRound 67 = .ok (.bipush 8, 2) := by decide +kernel
theorem dX4_addRound_69 : decode cX4_addRound 69 = .ok (.if_icmp .ge 26, 3) := by decide +kernel
theorem dX4_addRound_72 : decode cX4_addRound 72 = .ok (.iload_n 2, 1) := by decide +kernel
theorem dX4_addRound_73 : decode cX4_addRound 73 = .ok (.iload 5, 2) := by decide +kernel
theorem dX4_addRound_75 : decode cX4_addRound 75 = .ok (.invokestatic 82, 3) := by decide +kernel
theorem dX4_addRound_78 : decode cX4_addRound 78 = .ok (.ifCond .eq 11, 3) := by decide +kernel
theorem dX4_addRound_81 : decode cX4_addRound 81 = .ok (.aload_n 3, 1) := by decide +kernel
theorem dX4_addRound_82 : decode cX4_addRound 82 = .ok (.iload 5, 2) := by decide +kernel
theorem dX4_addRound_84 : decode cX4_addRound 84 = .ok (.iload 4, 2) := by decide +kernel
theorem dX4_addRound_86 : decode cX4_addRound 86 = .ok (.invokevirtual 68, 3) := by decide +kernel
theorem dX4_addRound_89 : decode cX4_addRound 89 = .ok (.iinc 5 1, 3) := by decide +kernel
theorem dX4_addRound_92 : decode cX4_addRound 92 = .ok (.goto (-27), 3) := by decide +kernel
theorem dX4_addRound_95 : decode cX4_addRound 95 = .ok (.aload_n 3, 1) := by decide +kernel
theorem dX4_addRound_96 : decode cX4_addRound 96 = .ok (.getfield 63, 3) := by decide +kernel
theorem dX4_addRound_99 : decode cX4_addRound 99 = .ok (.ireturn, 1) := by decide +kernel
theorem dX4_setTimes_0 : decode cX4_setTimes 0 = .ok (.aload_n 0, 1) := by decide +kernel
theorem dX4_setTimes_1 : decode cX4_setTimes 1 = .ok (.iload_n 1, 1) := by decide +kernel
theorem dX4_setTimes_2 : decode cX4_setTimes 2 = .ok (.invokevirtual 43, 3) := by decide +kernel
theorem dX4_setTimes_5 : decode cX4_setTimes 5 = .ok (.astore 4, 2) := by decide +kernel
theorem dX4_setTimes_7 : decode cX4_setTimes 7 = .ok (.iload_n 2, 1) := by decide +kernel
theorem dX4_setTimes_8 : decode cX4_setTimes 8 = .ok (.ifCond .lt 9, 3) := by decide +kernel
theorem dX4_setTimes_11 : decode cX4_setTimes 11 = .ok (.iload_n 2, 1) := by decide +kernel
theorem dX4_setTimes_12 : decode cX4_setTimes 12 = .ok (.bipush 30, 2) := by decide +kernel
theorem dX4_setTimes_14 : decode cX4_setTimes 14 = .ok (.if_icmp .le 13, 3) := by decide +kernel
theorem dX4_setTimes_17 : decode cX4_setTimes 17 = .ok (.new 54, 3) := by decide +kernel
theorem dX4_setTimes_20 : decode cX4_setTimes 20 = .ok (.dup, 1) := by decide +kernel
theorem dX4_setTimes_21 : decode cX4_setTimes 21 = .ok (.ldc 86, 2) := by decide +kernel
theorem dX4_setTimes_23 : decode cX4_setTimes 23 = .ok (.invokespecial 58, 3) := by decide +kernel
theorem dX4_setTimes_26 : decode cX4_setTimes 26 = .ok (.athrow, 1) := by decide +kernel
theorem dX4_setTimes_27 : decode cX4_setTimes 27 = .ok (.iload_n 3, 1) := by decide +kernel
theorem dX4_setTimes_28 : decode cX4_setTimes 28 = .ok (.ifCond .lt 9, 3) := by decide +kernel
theorem dX4_setTimes_31 : decode cX4_setTimes 31 = .ok (.iload_n 3, 1) := by decide +kernel
theorem dX4_setTimes_32 : decode cX4_setTimes 32 = .ok (.bipush 60, 2) := by decide +kernel
theorem dX4_setTimes_34 : decode cX4_setTimes 34 = .ok (.if_icmp .le 13, 3) := by decide +kernel
theorem dX4_setTimes_37 : decode cX4_setTimes 37 = .ok (.new 54, 3) := by decide +kernel
theorem dX4_setTimes_40 : decode cX4_setTimes 40 = .ok (.dup, 1) := by decide +kernel
theorem dX4_setTimes_41 : decode cX4_setTimes 41 = .ok (.ldc 88, 2) := by decide +kernel
theorem dX4_setTimes_43 : decode cX4_setTimes 43 = .ok (.invokespecial 58, 3) := by decide +kernel
theorem dX4_setTimes_46 : decode cX4_setTimes 46 = .ok (.athrow, 1) := by decide +kernel
theorem dX4_setTimes_47 : decode cX4_setTimes 47 = .ok (.aload 4, 2) := by decide +kernel
theorem dX4_setTimes_49 : decode cX4_setTimes 49 = .ok (.invokestatic 59, 3) := by decide +kernel
theorem dX4_setTimes_52 : decode cX4_setTimes 52 = .ok (.aload 4, 2) := by decide +kernel
theorem dX4_setTimes_54 : decode cX4_setTimes 54 = .ok (.iload_n 2, 1) := by decide +kernel
theorem dX4_setTimes_55 : decode cX4_setTimes 55 = .ok (.putfield 90, 3) := by decide +kernel
theorem dX4_setTimes_58 : decode cX4_setTimes 58 = .ok (.aload 4, 2) := by decide +kernel
theorem dX4_setTimes_60 : decode cX4_setTimes 60 = .ok (.iload_n 3, 1) := by decide +kernel
theorem dX4_setTimes_61 : decode cX4_setTimes 61 = .ok (.putfield 93, 3) := by decide +kernel
theorem dX4_setTimes_64 : decode cX4_setTimes 64 = .ok (.return_, 1) := by decide +kernel
theorem dX4_send_0 : decode cX4_send 0 = .ok (.aload_n 0, 1) := by decide +kernel
theorem dX4_send_1 : decode cX4_send 1 = .ok (.iload_n 1, 1) := by decide +kernel
theorem dX4_send_2 : decode cX4_send 2 = .ok (.invokevirtual 43, 3) := by decide +kernel
theorem dX4_send_5 : decode cX4_send 5 = .ok (.astore_n 2, 1) := by decide +kernel
theorem dX4_send_6 : decode cX4_send 6 = .ok (.aload_n 2, 1) := by decide +kernel
theorem dX4_send_7 : decode cX4_send 7 = .ok (.invokestatic 59, 3) := by decide +kernel
theorem dX4_send_10 : decode cX4_send 10 = .ok (.aload_n 2, 1) := by decide +kernel
theorem dX4_send_11 : decode cX4_send 11 = .ok (.getfield 63, 3) := by decide +kernel
theorem dX4_send_14 : decode cX4_send 14 = .ok (.ifCond .ne 13, 3) := by decide +kernel
theorem dX4_send_17 : decode cX4_send 17 = .ok (.new 35, 3) := by decide +kernel
theorem dX4_send_20 : decode cX4_send 20 = .ok (.dup, 1) := by decide +kernel
theorem dX4_send_21 : decode cX4_send 21 = .ok (.ldc 96, 2) := by decide +kernel
theorem dX4_send_23 : decode cX4_send 23 = .ok (.invokespecial 39, 3) := by decide +kernel
theorem dX4_send_26 : decode cX4_send 26 = .ok (.athrow, 1) := by decide +kernel
theorem dX4_send_27 : decode cX4_send 27 = .ok (.aload_n 2, 1) := by decide +kernel
theorem dX4_send_28 : decode cX4_send 28 = .ok (.aload_n 0, 1) := by decide +kernel
theorem dX4_send_29 : decode cX4_send 29 = .ok (.getfield 98, 3) := by decide +kernel
theorem dX4_send_32 : decode cX4_send 32 = .ok (.invokevirtual 101, 3) := by decide +kernel
theorem dX4_send_35 : decode cX4_send 35 = .ok (.ireturn, 1) := by decide +kernel
theorem dX4_sign_0 : decode cX4_sign 0 = .ok (.iload_n 1, 1) := by decide +kernel
theorem dX4_sign_1 : decode cX4_sign 1 = .ok (.invokestatic 47, 3) := by decide +kernel
theorem dX4_sign_4 : decode cX4_sign 4 = .ok (.aload_n 0, 1) := by decide +kernel
theorem dX4_sign_5 : decode cX4_sign 5 = .ok (.iload_n 2, 1) := by decide +kernel
theorem dX4_sign_6 : decode cX4_sign 6 = .ok (.invokevirtual 43, 3) := by decide +kernel
theorem dX4_sign_9 : decode cX4_sign 9 = .ok (.astore 4, 2) := by decide +kernel
theorem dX4_sign_11 : decode cX4_sign 11 = .ok (.aload 4, 2) := by decide +kernel
theorem dX4_sign_13 : decode cX4_sign 13 = .ok (.iload_n 3, 1) := by decide +kernel
theorem dX4_sign_14 : decode cX4_sign 14 = .ok (.invokestatic 104, 3) := by decide +kernel
theorem dX4_sign_17 : decode cX4_sign 17 = .ok (.aload_n 0, 1) := by decide +kernel
theorem dX4_sign_18 : decode cX4_sign 18 = .ok (.iload_n 1, 1) := by decide +kernel
theorem dX4_sign_19 : decode cX4_sign 19 = .ok (.aload 4, 2) := by decide +kernel
theorem dX4_sign_21 : decode cX4_sign 21 = .ok (.iload_n 3, 1) := by decide +kernel
theorem dX4_sign_22 : decode cX4_sign 22 = .ok (.invokevirtual 108, 3) := by decide +kernel
theorem dX4_sign_25 : decode cX4_sign 25 = .ok (.istore 5, 2) := by decide +kernel
theorem dX4_sign_27 : decode cX4_sign 27 = .ok (.iload 5, 2) := by decide +kernel
theorem dX4_sign_29 : decode cX4_sign 29 = .ok (.ifCond .eq 19, 3) := by decide +kernel
theorem dX4_sign_32 : decode cX4_sign 32 = .ok (.iload 5, 2) := by decide +kernel
theorem dX4_sign_34 : decode cX4_sign 34 = .ok (.iconst 1, 1) := by decide +kernel
theorem dX4_sign_35 : decode cX4_sign 35 = .ok (.if_icmp .eq 13, 3) := by decide +kernel
theorem dX4_sign_38 : decode cX4_sign 38 = .ok (.new 35, 3) := by decide +kernel
theorem dX4_sign_41 : decode cX4_sign 41 = .ok (.dup, 1) := by decide +kernel
theorem dX4_sign_42 : decode cX4_sign 42 = .ok (.ldc 112, 2) := by decide +kernel
theorem dX4_sign_44 : decode cX4_sign 44 = .ok (.invokespecial 39, 3) := by decide +kernel
theorem dX4_sign_47 : decode cX4_sign 47 = .ok (.athrow, 1) := by decide +kernel
theorem dX4_sign_48 : decode cX4_sign 48 = .ok (.iload 5, 2) := by decide +kernel
theorem dX4_sign_50 : decode cX4_sign 50 = .ok (.ifCond .ne 16, 3) := by decide +kernel
theorem dX4_sign_53 : decode cX4_sign 53 = .ok (.aload 4, 2) := by decide +kernel
theorem dX4_sign_55 : decode cX4_sign 55 = .ok (.iconst 1, 1) := by decide +kernel
theorem dX4_sign_56 : decode cX4_sign 56 = .ok (.iload_n 1, 1) := by decide +kernel
theorem dX4_sign_57 : decode cX4_sign 57 = .ok (.iload_n 3, 1) := by decide +kernel
theorem dX4_sign_58 : decode cX4_sign 58 = .ok (.aload_n 0, 1) := by decide +kernel
theorem dX4_sign_59 : decode cX4_sign 59 = .ok (.getfield 98, 3) := by decide +kernel
theorem dX4_sign_62 : decode cX4_sign 62 = .ok (.invokevirtual 114, 3) := by decide +kernel
theorem dX4_sign_65 : decode cX4_sign 65 = .ok (.ireturn, 1) := by decide +kernel
theorem dX4_sign_66 : decode cX4_sign 66 = .ok (.aload_n 0, 1) := by decide +kernel
theorem dX4_sign_67 : decode cX4_sign 67 = .ok (.aload 4, 2) := by decide +kernel
theorem dX4_sign_69 : decode cX4_sign 69 = .ok (.getfield 118, 3) := by decide +kernel
theorem dX4_sign_72 : decode cX4_sign 72 = .ok (.iload_n 3, 1) := by decide +kernel
theorem dX4_sign_73 : decode cX4_sign 73 = .ok (.invokevirtual 121, 3) := by decide +kernel
theorem dX4_sign_76 : decode cX4_sign 76 = .ok (.invokevirtual 124, 3) := by decide +kernel
theorem dX4_sign_79 : decode cX4_sign 79 = .ok (.dup, 1) := by decide +kernel
theorem dX4_sign_80 : decode cX4_sign 80 = .ok (.getfield 128, 3) := by decide +kernel
theorem dX4_sign_83 : decode cX4_sign 83 = .ok (.iconst 1, 1) := by decide +kernel
theorem dX4_sign_84 : decode cX4_sign 84 = .ok (.iadd, 1) := by decide +kernel
theorem dX4_sign_85 : decode cX4_sign 85 = .ok (.putfield 128, 3) := by decide +kernel
theorem dX4_sign_88 : decode cX4_sign 88 = .ok (.aload 4, 2) := by decide +kernel
theorem dX4_sign_90 : decode cX4_sign 90 = .ok (.iconst 2, 1) := by decide +kernel
theorem dX4_sign_91 : decode cX4_sign 91 = .ok (.iload_n 1, 1) := by decide +kernel
theorem dX4_sign_92 : decode cX4_sign 92 = .ok (.iload_n 3, 1) := by decide +kernel
theorem dX4_sign_93 : decode cX4_sign 93 = .ok (.aload_n 0, 1) := by decide +kernel
theorem dX4_sign_94 : decode cX4_sign 94 = .ok (.getfield 98, 3) := by decide +kernel
theorem dX4_sign_97 : decode cX4_sign 97 = .ok (.invokevirtual 114, 3) := by decide +kernel
theorem dX4_sign_100 : decode cX4_sign 100 = .ok (.ireturn, 1) := by decide +kernel
theorem dX4_whyNot_0 : decode cX4_whyNot 0 = .ok (.iload_n 1, 1) := by decide +kernel
theorem dX4_whyNot_1 : decode cX4_whyNot 1 = .ok (.invokestatic 47, 3) := by decide +kernel
theorem dX4_whyNot_4 : decode cX4_whyNot 4 = .ok (.aload_n 0, 1) := by decide +kernel
theorem dX4_whyNot_5 : decode cX4_whyNot 5 = .ok (.iload_n 2, 1) := by decide +kernel
theorem dX4_whyNot_6 : decode cX4_whyNot 6 = .ok (.invokevirtual 43, 3) := by decide +kernel
theorem dX4_whyNot_9 : decode cX4_whyNot 9 = .ok (.astore 4, 2) := by decide +kernel
theorem dX4_whyNot_11 : decode cX4_whyNot 11 = .ok (.aload 4, 2) := by decide +kernel
theorem dX4_whyNot_13 : decode cX4_whyNot 13 = .ok (.iload_n 3, 1) := by decide +kernel
theorem dX4_whyNot_14 : decode cX4_whyNot 14 = .ok (.invokestatic 104, 3) := by decide +kernel
theorem dX4_whyNot_17 : decode cX4_whyNot 17 = .ok (.aload_n 0, 1) := by decide +kernel
theorem dX4_whyNot_18 : decode cX4_whyNot 18 = .ok (.iload_n 1, 1) := by decide +kernel
theorem dX4_whyNot_19 : decode cX4_whyNot 19 = .ok (.aload 4, 2) := by decide +kernel
theorem dX4_whyNot_21 : decode cX4_whyNot 21 = .ok (.iload_n 3, 1) := by decide +kernel
theorem dX4_whyNot_22 : decode cX4_whyNot 22 = .ok (.invokevirtual 108, 3) := by decide +kernel
theorem dX4_whyNot_25 : decode cX4_whyNot 25 = .ok (.ireturn, 1) := by decide +kernel
theorem dX4_decline_0 : decode cX4_decline 0 = .ok (.iload_n 1, 1) := by decide +kernel
theorem dX4_decline_1 : decode cX4_decline 1 = .ok (.invokestatic 47, 3) := by decide +kernel
theorem dX4_decline_4 : decode cX4_decline 4 = .ok (.aload_n 0, 1) := by decide +kernel
theorem dX4_decline_5 : decode cX4_decline 5 = .ok (.iload_n 2, 1) := by decide +kernel
theorem dX4_decline_6 : decode cX4_decline 6 = .ok (.invokevirtual 43, 3) := by decide +kernel
theorem dX4_decline_9 : decode cX4_decline 9 = .ok (.astore 4, 2) := by decide +kernel
theorem dX4_decline_11 : decode cX4_decline 11 = .ok (.aload 4, 2) := by decide +kernel
theorem dX4_decline_13 : decode cX4_decline 13 = .ok (.iload_n 3, 1) := by decide +kernel
theorem dX4_decline_14 : decode cX4_decline 14 = .ok (.invokestatic 104, 3) := by decide +kernel
theorem dX4_decline_17 : decode cX4_decline 17 = .ok (.aload_n 0, 1) := by decide +kernel
theorem dX4_decline_18 : decode cX4_decline 18 = .ok (.iload_n 1, 1) := by decide +kernel
theorem dX4_decline_19 : decode cX4_decline 19 = .ok (.aload 4, 2) := by decide +kernel
theorem dX4_decline_21 : decode cX4_decline 21 = .ok (.iload_n 3, 1) := by decide +kernel
theorem dX4_decline_22 : decode cX4_decline 22 = .ok (.invokevirtual 108, 3) := by decide +kernel
theorem dX4_decline_25 : decode cX4_decline 25 = .ok (.ifCond .eq 13, 3) := by decide +kernel
theorem dX4_decline_28 : decode cX4_decline 28 = .ok (.new 35, 3) := by decide +kernel
theorem dX4_decline_31 : decode cX4_decline 31 = .ok (.dup, 1) := by decide +kernel
theorem dX4_decline_32 : decode cX4_decline 32 = .ok (.ldc 131, 2) := by decide +kernel
theorem dX4_decline_34 : decode cX4_decline 34 = .ok (.invokespecial 39, 3) := by decide +kernel
theorem dX4_decline_37 : decode cX4_decline 37 = .ok (.athrow, 1) := by decide +kernel
theorem dX4_decline_38 : decode cX4_decline 38 = .ok (.aload 4, 2) := by decide +kernel
theorem dX4_decline_40 : decode cX4_decline 40 = .ok (.iconst 3, 1) := by decide +kernel
theorem dX4_decline_41 : decode cX4_decline 41 = .ok (.iconst 3, 1) := by decide +kernel
theorem dX4_decline_42 : decode cX4_decline 42 = .ok (.iload_n 1, 1) := by decide +kernel
theorem dX4_decline_43 : decode cX4_decline 43 = .ok (.iload_n 3, 1) := by decide +kernel
theorem dX4_decline_44 : decode cX4_decline 44 = .ok (.aload_n 0, 1) := by decide +kernel
theorem dX4_decline_45 : decode cX4_decline 45 = .ok (.getfield 98, 3) := by decide +kernel
theorem dX4_decline_48 : decode cX4_decline 48 = .ok (.invokevirtual 133, 3) := by decide +kernel
theorem dX4_decline_51 : decode cX4_decline 51 = .ok (.ireturn, 1) := by decide +kernel
theorem dX4_cancel_0 : decode cX4_cancel 0 = .ok (.aload_n 0, 1) := by decide +kernel
theorem dX4_cancel_1 : decode cX4_cancel 1 = .ok (.iload_n 1, 1) := by decide +kernel
theorem dX4_cancel_2 : decode cX4_cancel 2 = .ok (.invokevirtual 43, 3) := by decide +kernel
theorem dX4_cancel_5 : decode cX4_cancel 5 = .ok (.astore_n 2, 1) := by decide +kernel
theorem dX4_cancel_6 : decode cX4_cancel 6 = .ok (.aload_n 2, 1) := by decide +kernel
theorem dX4_cancel_7 : decode cX4_cancel 7 = .ok (.getfield 137, 3) := by decide +kernel
theorem dX4_cancel_10 : decode cX4_cancel 10 = .ok (.iconst 1, 1) := by decide +kernel
theorem dX4_cancel_11 : decode cX4_cancel 11 = .ok (.if_icmp .eq 13, 3) := by decide +kernel
theorem dX4_cancel_14 : decode cX4_cancel 14 = .ok (.new 35, 3) := by decide +kernel
theorem dX4_cancel_17 : decode cX4_cancel 17 = .ok (.dup, 1) := by decide +kernel
theorem dX4_cancel_18 : decode cX4_cancel 18 = .ok (.ldc 140, 2) := by decide +kernel
theorem dX4_cancel_20 : decode cX4_cancel 20 = .ok (.invokespecial 39, 3) := by decide +kernel
theorem dX4_cancel_23 : decode cX4_cancel 23 = .ok (.athrow, 1) := by decide +kernel
theorem dX4_cancel_24 : decode cX4_cancel 24 = .ok (.aload_n 2, 1) := by decide +kernel
theorem dX4_cancel_25 : decode cX4_cancel 25 = .ok (.iconst 4, 1) := by decide +kernel
theorem dX4_cancel_26 : decode cX4_cancel 26 = .ok (.iconst 4, 1) := by decide +kernel
theorem dX4_cancel_27 : decode cX4_cancel 27 = .ok (.iconst (-1), 1) := by decide +kernel
theorem dX4_cancel_28 : decode cX4_cancel 28 = .ok (.iconst (-1), 1) := by decide +kernel
theorem dX4_cancel_29 : decode cX4_cancel 29 = .ok (.aload_n 0, 1) := by decide +kernel
theorem dX4_cancel_30 : decode cX4_cancel 30 = .ok (.getfield 98, 3) := by decide +kernel
theorem dX4_cancel_33 : decode cX4_cancel 33 = .ok (.invokevirtual 133, 3) := by decide +kernel
theorem dX4_cancel_36 : decode cX4_cancel 36 = .ok (.ireturn, 1) := by decide +kernel
theorem dX4_delegate_0 : decode cX4_delegate 0 = .ok (.aload_n 0, 1) := by decide +kernel
theorem dX4_delegate_1 : decode cX4_delegate 1 = .ok (.iload_n 1, 1) := by decide +kernel
theorem dX4_delegate_2 : decode cX4_delegate 2 = .ok (.invokevirtual 124, 3) := by decide +kernel
theorem dX4_delegate_5 : decode cX4_delegate 5 = .ok (.astore 6, 2) := by decide +kernel
theorem dX4_delegate_7 : decode cX4_delegate 7 = .ok (.iload_n 2, 1) := by decide +kernel
theorem dX4_delegate_8 : decode cX4_delegate 8 = .ok (.invokestatic 47, 3) := by decide +kernel
theorem dX4_delegate_11 : decode cX4_delegate 11 = .ok (.iload_n 1, 1) := by decide +kernel
theorem dX4_delegate_12 : decode cX4_delegate 12 = .ok (.iload_n 2, 1) := by decide +kernel
theorem dX4_delegate_13 : decode cX4_delegate 13 = .ok (.if_icmp .ne 13, 3) := by decide +kernel
theorem dX4_delegate_16 : decode cX4_delegate 16 = .ok (.new 54, 3) := by decide +kernel
theorem dX4_delegate_19 : decode cX4_delegate 19 = .ok (.dup, 1) := by decide +kernel
theorem dX4_delegate_20 : decode cX4_delegate 20 = .ok (.ldc 142, 2) := by decide +kernel
theorem dX4_delegate_22 : decode cX4_delegate 22 = .ok (.invokespecial 58, 3) := by decide +kernel
theorem dX4_delegate_25 : decode cX4_delegate 25 = .ok (.athrow, 1) := by decide +kernel
theorem dX4_delegate_26 : decode cX4_delegate 26 = .ok (.iload_n 3, 1) := by decide +kernel
theorem dX4_delegate_27 : decode cX4_delegate 27 = .ok (.aload_n 0, 1) := by decide +kernel
theorem dX4_delegate_28 : decode cX4_delegate 28 = .ok (.getfield 98, 3) := by decide +kernel
theorem dX4_delegate_31 : decode cX4_delegate 31 = .ok (.if_icmp .lt 9, 3) := by decide +kernel
theorem dX4_delegate_34 : decode cX4_delegate 34 = .ok (.iload 4, 2) := by decide +kernel
theorem dX4_delegate_36 : decode cX4_delegate 36 = .ok (.iload_n 3, 1) := by decide +kernel
theorem dX4_delegate_37 : decode cX4_delegate 37 = .ok (.if_icmp .ge 13, 3) := by decide +kernel
theorem dX4_delegate_40 : decode cX4_delegate 40 = .ok (.new 54, 3) := by decide +kernel
theorem dX4_delegate_43 : decode cX4_delegate 43 = .ok (.dup, 1) := by decide +kernel
theorem dX4_delegate_44 : decode cX4_delegate 44 = .ok (.ldc 144, 2) := by decide +kernel
theorem dX4_delegate_46 : decode cX4_delegate 46 = .ok (.invokespecial 58, 3) := by decide +kernel
theorem dX4_delegate_49 : decode cX4_delegate 49 = .ok (.athrow, 1) := by decide +kernel
theorem dX4_delegate_50 : decode cX4_delegate 50 = .ok (.iload 5, 2) := by decide +kernel
theorem dX4_delegate_52 : decode cX4_delegate 52 = .ok (.iconst 1, 1) := by decide +kernel
theorem dX4_delegate_53 : decode cX4_delegate 53 = .ok (.if_icmp .lt 10, 3) := by decide +kernel
theorem dX4_delegate_56 : decode cX4_delegate 56 = .ok (.iload 5, 2) := by decide +kernel
theorem dX4_delegate_58 : decode cX4_delegate 58 = .ok (.bipush 9, 2) := by decide +kernel
theorem dX4_delegate_60 : decode cX4_delegate 60 = .ok (.if_icmp .le 13, 3) := by decide +kernel
theorem dX4_delegate_63 : decode cX4_delegate 63 = .ok (.new 54, 3) := by decide +kernel
theorem dX4_delegate_66 : decode cX4_delegate 66 = .ok (.dup, 1) := by decide +kernel
theorem dX4_delegate_67 : decode cX4_delegate 67 = .ok (.ldc 146, 2) := by decide +kernel
theorem dX4_delegate_69 : decode cX4_delegate 69 = .ok (.invokespecial 58, 3) := by decide +kernel
theorem dX4_delegate_72 : decode cX4_delegate 72 = .ok (.athrow, 1) := by decide +kernel
theorem dX4_delegate_73 : decode cX4_delegate 73 = .ok (.aload 6, 2) := by decide +kernel
theorem dX4_delegate_75 : decode cX4_delegate 75 = .ok (.getfield 148, 3) := by decide +kernel
theorem dX4_delegate_78 : decode cX4_delegate 78 = .ok (.istore 7, 2) := by decide +kernel
theorem dX4_delegate_80 : decode cX4_delegate 80 = .ok (.aload 6, 2) := by decide +kernel
theorem dX4_delegate_82 : decode cX4_delegate 82 = .ok (.iload_n 2, 1) := by decide +kernel
theorem dX4_delegate_83 : decode cX4_delegate 83 = .ok (.putfield 148, 3) := by decide +kernel
theorem dX4_delegate_86 : decode cX4_delegate 86 = .ok (.aload 6, 2) := by decide +kernel
theorem dX4_delegate_88 : decode cX4_delegate 88 = .ok (.iload_n 3, 1) := by decide +kernel
theorem dX4_delegate_89 : decode cX4_delegate 89 = .ok (.putfield 151, 3) := by decide +kernel
theorem dX4_delegate_92 : decode cX4_delegate 92 = .ok (.aload 6, 2) := by decide +kernel
theorem dX4_delegate_94 : decode cX4_delegate 94 = .ok (.iload 4, 2) := by decide +kernel
theorem dX4_delegate_96 : decode cX4_delegate 96 = .ok (.putfield 154, 3) := by decide +kernel
theorem dX4_delegate_99 : decode cX4_delegate 99 = .ok (.aload 6, 2) := by decide +kernel
theorem dX4_delegate_101 : decode cX4_delegate 101 = .ok (.iload 5, 2) := by decide +kernel
theorem dX4_delegate_103 : decode cX4_delegate 103 = .ok (.putfield 157, 3) := by decide +kernel
theorem dX4_delegate_106 : decode cX4_delegate 106 = .ok (.iload 7, 2) := by decide +kernel
theorem dX4_delegate_108 : decode cX4_delegate 108 = .ok (.ireturn, 1) := by decide +kernel
theorem dX4_revoke_0 : decode cX4_revoke 0 = .ok (.aload_n 0, 1) := by decide +kernel
theorem dX4_revoke_1 : decode cX4_revoke 1 = .ok (.iload_n 1, 1) := by decide +kernel
theorem dX4_revoke_2 : decode cX4_revoke 2 = .ok (.invokevirtual 124, 3) := by decide +kernel
theorem dX4_revoke_5 : decode cX4_revoke 5 = .ok (.astore_n 2, 1) := by decide +kernel
theorem dX4_revoke_6 : decode cX4_revoke 6 = .ok (.aload_n 2, 1) := by decide +kernel
theorem dX4_revoke_7 : decode cX4_revoke 7 = .ok (.getfield 148, 3) := by decide +kernel
theorem dX4_revoke_10 : decode cX4_revoke 10 = .ok (.istore_n 3, 1) := by decide +kernel
theorem dX4_revoke_11 : decode cX4_revoke 11 = .ok (.iload_n 3, 1) := by decide +kernel
theorem dX4_revoke_12 : decode cX4_revoke 12 = .ok (.iconst (-1), 1) := by decide +kernel
theorem dX4_revoke_13 : decode cX4_revoke 13 = .ok (.if_icmp .ne 13, 3) := by decide +kernel
theorem dX4_revoke_16 : decode cX4_revoke 16 = .ok (.new 35, 3) := by decide +kernel
theorem dX4_revoke_19 : decode cX4_revoke 19 = .ok (.dup, 1) := by decide +kernel
theorem dX4_revoke_20 : decode cX4_revoke 20 = .ok (.ldc 160, 2) := by decide +kernel
theorem dX4_revoke_22 : decode cX4_revoke 22 = .ok (.invokespecial 39, 3) := by decide +kernel
theorem dX4_revoke_25 : decode cX4_revoke 25 = .ok (.athrow, 1) := by decide +kernel
theorem dX4_revoke_26 : decode cX4_revoke 26 = .ok (.aload_n 2, 1) := by decide +kernel
theorem dX4_revoke_27 : decode cX4_revoke 27 = .ok (.iconst (-1), 1) := by decide +kernel
theorem dX4_revoke_28 : decode cX4_revoke 28 = .ok (.putfield 148, 3) := by decide +kernel
theorem dX4_revoke_31 : decode cX4_revoke 31 = .ok (.iload_n 3, 1) := by decide +kernel
theorem dX4_revoke_32 : decode cX4_revoke 32 = .ok (.ireturn, 1) := by decide +kernel
theorem dX4_delegateToday_0 : decode cX4_delegateToday 0 = .ok (.aload_n 0, 1) := by decide +kernel
theorem dX4_delegateToday_1 : decode cX4_delegateToday 1 = .ok (.iload_n 1, 1) := by decide +kernel
theorem dX4_delegateToday_2 : decode cX4_delegateToday 2 = .ok (.invokevirtual 124, 3) := by decide +kernel
theorem dX4_delegateToday_5 : decode cX4_delegateToday 5 = .ok (.aload_n 0, 1) := by decide +kernel
theorem dX4_delegateToday_6 : decode cX4_delegateToday 6 = .ok (.getfield 98, 3) := by decide +kernel
theorem dX4_delegateToday_9 : decode cX4_delegateToday 9 = .ok (.invokevirtual 162, 3) := by decide +kernel
theorem dX4_delegateToday_12 : decode cX4_delegateToday 12 = .ok (.ireturn, 1) := by decide +kernel
theorem dX4_signedFor_0 : decode cX4_signedFor 0 = .ok (.aload_n 0, 1) := by decide +kernel
theorem dX4_signedFor_1 : decode cX4_signedFor 1 = .ok (.iload_n 1, 1) := by decide +kernel
theorem dX4_signedFor_2 : decode cX4_signedFor 2 = .ok (.invokevirtual 124, 3) := by decide +kernel
theorem dX4_signedFor_5 : decode cX4_signedFor 5 = .ok (.getfield 128, 3) := by decide +kernel
theorem dX4_signedFor_8 : decode cX4_signedFor 8 = .ok (.ireturn, 1) := by decide +kernel
theorem dX4_toSign_0 : decode cX4_toSign 0 = .ok (.iload_n 1, 1) := by decide +kernel
theorem dX4_toSign_1 : decode cX4_toSign 1 = .ok (.invokestatic 47, 3) := by decide +kernel
theorem dX4_toSign_4 : decode cX4_toSign 4 = .ok (.iconst 0, 1) := by decide +kernel
theorem dX4_toSign_5 : decode cX4_toSign 5 = .ok (.istore_n 2, 1) := by decide +kernel
theorem dX4_toSign_6 : decode cX4_toSign 6 = .ok (.iconst 0, 1) := by decide +kernel
theorem dX4_toSign_7 : decode cX4_toSign 7 = .ok (.istore_n 3, 1) := by decide +kernel
theorem dX4_toSign_8 : decode cX4_toSign 8 = .ok (.iload_n 3, 1) := by decide +kernel
theorem dX4_toSign_9 : decode cX4_toSign 9 = .ok (.aload_n 0, 1) := by decide +kernel
theorem dX4_toSign_10 : decode cX4_toSign 10 = .ok (.getfield 31, 3) := by decide +kernel
theorem dX4_toSign_13 : decode cX4_toSign 13 = .ok (.if_icmp .ge 60, 3) := by decide +kernel
theorem dX4_toSign_16 : decode cX4_toSign 16 = .ok (.aload_n 0, 1) := by decide +kernel
theorem dX4_toSign_17 : decode cX4_toSign 17 = .ok (.iload_n 3, 1) := by decide +kernel
theorem dX4_toSign_18 : decode cX4_toSign 18 = .ok (.invokevirtual 43, 3) := by decide +kernel
theorem dX4_toSign_21 : decode cX4_toSign 21 = .ok (.astore 4, 2) := by decide +kernel
theorem dX4_toSign_23 : decode cX4_toSign 23 = .ok (.iconst 0, 1) := by decide +kernel
theorem dX4_toSign_24 : decode cX4_toSign 24 = .ok (.istore 5, 2) := by decide +kernel
theorem dX4_toSign_26 : decode cX4_toSign 26 = .ok (.iload 5, 2) := by decide +kernel
theorem dX4_toSign_28 : decode cX4_toSign 28 = .ok (.aload 4, 2) := by decide +kernel
theorem dX4_toSign_30 : decode cX4_toSign 30 = .ok (.getfield 63, 3) := by decide +kernel
theorem dX4_toSign_33 : decode cX4_toSign 33 = .ok (.if_icmp .ge 34, 3) := by decide +kernel
theorem dX4_toSign_36 : decode cX4_toSign 36 = .ok (.aload_n 0, 1) := by decide +kernel
theorem dX4_toSign_37 : decode cX4_toSign 37 = .ok (.iload_n 1, 1) := by decide +kernel
theorem dX4_toSign_38 : decode cX4_toSign 38 = .ok (.aload 4, 2) := by decide +kernel
theorem dX4_toSign_40 : decode cX4_toSign 40 = .ok (.iload 5, 2) := by decide +kernel
theorem dX4_toSign_42 : decode cX4_toSign 42 = .ok (.invokevirtual 108, 3) := by decide +kernel
theorem dX4_toSign_45 : decode cX4_toSign 45 = .ok (.istore 6, 2) := by decide +kernel
theorem dX4_toSign_47 : decode cX4_toSign 47 = .ok (.iload 6, 2) := by decide +kernel
theorem dX4_toSign_49 : decode cX4_toSign 49 = .ok (.ifCond .eq 9, 3) := by decide +kernel
theorem dX4_toSign_52 : decode cX4_toSign 52 = .ok (.iload 6, 2) := by decide +kernel
theorem dX4_toSign_54 : decode cX4_toSign 54 = .ok (.iconst 1, 1) := by decide +kernel
theorem dX4_toSign_55 : decode cX4_toSign 55 = .ok (.if_icmp .ne 6, 3) := by decide +kernel
theorem dX4_toSign_58 : decode cX4_toSign 58 = .ok (.iinc 2 1, 3) := by decide +kernel
theorem dX4_toSign_61 : decode cX4_toSign 61 = .ok (.iinc 5 1, 3) := by decide +kernel
theorem dX4_toSign_64 : decode cX4_toSign 64 = .ok (.goto (-38), 3) := by decide +kernel
theorem dX4_toSign_67 : decode cX4_toSign 67 = .ok (.iinc 3 1, 3) := by decide +kernel
theorem dX4_toSign_70 : decode cX4_toSign 70 = .ok (.goto (-62), 3) := by decide +kernel
theorem dX4_toSign_73 : decode cX4_toSign 73 = .ok (.iload_n 2, 1) := by decide +kernel
theorem dX4_toSign_74 : decode cX4_toSign 74 = .ok (.ireturn, 1) := by decide +kernel
theorem dX4_pass_0 : decode cX4_pass 0 = .ok (.iload_n 1, 1) := by decide +kernel
theorem dX4_pass_1 : decode cX4_pass 1 = .ok (.iconst 1, 1) := by decide +kernel
theorem dX4_pass_2 : decode cX4_pass 2 = .ok (.if_icmp .lt 9, 3) := by decide +kernel
theorem dX4_pass_5 : decode cX4_pass 5 = .ok (.iload_n 1, 1) := by decide +kernel
theorem dX4_pass_6 : decode cX4_pass 6 = .ok (.bipush 60, 2) := by decide +kernel
theorem dX4_pass_8 : decode cX4_pass 8 = .ok (.if_icmp .le 13, 3) := by decide +kernel
theorem dX4_pass_11 : decode cX4_pass 11 = .ok (.new 54, 3) := by decide +kernel
theorem dX4_pass_14 : decode cX4_pass 14 = .ok (.dup, 1) := by decide +kernel
theorem dX4_pass_15 : decode cX4_pass 15 = .ok (.ldc 165, 2) := by decide +kernel
theorem dX4_pass_17 : decode cX4_pass 17 = .ok (.invokespecial 58, 3) := by decide +kernel
theorem dX4_pass_20 : decode cX4_pass 20 = .ok (.athrow, 1) := by decide +kernel
theorem dX4_pass_21 : decode cX4_pass 21 = .ok (.iconst 0, 1) := by decide +kernel
theorem dX4_pass_22 : decode cX4_pass 22 = .ok (.istore_n 2, 1) := by decide +kernel
theorem dX4_pass_23 : decode cX4_pass 23 = .ok (.iconst 0, 1) := by decide +kernel
theorem dX4_pass_24 : decode cX4_pass 24 = .ok (.istore_n 3, 1) := by decide +kernel
theorem dX4_pass_25 : decode cX4_pass 25 = .ok (.iload_n 3, 1) := by decide +kernel
theorem dX4_pass_26 : decode cX4_pass 26 = .ok (.iload_n 1, 1) := by decide +kernel
theorem dX4_pass_27 : decode cX4_pass 27 = .ok (.if_icmp .ge 16, 3) := by decide +kernel
theorem dX4_pass_30 : decode cX4_pass 30 = .ok (.iload_n 2, 1) := by decide +kernel
theorem dX4_pass_31 : decode cX4_pass 31 = .ok (.aload_n 0, 1) := by decide +kernel
theorem dX4_pass_32 : decode cX4_pass 32 = .ok (.invokevirtual 167, 3) := by decide +kernel
theorem dX4_pass_35 : decode cX4_pass 35 = .ok (.iadd, 1) := by decide +kernel
theorem dX4_pass_36 : decode cX4_pass 36 = .ok (.istore_n 2, 1) := by decide +kernel
theorem dX4_pass_37 : decode cX4_pass 37 = .ok (.iinc 3 1, 3) := by decide +kernel
theorem dX4_pass_40 : decode cX4_pass 40 = .ok (.goto (-15), 3) := by decide +kernel
theorem dX4_pass_43 : decode cX4_pass 43 = .ok (.iload_n 2, 1) := by decide +kernel
theorem dX4_pass_44 : decode cX4_pass 44 = .ok (.ireturn, 1) := by decide +kernel
theorem dX4_today_0 : decode cX4_today 0 = .ok (.aload_n 0, 1) := by decide +kernel
theorem dX4_today_1 : decode cX4_today 1 = .ok (.getfield 98, 3) := by decide +kernel
theorem dX4_today_4 : decode cX4_today 4 = .ok (.ireturn, 1) := by decide +kernel
theorem dX4_nextReminder_0 : decode cX4_nextReminder 0 = .ok (.aload_n 0, 1) := by decide +kernel
theorem dX4_nextReminder_1 : decode cX4_nextReminder 1 = .ok (.iload_n 1, 1) := by decide +kernel
theorem dX4_nextReminder_2 : decode cX4_nextReminder 2 = .ok (.invokevirtual 43, 3) := by decide +kernel
theorem dX4_nextReminder_5 : decode cX4_nextReminder 5 = .ok (.aload_n 0, 1) := by decide +kernel
theorem dX4_nextReminder_6 : decode cX4_nextReminder 6 = .ok (.getfield 98, 3) := by decide +kernel
theorem dX4_nextReminder_9 : decode cX4_nextReminder 9 = .ok (.invokevirtual 170, 3) := by decide +kernel
theorem dX4_nextReminder_12 : decode cX4_nextReminder 12 = .ok (.ireturn, 1) := by decide +kernel
theorem dX4_envelopes_0 : decode cX4_envelopes 0 = .ok (.aload_n 0, 1) := by decide +kernel
theorem dX4_envelopes_1 : decode cX4_envelopes 1 = .ok (.getfield 31, 3) := by decide +kernel
theorem dX4_envelopes_4 : decode cX4_envelopes 4 = .ok (.ireturn, 1) := by decide +kernel
theorem dX4_state_0 : decode cX4_state 0 = .ok (.aload_n 0, 1) := by decide +kernel
theorem dX4_state_1 : decode cX4_state 1 = .ok (.iload_n 1, 1) := by decide +kernel
theorem dX4_state_2 : decode cX4_state 2 = .ok (.invokevirtual 43, 3) := by decide +kernel
theorem dX4_state_5 : decode cX4_state 5 = .ok (.getfield 137, 3) := by decide +kernel
theorem dX4_state_8 : decode cX4_state 8 = .ok (.ireturn, 1) := by decide +kernel
theorem dX4_slots_0 : decode cX4_slots 0 = .ok (.aload_n 0, 1) := by decide +kernel
theorem dX4_slots_1 : decode cX4_slots 1 = .ok (.iload_n 1, 1) := by decide +kernel
theorem dX4_slots_2 : decode cX4_slots 2 = .ok (.invokevirtual 43, 3) := by decide +kernel
theorem dX4_slots_5 : decode cX4_slots 5 = .ok (.getfield 63, 3) := by decide +kernel
theorem dX4_slots_8 : decode cX4_slots 8 = .ok (.ireturn, 1) := by decide +kernel
theorem dX4_slotState_0 : decode cX4_slotState 0 = .ok (.aload_n 0, 1) := by decide +kernel
theorem dX4_slotState_1 : decode cX4_slotState 1 = .ok (.iload_n 1, 1) := by decide +kernel
theorem dX4_slotState_2 : decode cX4_slotState 2 = .ok (.invokevirtual 43, 3) := by decide +kernel
theorem dX4_slotState_5 : decode cX4_slotState 5 = .ok (.astore_n 3, 1) := by decide +kernel
theorem dX4_slotState_6 : decode cX4_slotState 6 = .ok (.aload_n 3, 1) := by decide +kernel
theorem dX4_slotState_7 : decode cX4_slotState 7 = .ok (.iload_n 2, 1) := by decide +kernel
theorem dX4_slotState_8 : decode cX4_slotState 8 = .ok (.invokestatic 104, 3) := by decide +kernel
theorem dX4_slotState_11 : decode cX4_slotState 11 = .ok (.aload_n 3, 1) := by decide +kernel
theorem dX4_slotState_12 : decode cX4_slotState 12 = .ok (.iload_n 2, 1) := by decide +kernel
theorem dX4_slotState_13 : decode cX4_slotState 13 = .ok (.invokevirtual 173, 3) := by decide +kernel
theorem dX4_slotState_16 : decode cX4_slotState 16 = .ok (.ireturn, 1) := by decide +kernel
theorem dX4_missing_0 : decode cX4_missing 0 = .ok (.aload_n 0, 1) := by decide +kernel
theorem dX4_missing_1 : decode cX4_missing 1 = .ok (.iload_n 1, 1) := by decide +kernel
theorem dX4_missing_2 : decode cX4_missing 2 = .ok (.invokevirtual 43, 3) := by decide +kernel
theorem dX4_missing_5 : decode cX4_missing 5 = .ok (.astore_n 3, 1) := by decide +kernel
theorem dX4_missing_6 : decode cX4_missing 6 = .ok (.aload_n 3, 1) := by decide +kernel
theorem dX4_missing_7 : decode cX4_missing 7 = .ok (.iload_n 2, 1) := by decide +kernel
theorem dX4_missing_8 : decode cX4_missing 8 = .ok (.invokestatic 104, 3) := by decide +kernel
theorem dX4_missing_11 : decode cX4_missing 11 = .ok (.aload_n 3, 1) := by decide +kernel
theorem dX4_missing_12 : decode cX4_missing 12 = .ok (.getfield 176, 3) := by decide +kernel
theorem dX4_missing_15 : decode cX4_missing 15 = .ok (.iload_n 2, 1) := by decide +kernel
theorem dX4_missing_16 : decode cX4_missing 16 = .ok (.invokevirtual 121, 3) := by decide +kernel
theorem dX4_missing_19 : decode cX4_missing 19 = .ok (.aload_n 3, 1) := by decide +kernel
theorem dX4_missing_20 : decode cX4_missing 20 = .ok (.getfield 179, 3) := by decide +kernel
theorem dX4_missing_23 : decode cX4_missing 23 = .ok (.iconst (-1), 1) := by decide +kernel
theorem dX4_missing_24 : decode cX4_missing 24 = .ok (.ixor, 1) := by decide +kernel
theorem dX4_missing_25 : decode cX4_missing 25 = .ok (.iand, 1) := by decide +kernel
theorem dX4_missing_26 : decode cX4_missing 26 = .ok (.invokestatic 74, 3) := by decide +kernel
theorem dX4_missing_29 : decode cX4_missing 29 = .ok (.ireturn, 1) := by decide +kernel
theorem dX4_share_0 : decode cX4_share 0 = .ok (.aload_n 0, 1) := by decide +kernel
theorem dX4_share_1 : decode cX4_share 1 = .ok (.iload_n 1, 1) := by decide +kernel
theorem dX4_share_2 : decode cX4_share 2 = .ok (.invokevirtual 43, 3) := by decide +kernel
theorem dX4_share_5 : decode cX4_share 5 = .ok (.astore_n 2, 1) := by decide +kernel
theorem dX4_share_6 : decode cX4_share 6 = .ok (.aload_n 2, 1) := by decide +kernel
theorem dX4_share_7 : decode cX4_share 7 = .ok (.getfield 63, 3) := by decide +kernel
theorem dX4_share_10 : decode cX4_share 10 = .ok (.ifCond .ne 5, 3) := by decide +kernel
theorem dX4_share_13 : decode cX4_share 13 = .ok (.fconst 0, 1) := by decide +kernel
theorem dX4_share_14 : decode cX4_share 14 = .ok (.freturn, 1) := by decide +kernel
theorem dX4_share_15 : decode cX4_share 15 = .ok (.aload_n 2, 1) := by decide +kernel
theorem dX4_share_16 : decode cX4_share 16 = .ok (.getfield 179, 3) := by decide +kernel
theorem dX4_share_19 : decode cX4_share 19 = .ok (.invokestatic 74, 3) := by decide +kernel
theorem dX4_share_22 : decode cX4_share 22 = .ok (.i2f, 1) := by decide +kernel
theorem dX4_share_23 : decode cX4_share 23 = .ok (.aload_n 2, 1) := by decide +kernel
theorem dX4_share_24 : decode cX4_share 24 = .ok (.getfield 63, 3) := by decide +kernel
theorem dX4_share_27 : decode cX4_share 27 = .ok (.i2f, 1) := by decide +kernel
theorem dX4_share_28 : decode cX4_share 28 = .ok (.fdiv, 1) := by decide +kernel
theorem dX4_share_29 : decode cX4_share 29 = .ok (.freturn, 1) := by decide +kernel
theorem dX4_ahead_0 : decode cX4_ahead 0 = .ok (.aload_n 0, 1) := by decide +kernel
theorem dX4_ahead_1 : decode cX4_ahead 1 = .ok (.iload_n 1, 1) := by decide +kernel
theorem dX4_ahead_2 : decode cX4_ahead 2 = .ok (.invokevirtual 43, 3) := by decide +kernel
theorem dX4_ahead_5 : decode cX4_ahead 5 = .ok (.astore_n 3, 1) := by decide +kernel
theorem dX4_ahead_6 : decode cX4_ahead 6 = .ok (.aload_n 3, 1) := by decide +kernel
theorem dX4_ahead_7 : decode cX4_ahead 7 = .ok (.iload_n 2, 1) := by decide +kernel
theorem dX4_ahead_8 : decode cX4_ahead 8 = .ok (.invokestatic 104, 3) := by decide +kernel
theorem dX4_ahead_11 : decode cX4_ahead 11 = .ok (.aload_n 3, 1) := by decide +kernel
theorem dX4_ahead_12 : decode cX4_ahead 12 = .ok (.iload_n 2, 1) := by decide +kernel
theorem dX4_ahead_13 : decode cX4_ahead 13 = .ok (.invokevirtual 182, 3) := by decide +kernel
theorem dX4_ahead_16 : decode cX4_ahead 16 = .ok (.invokestatic 74, 3) := by decide +kernel
theorem dX4_ahead_19 : decode cX4_ahead 19 = .ok (.ireturn, 1) := by decide +kernel
theorem dX4_roundOf_0 : decode cX4_roundOf 0 = .ok (.aload_n 0, 1) := by decide +kernel
theorem dX4_roundOf_1 : decode cX4_roundOf 1 = .ok (.iload_n 1, 1) := by decide +kernel
theorem dX4_roundOf_2 : decode cX4_roundOf 2 = .ok (.invokevirtual 43, 3) := by decide +kernel
theorem dX4_roundOf_5 : decode cX4_roundOf 5 = .ok (.astore_n 3, 1) := by decide +kernel
theorem dX4_roundOf_6 : decode cX4_roundOf 6 = .ok (.aload_n 3, 1) := by decide +kernel
theorem dX4_roundOf_7 : decode cX4_roundOf 7 = .ok (.iload_n 2, 1) := by decide +kernel
theorem dX4_roundOf_8 : decode cX4_roundOf 8 = .ok (.invokestatic 104, 3) := by decide +kernel
theorem dX4_roundOf_11 : decode cX4_roundOf 11 = .ok (.aload_n 3, 1) := by decide +kernel
theorem dX4_roundOf_12 : decode cX4_roundOf 12 = .ok (.getfield 185, 3) := by decide +kernel
theorem dX4_roundOf_15 : decode cX4_roundOf 15 = .ok (.iload_n 2, 1) := by decide +kernel
theorem dX4_roundOf_16 : decode cX4_roundOf 16 = .ok (.invokevirtual 121, 3) := by decide +kernel
theorem dX4_roundOf_19 : decode cX4_roundOf 19 = .ok (.ireturn, 1) := by decide +kernel
theorem dX4_orders_0 : decode cX4_orders 0 = .ok (.aload_n 0, 1) := by decide +kernel
theorem dX4_orders_1 : decode cX4_orders 1 = .ok (.iload_n 1, 1) := by decide +kernel
theorem dX4_orders_2 : decode cX4_orders 2 = .ok (.invokevirtual 43, 3) := by decide +kernel
theorem dX4_orders_5 : decode cX4_orders 5 = .ok (.iconst 0, 1) := by decide +kernel
theorem dX4_orders_6 : decode cX4_orders 6 = .ok (.aload_n 0, 1) := by decide +kernel
theorem dX4_orders_7 : decode cX4_orders 7 = .ok (.getfield 26, 3) := by decide +kernel
theorem dX4_orders_10 : decode cX4_orders 10 = .ok (.invokevirtual 188, 3) := by decide +kernel
theorem dX4_orders_13 : decode cX4_orders 13 = .ok (.ireturn, 1) := by decide +kernel
theorem dX4_ordersByAll_0 : decode cX4_ordersByAll 0 = .ok (.aload_n 0, 1) := by decide +kernel
theorem dX4_ordersByAll_1 : decode cX4_ordersByAll 1 = .ok (.iload_n 1, 1) := by decide +kernel
theorem dX4_ordersByAll_2 : decode cX4_ordersByAll 2 = .ok (.invokevirtual 43, 3) := by decide +kernel
theorem dX4_ordersByAll_5 : decode cX4_ordersByAll 5 = .ok (.iconst 0, 1) := by decide +kernel
theorem dX4_ordersByAll_6 : decode cX4_ordersByAll 6 = .ok (.iconst 0, 1) := by decide +kernel
theorem dX4_ordersByAll_7 : decode cX4_ordersByAll 7 = .ok (.invokestatic 192, 3) := by decide +kernel
theorem dX4_ordersByAll_10 : decode cX4_ordersByAll 10 = .ok (.ireturn, 1) := by decide +kernel
theorem dX4_ordersLeft_0 : decode cX4_ordersLeft 0 = .ok (.aload_n 0, 1) := by decide +kernel
theorem dX4_ordersLeft_1 : decode cX4_ordersLeft 1 = .ok (.iload_n 1, 1) := by decide +kernel
theorem dX4_ordersLeft_2 : decode cX4_ordersLeft 2 = .ok (.invokevirtual 43, 3) := by decide +kernel
theorem dX4_ordersLeft_5 : decode cX4_ordersLeft 5 = .ok (.astore_n 2, 1) := by decide +kernel
theorem dX4_ordersLeft_6 : decode cX4_ordersLeft 6 = .ok (.aload_n 2, 1) := by decide +kernel
theorem dX4_ordersLeft_7 : decode cX4_ordersLeft 7 = .ok (.aload_n 2, 1) := by decide +kernel
theorem dX4_ordersLeft_8 : decode cX4_ordersLeft 8 = .ok (.getfield 179, 3) := by decide +kernel
theorem dX4_ordersLeft_11 : decode cX4_ordersLeft 11 = .ok (.aload_n 0, 1) := by decide +kernel
theorem dX4_ordersLeft_12 : decode cX4_ordersLeft 12 = .ok (.getfield 26, 3) := by decide +kernel
theorem dX4_ordersLeft_15 : decode cX4_ordersLeft 15 = .ok (.invokevirtual 188, 3) := by decide +kernel
theorem dX4_ordersLeft_18 : decode cX4_ordersLeft 18 = .ok (.ireturn, 1) := by decide +kernel
theorem dX4_events_0 : decode cX4_events 0 = .ok (.aload_n 0, 1) := by decide +kernel
theorem dX4_events_1 : decode cX4_events 1 = .ok (.iload_n 1, 1) := by decide +kernel
theorem dX4_events_2 : decode cX4_events 2 = .ok (.invokevirtual 43, 3) := by decide +kernel
theorem dX4_events_5 : decode cX4_events 5 = .ok (.getfield 196, 3) := by decide +kernel
theorem dX4_events_8 : decode cX4_events 8 = .ok (.getfield 200, 3) := by decide +kernel
theorem dX4_events_11 : decode cX4_events 11 = .ok (.ireturn, 1) := by decide +kernel
theorem dX4_kindOf_0 : decode cX4_kindOf 0 = .ok (.aload_n 0, 1) := by decide +kernel
theorem dX4_kindOf_1 : decode cX4_kindOf 1 = .ok (.iload_n 1, 1) := by decide +kernel
theorem dX4_kindOf_2 : decode cX4_kindOf 2 = .ok (.invokevirtual 43, 3) := by decide +kernel
theorem dX4_kindOf_5 : decode cX4_kindOf 5 = .ok (.getfield 196, 3) := by decide +kernel
theorem dX4_kindOf_8 : decode cX4_kindOf 8 = .ok (.astore_n 3, 1) := by decide +kernel
theorem dX4_kindOf_9 : decode cX4_kindOf 9 = .ok (.aload_n 3, 1) := by decide +kernel
theorem dX4_kindOf_10 : decode cX4_kindOf 10 = .ok (.iload_n 2, 1) := by decide +kernel
theorem dX4_kindOf_11 : decode cX4_kindOf 11 = .ok (.invokestatic 205, 3) := by decide +kernel
theorem dX4_kindOf_14 : decode cX4_kindOf 14 = .ok (.aload_n 3, 1) := by decide +kernel
theorem dX4_kindOf_15 : decode cX4_kindOf 15 = .ok (.getfield 209, 3) := by decide +kernel
theorem dX4_kindOf_18 : decode cX4_kindOf 18 = .ok (.iload_n 2, 1) := by decide +kernel
theorem dX4_kindOf_19 : decode cX4_kindOf 19 = .ok (.invokevirtual 121, 3) := by decide +kernel
theorem dX4_kindOf_22 : decode cX4_kindOf 22 = .ok (.ireturn, 1) := by decide +kernel
theorem dX4_personOf_0 : decode cX4_personOf 0 = .ok (.aload_n 0, 1) := by decide +kernel
theorem dX4_personOf_1 : decode cX4_personOf 1 = .ok (.iload_n 1, 1) := by decide +kernel
theorem dX4_personOf_2 : decode cX4_personOf 2 = .ok (.invokevirtual 43, 3) := by decide +kernel
theorem dX4_personOf_5 : decode cX4_personOf 5 = .ok (.getfield 196, 3) := by decide +kernel
theorem dX4_personOf_8 : decode cX4_personOf 8 = .ok (.astore_n 3, 1) := by decide +kernel
theorem dX4_personOf_9 : decode cX4_personOf 9 = .ok (.aload_n 3, 1) := by decide +kernel
theorem dX4_personOf_10 : decode cX4_personOf 10 = .ok (.iload_n 2, 1) := by decide +kernel
theorem dX4_personOf_11 : decode cX4_personOf 11 = .ok (.invokestatic 205, 3) := by decide +kernel
theorem dX4_personOf_14 : decode cX4_personOf 14 = .ok (.aload_n 3, 1) := by decide +kernel
theorem dX4_personOf_15 : decode cX4_personOf 15 = .ok (.getfield 212, 3) := by decide +kernel
theorem dX4_personOf_18 : decode cX4_personOf 18 = .ok (.iload_n 2, 1) := by decide +kernel
theorem dX4_personOf_19 : decode cX4_personOf 19 = .ok (.invokevirtual 121, 3) := by decide +kernel
theorem dX4_personOf_22 : decode cX4_personOf 22 = .ok (.ireturn, 1) := by decide +kernel
theorem dX4_dayOf_0 : decode cX4_dayOf 0 = .ok (.aload_n 0, 1) := by decide +kernel
theorem dX4_dayOf_1 : decode cX4_dayOf 1 = .ok (.iload_n 1, 1) := by decide +kernel
theorem dX4_dayOf_2 : decode cX4_dayOf 2 = .ok (.invokevirtual 43, 3) := by decide +kernel
theorem dX4_dayOf_5 : decode cX4_dayOf 5 = .ok (.getfield 196, 3) := by decide +kernel
theorem dX4_dayOf_8 : decode cX4_dayOf 8 = .ok (.astore_n 3, 1) := by decide +kernel
theorem dX4_dayOf_9 : decode cX4_dayOf 9 = .ok (.aload_n 3, 1) := by decide +kernel
theorem dX4_dayOf_10 : decode cX4_dayOf 10 = .ok (.iload_n 2, 1) := by decide +kernel
theorem dX4_dayOf_11 : decode cX4_dayOf 11 = .ok (.invokestatic 205, 3) := by decide +kernel
theorem dX4_dayOf_14 : decode cX4_dayOf 14 = .ok (.aload_n 3, 1) := by decide +kernel
theorem dX4_dayOf_15 : decode cX4_dayOf 15 = .ok (.getfield 213, 3) := by decide +kernel
theorem dX4_dayOf_18 : decode cX4_dayOf 18 = .ok (.iload_n 2, 1) := by decide +kernel
theorem dX4_dayOf_19 : decode cX4_dayOf 19 = .ok (.invokevirtual 121, 3) := by decide +kernel
theorem dX4_dayOf_22 : decode cX4_dayOf 22 = .ok (.ireturn, 1) := by decide +kernel
theorem dX4_seal_0 : decode cX4_seal 0 = .ok (.aload_n 0, 1) := by decide +kernel
theorem dX4_seal_1 : decode cX4_seal 1 = .ok (.iload_n 1, 1) := by decide +kernel
theorem dX4_seal_2 : decode cX4_seal 2 = .ok (.invokevirtual 43, 3) := by decide +kernel
theorem dX4_seal_5 : decode cX4_seal 5 = .ok (.getfield 196, 3) := by decide +kernel
theorem dX4_seal_8 : decode cX4_seal 8 = .ok (.astore_n 3, 1) := by decide +kernel
theorem dX4_seal_9 : decode cX4_seal 9 = .ok (.aload_n 3, 1) := by decide +kernel
theorem dX4_seal_10 : decode cX4_seal 10 = .ok (.iload_n 2, 1) := by decide +kernel
theorem dX4_seal_11 : decode cX4_seal 11 = .ok (.invokestatic 216, 3) := by decide +kernel
theorem dX4_seal_14 : decode cX4_seal 14 = .ok (.aload_n 3, 1) := by decide +kernel
theorem dX4_seal_15 : decode cX4_seal 15 = .ok (.iload_n 2, 1) := by decide +kernel
theorem dX4_seal_16 : decode cX4_seal 16 = .ok (.invokevirtual 219, 3) := by decide +kernel
theorem dX4_seal_19 : decode cX4_seal 19 = .ok (.ireturn, 1) := by decide +kernel
theorem dX4_stateBehind_0 : decode cX4_stateBehind 0 = .ok (.aload_n 0, 1) := by decide +kernel
theorem dX4_stateBehind_1 : decode cX4_stateBehind 1 = .ok (.iload_n 1, 1) := by decide +kernel
theorem dX4_stateBehind_2 : decode cX4_stateBehind 2 = .ok (.invokevirtual 43, 3) := by decide +kernel
theorem dX4_stateBehind_5 : decode cX4_stateBehind 5 = .ok (.astore_n 3, 1) := by decide +kernel
theorem dX4_stateBehind_6 : decode cX4_stateBehind 6 = .ok (.aload_n 3, 1) := by decide +kernel
theorem dX4_stateBehind_7 : decode cX4_stateBehind 7 = .ok (.getfield 196, 3) := by decide +kernel
theorem dX4_stateBehind_10 : decode cX4_stateBehind 10 = .ok (.iload_n 2, 1) := by decide +kernel
theorem dX4_stateBehind_11 : decode cX4_stateBehind 11 = .ok (.invokestatic 216, 3) := by decide +kernel
theorem dX4_stateBehind_14 : decode cX4_stateBehind 14 = .ok (.aload_n 3, 1) := by decide +kernel
theorem dX4_stateBehind_15 : decode cX4_stateBehind 15 = .ok (.getfield 196, 3) := by decide +kernel
theorem dX4_stateBehind_18 : decode cX4_stateBehind 18 = .ok (.iload_n 2, 1) := by decide +kernel
theorem dX4_stateBehind_19 : decode cX4_stateBehind 19 = .ok (.aload_n 3, 1) := by decide +kernel
theorem dX4_stateBehind_20 : decode cX4_stateBehind 20 = .ok (.getfield 63, 3) := by decide +kernel
theorem dX4_stateBehind_23 : decode cX4_stateBehind 23 = .ok (.invokevirtual 222, 3) := by decide +kernel
theorem dX4_stateBehind_26 : decode cX4_stateBehind 26 = .ok (.ireturn, 1) := by decide +kernel
theorem dX4_openBehind_0 : decode cX4_openBehind 0 = .ok (.aload_n 0, 1) := by decide +kernel
theorem dX4_openBehind_1 : decode cX4_openBehind 1 = .ok (.iload_n 1, 1) := by decide +kernel
theorem dX4_openBehind_2 : decode cX4_openBehind 2 = .ok (.invokevirtual 43, 3) := by decide +kernel
theorem dX4_openBehind_5 : decode cX4_openBehind 5 = .ok (.astore_n 3, 1) := by decide +kernel
theorem dX4_openBehind_6 : decode cX4_openBehind 6 = .ok (.aload_n 3, 1) := by decide +kernel
theorem dX4_openBehind_7 : decode cX4_openBehind 7 = .ok (.getfield 196, 3) := by decide +kernel
theorem dX4_openBehind_10 : decode cX4_openBehind 10 = .ok (.iload_n 2, 1) := by decide +kernel
theorem dX4_openBehind_11 : decode cX4_openBehind 11 = .ok (.invokestatic 216, 3) := by decide +kernel
theorem dX4_openBehind_14 : decode cX4_openBehind 14 = .ok (.aload_n 3, 1) := by decide +kernel
theorem dX4_openBehind_15 : decode cX4_openBehind 15 = .ok (.getfield 196, 3) := by decide +kernel
theorem dX4_openBehind_18 : decode cX4_openBehind 18 = .ok (.iload_n 2, 1) := by decide +kernel
theorem dX4_openBehind_19 : decode cX4_openBehind 19 = .ok (.aload_n 3, 1) := by decide +kernel
theorem dX4_openBehind_20 : decode cX4_openBehind 20 = .ok (.getfield 63, 3) := by decide +kernel
theorem dX4_openBehind_23 : decode cX4_openBehind 23 = .ok (.invokevirtual 222, 3) := by decide +kernel
theorem dX4_openBehind_26 : decode cX4_openBehind 26 = .ok (.iconst 1, 1) := by decide +kernel
theorem dX4_openBehind_27 : decode cX4_openBehind 27 = .ok (.if_icmp .eq 5, 3) := by decide +kernel
theorem dX4_openBehind_30 : decode cX4_openBehind 30 = .ok (.iconst 0, 1) := by decide +kernel
theorem dX4_openBehind_31 : decode cX4_openBehind 31 = .ok (.ireturn, 1) := by decide +kernel
theorem dX4_openBehind_32 : decode cX4_openBehind 32 = .ok (.aload_n 3, 1) := by decide +kernel
theorem dX4_openBehind_33 : decode cX4_openBehind 33 = .ok (.aload_n 3, 1) := by decide +kernel
theorem dX4_openBehind_34 : decode cX4_openBehind 34 = .ok (.getfield 196, 3) := by decide +kernel
theorem dX4_openBehind_37 : decode cX4_openBehind 37 = .ok (.iload_n 2, 1) := by decide +kernel
theorem dX4_openBehind_38 : decode cX4_openBehind 38 = .ok (.invokevirtual 226, 3) := by decide +kernel
theorem dX4_openBehind_41 : decode cX4_openBehind 41 = .ok (.invokevirtual 229, 3) := by decide +kernel
theorem dX4_openBehind_44 : decode cX4_openBehind 44 = .ok (.ireturn, 1) := by decide +kernel
theorem dX4_envelopeAt_0 : decode cX4_envelopeAt 0 = .ok (.iload_n 1, 1) := by decide +kernel
theorem dX4_envelopeAt_1 : decode cX4_envelopeAt 1 = .ok (.ifCond .lt 20, 3) := by decide +kernel
theorem dX4_envelopeAt_4 : decode cX4_envelopeAt 4 = .ok (.iload_n 1, 1) := by decide +kernel
theorem dX4_envelopeAt_5 : decode cX4_envelopeAt 5 = .ok (.aload_n 0, 1) := by decide +kernel
theorem dX4_envelopeAt_6 : decode cX4_envelopeAt 6 = .ok (.getfield 31, 3) := by decide +kernel
theorem dX4_envelopeAt_9 : decode cX4_envelopeAt 9 = .ok (.if_icmp .ge 12, 3) := by decide +kernel
theorem dX4_envelopeAt_12 : decode cX4_envelopeAt 12 = .ok (.iload_n 1, 1) := by decide +kernel
theorem dX4_envelopeAt_13 : decode cX4_envelopeAt 13 = .ok (.aload_n 0, 1) := by decide +kernel
theorem dX4_envelopeAt_14 : decode cX4_envelopeAt 14 = .ok (.getfield 11, 3) := by decide +kernel
theorem dX4_envelopeAt_17 : decode cX4_envelopeAt 17 = .ok (.arraylength, 1) := by decide +kernel
theorem dX4_envelopeAt_18 : decode cX4_envelopeAt 18 = .ok (.if_icmp .lt 13, 3) := by decide +kernel
theorem dX4_envelopeAt_21 : decode cX4_envelopeAt 21 = .ok (.new 232, 3) := by decide +kernel
theorem dX4_envelopeAt_24 : decode cX4_envelopeAt 24 = .ok (.dup, 1) := by decide +kernel
theorem dX4_envelopeAt_25 : decode cX4_envelopeAt 25 = .ok (.ldc 234, 2) := by decide +kernel
theorem dX4_envelopeAt_27 : decode cX4_envelopeAt 27 = .ok (.invokespecial 236, 3) := by decide +kernel
theorem dX4_envelopeAt_30 : decode cX4_envelopeAt 30 = .ok (.athrow, 1) := by decide +kernel
theorem dX4_envelopeAt_31 : decode cX4_envelopeAt 31 = .ok (.aload_n 0, 1) := by decide +kernel
theorem dX4_envelopeAt_32 : decode cX4_envelopeAt 32 = .ok (.getfield 11, 3) := by decide +kernel
theorem dX4_envelopeAt_35 : decode cX4_envelopeAt 35 = .ok (.iload_n 1, 1) := by decide +kernel
theorem dX4_envelopeAt_36 : decode cX4_envelopeAt 36 = .ok (.aaload, 1) := by decide +kernel
theorem dX4_envelopeAt_37 : decode cX4_envelopeAt 37 = .ok (.astore_n 2, 1) := by decide +kernel
theorem dX4_envelopeAt_38 : decode cX4_envelopeAt 38 = .ok (.aload_n 2, 1) := by decide +kernel
theorem dX4_envelopeAt_39 : decode cX4_envelopeAt 39 = .ok (.ifnonnull 13, 3) := by decide +kernel
theorem dX4_envelopeAt_42 : decode cX4_envelopeAt 42 = .ok (.new 232, 3) := by decide +kernel
theorem dX4_envelopeAt_45 : decode cX4_envelopeAt 45 = .ok (.dup, 1) := by decide +kernel
theorem dX4_envelopeAt_46 : decode cX4_envelopeAt 46 = .ok (.ldc 234, 2) := by decide +kernel
theorem dX4_envelopeAt_48 : decode cX4_envelopeAt 48 = .ok (.invokespecial 236, 3) := by decide +kernel
theorem dX4_envelopeAt_51 : decode cX4_envelopeAt 51 = .ok (.athrow, 1) := by decide +kernel
theorem dX4_envelopeAt_52 : decode cX4_envelopeAt 52 = .ok (.aload_n 2, 1) := by decide +kernel
theorem dX4_envelopeAt_53 : decode cX4_envelopeAt 53 = .ok (.areturn, 1) := by decide +kernel
theorem dX4_standinOf_0 : decode cX4_standinOf 0 = .ok (.iload_n 1, 1) := by decide +kernel
theorem dX4_standinOf_1 : decode cX4_standinOf 1 = .ok (.ifCond .lt 12, 3) := by decide +kernel
theorem dX4_standinOf_4 : decode cX4_standinOf 4 = .ok (.iload_n 1, 1) := by decide +kernel
theorem dX4_standinOf_5 : decode cX4_standinOf 5 = .ok (.aload_n 0, 1) := by decide +kernel
theorem dX4_standinOf_6 : decode cX4_standinOf 6 = .ok (.getfield 17, 3) := by decide +kernel
theorem dX4_standinOf_9 : decode cX4_standinOf 9 = .ok (.arraylength, 1) := by decide +kernel
theorem dX4_standinOf_10 : decode cX4_standinOf 10 = .ok (.if_icmp .lt 13, 3) := by decide +kernel
theorem dX4_standinOf_13 : decode cX4_standinOf 13 = .ok (.new 232, 3) := by decide +kernel
theorem dX4_standinOf_16 : decode cX4_standinOf 16 = .ok (.dup, 1) := by decide +kernel
theorem dX4_standinOf_17 : decode cX4_standinOf 17 = .ok (.ldc 237, 2) := by decide +kernel
theorem dX4_standinOf_19 : decode cX4_standinOf 19 = .ok (.invokespecial 236, 3) := by decide +kernel
theorem dX4_standinOf_22 : decode cX4_standinOf 22 = .ok (.athrow, 1) := by decide +kernel
theorem dX4_standinOf_23 : decode cX4_standinOf 23 = .ok (.aload_n 0, 1) := by decide +kernel
theorem dX4_standinOf_24 : decode cX4_standinOf 24 = .ok (.getfield 17, 3) := by decide +kernel
theorem dX4_standinOf_27 : decode cX4_standinOf 27 = .ok (.iload_n 1, 1) := by decide +kernel
theorem dX4_standinOf_28 : decode cX4_standinOf 28 = .ok (.aaload, 1) := by decide +kernel
theorem dX4_standinOf_29 : decode cX4_standinOf 29 = .ok (.astore_n 2, 1) := by decide +kernel
theorem dX4_standinOf_30 : decode cX4_standinOf 30 = .ok (.aload_n 2, 1) := by decide +kernel
theorem dX4_standinOf_31 : decode cX4_standinOf 31 = .ok (.ifnonnull 13, 3) := by decide +kernel
theorem dX4_standinOf_34 : decode cX4_standinOf 34 = .ok (.new 232, 3) := by decide +kernel
theorem dX4_standinOf_37 : decode cX4_standinOf 37 = .ok (.dup, 1) := by decide +kernel
theorem dX4_standinOf_38 : decode cX4_standinOf 38 = .ok (.ldc 237, 2) := by decide +kernel
theorem dX4_standinOf_40 : decode cX4_standinOf 40 = .ok (.invokespecial 236, 3) := by decide +kernel
theorem dX4_standinOf_43 : decode cX4_standinOf 43 = .ok (.athrow, 1) := by decide +kernel
theorem dX4_standinOf_44 : decode cX4_standinOf 44 = .ok (.aload_n 2, 1) := by decide +kernel
theorem dX4_standinOf_45 : decode cX4_standinOf 45 = .ok (.areturn, 1) := by decide +kernel
theorem dX4_refuseNoPerson_0 : decode cX4_refuseNoPerson 0 = .ok (.iload_n 0, 1) := by decide +kernel
theorem dX4_refuseNoPerson_1 : decode cX4_refuseNoPerson 1 = .ok (.ifCond .lt 9, 3) := by decide +kernel
theorem dX4_refuseNoPerson_4 : decode cX4_refuseNoPerson 4 = .ok (.iload_n 0, 1) := by decide +kernel
theorem dX4_refuseNoPerson_5 : decode cX4_refuseNoPerson 5 = .ok (.bipush 8, 2) := by decide +kernel
theorem dX4_refuseNoPerson_7 : decode cX4_refuseNoPerson 7 = .ok (.if_icmp .lt 13, 3) := by decide +kernel
theorem dX4_refuseNoPerson_10 : decode cX4_refuseNoPerson 10 = .ok (.new 232, 3) := by decide +kernel
theorem dX4_refuseNoPerson_13 : decode cX4_refuseNoPerson 13 = .ok (.dup, 1) := by decide +kernel
theorem dX4_refuseNoPerson_14 : decode cX4_refuseNoPerson 14 = .ok (.ldc 237, 2) := by decide +kernel
theorem dX4_refuseNoPerson_16 : decode cX4_refuseNoPerson 16 = .ok (.invokespecial 236, 3) := by decide +kernel
theorem dX4_refuseNoPerson_19 : decode cX4_refuseNoPerson 19 = .ok (.athrow, 1) := by decide +kernel
theorem dX4_refuseNoPerson_20 : decode cX4_refuseNoPerson 20 = .ok (.return_, 1) := by decide +kernel
theorem dX4_refuseNoSlot_0 : decode cX4_refuseNoSlot 0 = .ok (.iload_n 1, 1) := by decide +kernel
theorem dX4_refuseNoSlot_1 : decode cX4_refuseNoSlot 1 = .ok (.ifCond .lt 11, 3) := by decide +kernel
theorem dX4_refuseNoSlot_4 : decode cX4_refuseNoSlot 4 = .ok (.iload_n 1, 1) := by decide +kernel
theorem dX4_refuseNoSlot_5 : decode cX4_refuseNoSlot 5 = .ok (.aload_n 0, 1) := by decide +kernel
theorem dX4_refuseNoSlot_6 : decode cX4_refuseNoSlot 6 = .ok (.getfield 63, 3) := by decide +kernel
theorem dX4_refuseNoSlot_9 : decode cX4_refuseNoSlot 9 = .ok (.if_icmp .lt 13, 3) := by decide +kernel
theorem dX4_refuseNoSlot_12 : decode cX4_refuseNoSlot 12 = .ok (.new 232, 3) := by decide +kernel
theorem dX4_refuseNoSlot_15 : decode cX4_refuseNoSlot 15 = .ok (.dup, 1) := by decide +kernel
theorem dX4_refuseNoSlot_16 : decode cX4_refuseNoSlot 16 = .ok (.ldc 239, 2) := by decide +kernel
theorem dX4_refuseNoSlot_18 : decode cX4_refuseNoSlot 18 = .ok (.invokespecial 236, 3) := by decide +kernel
theorem dX4_refuseNoSlot_21 : decode cX4_refuseNoSlot 21 = .ok (.athrow, 1) := by decide +kernel
theorem dX4_refuseNoSlot_22 : decode cX4_refuseNoSlot 22 = .ok (.return_, 1) := by decide +kernel
theorem dX4_refuseNoEvent_0 : decode cX4_refuseNoEvent 0 = .ok (.iload_n 1, 1) := by decide +kernel
theorem dX4_refuseNoEvent_1 : decode cX4_refuseNoEvent 1 = .ok (.ifCond .lt 11, 3) := by decide +kernel
theorem dX4_refuseNoEvent_4 : decode cX4_refuseNoEvent 4 = .ok (.iload_n 1, 1) := by decide +kernel
theorem dX4_refuseNoEvent_5 : decode cX4_refuseNoEvent 5 = .ok (.aload_n 0, 1) := by decide +kernel
theorem dX4_refuseNoEvent_6 : decode cX4_refuseNoEvent 6 = .ok (.getfield 200, 3) := by decide +kernel
theorem dX4_refuseNoEvent_9 : decode cX4_refuseNoEvent 9 = .ok (.if_icmp .lt 13, 3) := by decide +kernel
theorem dX4_refuseNoEvent_12 : decode cX4_refuseNoEvent 12 = .ok (.new 232, 3) := by decide +kernel
theorem dX4_refuseNoEvent_15 : decode cX4_refuseNoEvent 15 = .ok (.dup, 1) := by decide +kernel
theorem dX4_refuseNoEvent_16 : decode cX4_refuseNoEvent 16 = .ok (.ldc 241, 2) := by decide +kernel
theorem dX4_refuseNoEvent_18 : decode cX4_refuseNoEvent 18 = .ok (.invokespecial 236, 3) := by decide +kernel
theorem dX4_refuseNoEvent_21 : decode cX4_refuseNoEvent 21 = .ok (.athrow, 1) := by decide +kernel
theorem dX4_refuseNoEvent_22 : decode cX4_refuseNoEvent 22 = .ok (.return_, 1) := by decide +kernel
theorem dX4_refuseTooManyEvents_0 : decode cX4_refuseTooManyEvents 0 = .ok (.iload_n 1, 1) := by decide +kernel
theorem dX4_refuseTooManyEvents_1 : decode cX4_refuseTooManyEvents 1 = .ok (.ifCond .lt 11, 3) := by decide +kernel
theorem dX4_refuseTooManyEvents_4 : decode cX4_refuseTooManyEvents 4 = .ok (.iload_n 1, 1) := by decide +kernel
theorem dX4_refuseTooManyEvents_5 : decode cX4_refuseTooManyEvents 5 = .ok (.aload_n 0, 1) := by decide +kernel
theorem dX4_refuseTooManyEvents_6 : decode cX4_refuseTooManyEvents 6 = .ok (.getfield 200, 3) := by decide +kernel
theorem dX4_refuseTooManyEvents_9 : decode cX4_refuseTooManyEvents 9 = .ok (.if_icmp .le 13, 3) := by decide +kernel
theorem dX4_refuseTooManyEvents_12 : decode cX4_refuseTooManyEvents 12 = .ok (.new 232, 3) := by decide +kernel
theorem dX4_refuseTooManyEvents_15 : decode cX4_refuseTooManyEvents 15 = .ok (.dup, 1) := by decide +kernel
theorem dX4_refuseTooManyEvents_16 : decode cX4_refuseTooManyEvents 16 = .ok (.ldc 243, 2) := by decide +kernel
theorem dX4_refuseTooManyEvents_18 : decode cX4_refuseTooManyEvents 18 = .ok (.invokespecial 236, 3) := by decide +kernel
theorem dX4_refuseTooManyEvents_21 : decode cX4_refuseTooManyEvents 21 = .ok (.athrow, 1) := by decide +kernel
theorem dX4_refuseTooManyEvents_22 : decode cX4_refuseTooManyEvents 22 = .ok (.return_, 1) := by decide +kernel
theorem dX4_refuseNoDraft_0 : decode cX4_refuseNoDraft 0 = .ok (.aload_n 0, 1) := by decide +kernel
theorem dX4_refuseNoDraft_1 : decode cX4_refuseNoDraft 1 = .ok (.getfield 137, 3) := by decide +kernel
theorem dX4_refuseNoDraft_4 : decode cX4_refuseNoDraft 4 = .ok (.ifCond .eq 13, 3) := by decide +kernel
theorem dX4_refuseNoDraft_7 : decode cX4_refuseNoDraft 7 = .ok (.new 35, 3) := by decide +kernel
theorem dX4_refuseNoDraft_10 : decode cX4_refuseNoDraft 10 = .ok (.dup, 1) := by decide +kernel
theorem dX4_refuseNoDraft_11 : decode cX4_refuseNoDraft 11 = .ok (.ldc 245, 2) := by decide +kernel
theorem dX4_refuseNoDraft_13 : decode cX4_refuseNoDraft 13 = .ok (.invokespecial 39, 3) := by decide +kernel
theorem dX4_refuseNoDraft_16 : decode cX4_refuseNoDraft 16 = .ok (.athrow, 1) := by decide +kernel
theorem dX4_refuseNoDraft_17 : decode cX4_refuseNoDraft 17 = .ok (.return_, 1) := by decide +kernel
theorem dX4_reasonFor_0 : decode cX4_reasonFor 0 = .ok (.aload_n 2, 1) := by decide +kernel
theorem dX4_reasonFor_1 : decode cX4_reasonFor 1 = .ok (.getfield 137, 3) := by decide +kernel
theorem dX4_reasonFor_4 : decode cX4_reasonFor 4 = .ok (.iconst 1, 1) := by decide +kernel
theorem dX4_reasonFor_5 : decode cX4_reasonFor 5 = .ok (.if_icmp .eq 5, 3) := by decide +kernel
theorem dX4_reasonFor_8 : decode cX4_reasonFor 8 = .ok (.iconst 2, 1) := by decide +kernel
theorem dX4_reasonFor_9 : decode cX4_reasonFor 9 = .ok (.ireturn, 1) := by decide +kernel
theorem dX4_reasonFor_10 : decode cX4_reasonFor 10 = .ok (.aload_n 2, 1) := by decide +kernel
theorem dX4_reasonFor_11 : decode cX4_reasonFor 11 = .ok (.getfield 247, 3) := by decide +kernel
theorem dX4_reasonFor_14 : decode cX4_reasonFor 14 = .ok (.iload_n 3, 1) := by decide +kernel
theorem dX4_reasonFor_15 : decode cX4_reasonFor 15 = .ok (.invokestatic 82, 3) := by decide +kernel
theorem dX4_reasonFor_18 : decode cX4_reasonFor 18 = .ok (.ifCond .ne 5, 3) := by decide +kernel
theorem dX4_reasonFor_21 : decode cX4_reasonFor 21 = .ok (.iconst 3, 1) := by decide +kernel
theorem dX4_reasonFor_22 : decode cX4_reasonFor 22 = .ok (.ireturn, 1) := by decide +kernel
theorem dX4_reasonFor_23 : decode cX4_reasonFor 23 = .ok (.aload_n 2, 1) := by decide +kernel
theorem dX4_reasonFor_24 : decode cX4_reasonFor 24 = .ok (.getfield 118, 3) := by decide +kernel
theorem dX4_reasonFor_27 : decode cX4_reasonFor 27 = .ok (.iload_n 3, 1) := by decide +kernel
theorem dX4_reasonFor_28 : decode cX4_reasonFor 28 = .ok (.invokevirtual 121, 3) := by decide +kernel
theorem dX4_reasonFor_31 : decode cX4_reasonFor 31 = .ok (.istore 4, 2) := by decide +kernel
theorem dX4_reasonFor_33 : decode cX4_reasonFor 33 = .ok (.iload 4, 2) := by decide +kernel
theorem dX4_reasonFor_35 : decode cX4_reasonFor 35 = .ok (.iload_n 1, 1) := by decide +kernel
theorem dX4_reasonFor_36 : decode cX4_reasonFor 36 = .ok (.if_icmp .ne 5, 3) := by decide +kernel
theorem dX4_reasonFor_39 : decode cX4_reasonFor 39 = .ok (.iconst 0, 1) := by decide +kernel
theorem dX4_reasonFor_40 : decode cX4_reasonFor 40 = .ok (.ireturn, 1) := by decide +kernel
theorem dX4_reasonFor_41 : decode cX4_reasonFor 41 = .ok (.aload_n 0, 1) := by decide +kernel
theorem dX4_reasonFor_42 : decode cX4_reasonFor 42 = .ok (.iload 4, 2) := by decide +kernel
theorem dX4_reasonFor_44 : decode cX4_reasonFor 44 = .ok (.invokevirtual 124, 3) := by decide +kernel
theorem dX4_reasonFor_47 : decode cX4_reasonFor 47 = .ok (.astore 5, 2) := by decide +kernel
theorem dX4_reasonFor_49 : decode cX4_reasonFor 49 = .ok (.aload 5, 2) := by decide +kernel
theorem dX4_reasonFor_51 : decode cX4_reasonFor 51 = .ok (.aload_n 0, 1) := by decide +kernel
theorem dX4_reasonFor_52 : decode cX4_reasonFor 52 = .ok (.getfield 98, 3) := by decide +kernel
theorem dX4_reasonFor_55 : decode cX4_reasonFor 55 = .ok (.invokevirtual 162, 3) := by decide +kernel
theorem dX4_reasonFor_58 : decode cX4_reasonFor 58 = .ok (.iload_n 1, 1) := by decide +kernel
theorem dX4_reasonFor_59 : decode cX4_reasonFor 59 = .ok (.if_icmp .eq 5, 3) := by decide +kernel
theorem dX4_reasonFor_62 : decode cX4_reasonFor 62 = .ok (.iconst 4, 1) := by decide +kernel
theorem dX4_reasonFor_63 : decode cX4_reasonFor 63 = .ok (.ireturn, 1) := by decide +kernel
theorem dX4_reasonFor_64 : decode cX4_reasonFor 64 = .ok (.aload 5, 2) := by decide +kernel
theorem dX4_reasonFor_66 : decode cX4_reasonFor 66 = .ok (.getfield 128, 3) := by decide +kernel
theorem dX4_reasonFor_69 : decode cX4_reasonFor 69 = .ok (.aload 5, 2) := by decide +kernel
theorem dX4_reasonFor_71 : decode cX4_reasonFor 71 = .ok (.getfield 157, 3) := by decide +kernel
theorem dX4_reasonFor_74 : decode cX4_reasonFor 74 = .ok (.if_icmp .lt 7, 3) := by decide +kernel
theorem dX4_reasonFor_77 : decode cX4_reasonFor 77 = .ok (.iconst 5, 1) := by decide +kernel
theorem dX4_reasonFor_78 : decode cX4_reasonFor 78 = .ok (.goto 4, 3) := by decide +kernel
theorem dX4_reasonFor_81 : decode cX4_reasonFor 81 = .ok (.iconst 1, 1) := by decide +kernel
theorem dX4_reasonFor_82 : decode cX4_reasonFor 82 = .ok (.ireturn, 1) := by decide +kernel
theorem dX4_passOneDay_0 : decode cX4_passOneDay 0 = .ok (.aload_n 0, 1) := by decide +kernel
theorem dX4_passOneDay_1 : decode cX4_passOneDay 1 = .ok (.dup, 1) := by decide +kernel
theorem dX4_passOneDay_2 : decode cX4_passOneDay 2 = .ok (.getfield 98, 3) := by decide +kernel
theorem dX4_passOneDay_5 : decode cX4_passOneDay 5 = .ok (.iconst 1, 1) := by decide +kernel
theorem dX4_passOneDay_6 : decode cX4_passOneDay 6 = .ok (.iadd, 1) := by decide +kernel
theorem dX4_passOneDay_7 : decode cX4_passOneDay 7 = .ok (.putfield 98, 3) := by decide +kernel
theorem dX4_passOneDay_10 : decode cX4_passOneDay 10 = .ok (.iconst 0, 1) := by decide +kernel
theorem dX4_passOneDay_11 : decode cX4_passOneDay 11 = .ok (.istore_n 1, 1) := by decide +kernel
theorem dX4_passOneDay_12 : decode cX4_passOneDay 12 = .ok (.iload_n 1, 1) := by decide +kernel
theorem dX4_passOneDay_13 : decode cX4_passOneDay 13 = .ok (.bipush 8, 2) := by decide +kernel
theorem dX4_passOneDay_15 : decode cX4_passOneDay 15 = .ok (.if_icmp .ge 18, 3) := by decide +kernel
theorem dX4_passOneDay_18 : decode cX4_passOneDay 18 = .ok (.aload_n 0, 1) := by decide +kernel
theorem dX4_passOneDay_19 : decode cX4_passOneDay 19 = .ok (.iload_n 1, 1) := by decide +kernel
theorem dX4_passOneDay_20 : decode cX4_passOneDay 20 = .ok (.invokevirtual 124, 3) := by decide +kernel
theorem dX4_passOneDay_23 : decode cX4_passOneDay 23 = .ok (.iconst 0, 1) := by decide +kernel
theorem dX4_passOneDay_24 : decode cX4_passOneDay 24 = .ok (.putfield 128, 3) := by decide +kernel
theorem dX4_passOneDay_27 : decode cX4_passOneDay 27 = .ok (.iinc 1 1, 3) := by decide +kernel
theorem dX4_passOneDay_30 : decode cX4_passOneDay 30 = .ok (.goto (-18), 3) := by decide +kernel
theorem dX4_passOneDay_33 : decode cX4_passOneDay 33 = .ok (.iconst 0, 1) := by decide +kernel
theorem dX4_passOneDay_34 : decode cX4_passOneDay 34 = .ok (.istore_n 1, 1) := by decide +kernel
theorem dX4_passOneDay_35 : decode cX4_passOneDay 35 = .ok (.iconst 0, 1) := by decide +kernel
theorem dX4_passOneDay_36 : decode cX4_passOneDay 36 = .ok (.istore_n 2, 1) := by decide +kernel
theorem dX4_passOneDay_37 : decode cX4_passOneDay 37 = .ok (.iload_n 2, 1) := by decide +kernel
theorem dX4_passOneDay_38 : decode cX4_passOneDay 38 = .ok (.aload_n 0, 1) := by decide +kernel
theorem dX4_passOneDay_39 : decode cX4_passOneDay 39 = .ok (.getfield 31, 3) := by decide +kernel
theorem dX4_passOneDay_42 : decode cX4_passOneDay 42 = .ok (.if_icmp .ge 24, 3) := by decide +kernel
theorem dX4_passOneDay_45 : decode cX4_passOneDay 45 = .ok (.iload_n 1, 1) := by decide +kernel
theorem dX4_passOneDay_46 : decode cX4_passOneDay 46 = .ok (.aload_n 0, 1) := by decide +kernel
theorem dX4_passOneDay_47 : decode cX4_passOneDay 47 = .ok (.iload_n 2, 1) := by decide +kernel
theorem dX4_passOneDay_48 : decode cX4_passOneDay 48 = .ok (.invokevirtual 43, 3) := by decide +kernel
theorem dX4_passOneDay_51 : decode cX4_passOneDay 51 = .ok (.aload_n 0, 1) := by decide +kernel
theorem dX4_passOneDay_52 : decode cX4_passOneDay 52 = .ok (.getfield 98, 3) := by decide +kernel
theorem dX4_passOneDay_55 : decode cX4_passOneDay 55 = .ok (.invokevirtual 250, 3) := by decide +kernel
theorem dX4_passOneDay_58 : decode cX4_passOneDay 58 = .ok (.iadd, 1) := by decide +kernel
theorem dX4_passOneDay_59 : decode cX4_passOneDay 59 = .ok (.istore_n 1, 1) := by decide +kernel
theorem dX4_passOneDay_60 : decode cX4_passOneDay 60 = .ok (.iinc 2 1, 3) := by decide +kernel
theorem dX4_passOneDay_63 : decode cX4_passOneDay 63 = .ok (.goto (-26), 3) := by decide +kernel
theorem dX4_passOneDay_66 : decode cX4_passOneDay 66 = .ok (.iload_n 1, 1) := by decide +kernel
theorem dX4_passOneDay_67 : decode cX4_passOneDay 67 = .ok (.ireturn, 1) := by decide +kernel
theorem dX4_countByTrying_0 : decode cX4_countByTrying 0 = .ok (.iload_n 2, 1) := by decide +kernel
theorem dX4_countByTrying_1 : decode cX4_countByTrying 1 = .ok (.aload_n 0, 1) := by decide +kernel
theorem dX4_countByTrying_2 : decode cX4_countByTrying 2 = .ok (.getfield 63, 3) := by decide +kernel
theorem dX4_countByTrying_5 : decode cX4_countByTrying 5 = .ok (.if_icmp .lt 5, 3) := by decide +kernel
theorem dX4_countByTrying_8 : decode cX4_countByTrying 8 = .ok (.iconst 1, 1) := by decide +kernel
theorem dX4_countByTrying_9 : decode cX4_countByTrying 9 = .ok (.ireturn, 1) := by decide +kernel
theorem dX4_countByTrying_10 : decode cX4_countByTrying 10 = .ok (.iload_n 2, 1) := by decide +kernel
theorem dX4_countByTrying_11 : decode cX4_countByTrying 11 = .ok (.bipush 8, 2) := by decide +kernel
theorem dX4_countByTrying_13 : decode cX4_countByTrying 13 = .ok (.if_icmp .lt 5, 3) := by decide +kernel
theorem dX4_countByTrying_16 : decode cX4_countByTrying 16 = .ok (.iconst 0, 1) := by decide +kernel
theorem dX4_countByTrying_17 : decode cX4_countByTrying 17 = .ok (.ireturn, 1) := by decide +kernel
theorem dX4_countByTrying_18 : decode cX4_countByTrying 18 = .ok (.aload_n 0, 1) := by decide +kernel
theorem dX4_countByTrying_19 : decode cX4_countByTrying 19 = .ok (.iload_n 1, 1) := by decide +kernel
theorem dX4_countByTrying_20 : decode cX4_countByTrying 20 = .ok (.invokevirtual 229, 3) := by decide +kernel
theorem dX4_countByTrying_23 : decode cX4_countByTrying 23 = .ok (.istore_n 3, 1) := by decide +kernel
theorem dX4_countByTrying_24 : decode cX4_countByTrying 24 = .ok (.iconst 0, 1) := by decide +kernel
theorem dX4_countByTrying_25 : decode cX4_countByTrying 25 = .ok (.istore 4, 2) := by decide +kernel
theorem dX4_countByTrying_27 : decode cX4_countByTrying 27 = .ok (.iconst 0, 1) := by decide +kernel
theorem dX4_countByTrying_28 : decode cX4_countByTrying 28 = .ok (.istore 5, 2) := by decide +kernel
theorem dX4_countByTrying_30 : decode cX4_countByTrying 30 = .ok (.iload 5, 2) := by decide +kernel
theorem dX4_countByTrying_32 : decode cX4_countByTrying 32 = .ok (.aload_n 0, 1) := by decide +kernel
theorem dX4_countByTrying_33 : decode cX4_countByTrying 33 = .ok (.getfield 63, 3) := by decide +kernel
theorem dX4_countByTrying_36 : decode cX4_countByTrying 36 = .ok (.if_icmp .ge 36, 3) := by decide +kernel
theorem dX4_countByTrying_39 : decode cX4_countByTrying 39 = .ok (.iload_n 3, 1) := by decide +kernel
theorem dX4_countByTrying_40 : decode cX4_countByTrying 40 = .ok (.iload 5, 2) := by decide +kernel
theorem dX4_countByTrying_42 : decode cX4_countByTrying 42 = .ok (.invokestatic 82, 3) := by decide +kernel
theorem dX4_countByTrying_45 : decode cX4_countByTrying 45 = .ok (.ifCond .eq 21, 3) := by decide +kernel
theorem dX4_countByTrying_48 : decode cX4_countByTrying 48 = .ok (.iload 4, 2) := by decide +kernel
theorem dX4_countByTrying_50 : decode cX4_countByTrying 50 = .ok (.aload_n 0, 1) := by decide +kernel
theorem dX4_countByTrying_51 : decode cX4_countByTrying 51 = .ok (.iload_n 1, 1) := by decide +kernel
theorem dX4_countByTrying_52 : decode cX4_countByTrying 52 = .ok (.iconst 1, 1) := by decide +kernel
theorem dX4_countByTrying_53 : decode cX4_countByTrying 53 = .ok (.iload 5, 2) := by decide +kernel
theorem dX4_countByTrying_55 : decode cX4_countByTrying 55 = .ok (.ishl, 1) := by decide +kernel
theorem dX4_countByTrying_56 : decode cX4_countByTrying 56 = .ok (.ior, 1) := by decide +kernel
theorem dX4_countByTrying_57 : decode cX4_countByTrying 57 = .ok (.iload_n 2, 1) := by decide +kernel
theorem dX4_countByTrying_58 : decode cX4_countByTrying 58 = .ok (.iconst 1, 1) := by decide +kernel
theorem dX4_countByTrying_59 : decode cX4_countByTrying 59 = .ok (.iadd, 1) := by decide +kernel
theorem dX4_countByTrying_60 : decode cX4_countByTrying 60 = .ok (.invokestatic 192, 3) := by decide +kernel
theorem dX4_countByTrying_63 : decode cX4_countByTrying 63 = .ok (.iadd, 1) := by decide +kernel
theorem dX4_countByTrying_64 : decode cX4_countByTrying 64 = .ok (.istore 4, 2) := by decide +kernel
theorem dX4_countByTrying_66 : decode cX4_countByTrying 66 = .ok (.iinc 5 1, 3) := by decide +kernel
theorem dX4_countByTrying_69 : decode cX4_countByTrying 69 = .ok (.goto (-39), 3) := by decide +kernel
theorem dX4_countByTrying_72 : decode cX4_countByTrying 72 = .ok (.iload 4, 2) := by decide +kernel
theorem dX4_countByTrying_74 : decode cX4_countByTrying 74 = .ok (.ireturn, 1) := by decide +kernel
theorem dX4_has_0 : decode cX4_has 0 = .ok (.iload_n 0, 1) := by decide +kernel
theorem dX4_has_1 : decode cX4_has 1 = .ok (.iload_n 1, 1) := by decide +kernel
theorem dX4_has_2 : decode cX4_has 2 = .ok (.ishr, 1) := by decide +kernel
theorem dX4_has_3 : decode cX4_has 3 = .ok (.iconst 1, 1) := by decide +kernel
theorem dX4_has_4 : decode cX4_has 4 = .ok (.iand, 1) := by decide +kernel
theorem dX4_has_5 : decode cX4_has 5 = .ok (.ifCond .eq 7, 3) := by decide +kernel
theorem dX4_has_8 : decode cX4_has 8 = .ok (.iconst 1, 1) := by decide +kernel
theorem dX4_has_9 : decode cX4_has 9 = .ok (.goto 4, 3) := by decide +kernel
theorem dX4_has_12 : decode cX4_has 12 = .ok (.iconst 0, 1) := by decide +kernel
theorem dX4_has_13 : decode cX4_has 13 = .ok (.ireturn, 1) := by decide +kernel
theorem dJ6_bitCount_0f7a4_0 : decode cJ6_bitCount_0f7a4 0 = .ok (.iload_n 0, 1) := by decide +kernel
theorem dJ6_bitCount_0f7a4_1 : decode cJ6_bitCount_0f7a4 1 = .ok (.iload_n 0, 1) := by decide +kernel
theorem dJ6_bitCount_0f7a4_2 : decode cJ6_bitCount_0f7a4 2 = .ok (.iconst 1, 1) := by decide +kernel
theorem dJ6_bitCount_0f7a4_3 : decode cJ6_bitCount_0f7a4 3 = .ok (.iushr, 1) := by decide +kernel
theorem dJ6_bitCount_0f7a4_4 : decode cJ6_bitCount_0f7a4 4 = .ok (.ldc_w 265, 3) := by decide +kernel
theorem dJ6_bitCount_0f7a4_7 : decode cJ6_bitCount_0f7a4 7 = .ok (.iand, 1) := by decide +kernel
theorem dJ6_bitCount_0f7a4_8 : decode cJ6_bitCount_0f7a4 8 = .ok (.isub, 1) := by decide +kernel
theorem dJ6_bitCount_0f7a4_9 : decode cJ6_bitCount_0f7a4 9 = .ok (.istore_n 0, 1) := by decide +kernel
theorem dJ6_bitCount_0f7a4_10 : decode cJ6_bitCount_0f7a4 10 = .ok (.iload_n 0, 1) := by decide +kernel
theorem dJ6_bitCount_0f7a4_11 : decode cJ6_bitCount_0f7a4 11 = .ok (.ldc_w 266, 3) := by decide +kernel
theorem dJ6_bitCount_0f7a4_14 : decode cJ6_bitCount_0f7a4 14 = .ok (.iand, 1) := by decide +kernel
theorem dJ6_bitCount_0f7a4_15 : decode cJ6_bitCount_0f7a4 15 = .ok (.iload_n 0, 1) := by decide +kernel
theorem dJ6_bitCount_0f7a4_16 : decode cJ6_bitCount_0f7a4 16 = .ok (.iconst 2, 1) := by decide +kernel
theorem dJ6_bitCount_0f7a4_17 : decode cJ6_bitCount_0f7a4 17 = .ok (.iushr, 1) := by decide +kernel
theorem dJ6_bitCount_0f7a4_18 : decode cJ6_bitCount_0f7a4 18 = .ok (.ldc_w 266, 3) := by decide +kernel
theorem dJ6_bitCount_0f7a4_21 : decode cJ6_bitCount_0f7a4 21 = .ok (.iand, 1) := by decide +kernel
theorem dJ6_bitCount_0f7a4_22 : decode cJ6_bitCount_0f7a4 22 = .ok (.iadd, 1) := by decide +kernel
theorem dJ6_bitCount_0f7a4_23 : decode cJ6_bitCount_0f7a4 23 = .ok (.istore_n 0, 1) := by decide +kernel
theorem dJ6_bitCount_0f7a4_24 : decode cJ6_bitCount_0f7a4 24 = .ok (.iload_n 0, 1) := by decide +kernel
theorem dJ6_bitCount_0f7a4_25 : decode cJ6_bitCount_0f7a4 25 = .ok (.iload_n 0, 1) := by decide +kernel
theorem dJ6_bitCount_0f7a4_26 : decode cJ6_bitCount_0f7a4 26 = .ok (.iconst 4, 1) := by decide +kernel
theorem dJ6_bitCount_0f7a4_27 : decode cJ6_bitCount_0f7a4 27 = .ok (.iushr, 1) := by decide +kernel
theorem dJ6_bitCount_0f7a4_28 : decode cJ6_bitCount_0f7a4 28 = .ok (.iadd, 1) := by decide +kernel
theorem dJ6_bitCount_0f7a4_29 : decode cJ6_bitCount_0f7a4 29 = .ok (.ldc_w 267, 3) := by decide +kernel
theorem dJ6_bitCount_0f7a4_32 : decode cJ6_bitCount_0f7a4 32 = .ok (.iand, 1) := by decide +kernel
theorem dJ6_bitCount_0f7a4_33 : decode cJ6_bitCount_0f7a4 33 = .ok (.istore_n 0, 1) := by decide +kernel
theorem dJ6_bitCount_0f7a4_34 : decode cJ6_bitCount_0f7a4 34 = .ok (.iload_n 0, 1) := by decide +kernel
theorem dJ6_bitCount_0f7a4_35 : decode cJ6_bitCount_0f7a4 35 = .ok (.iload_n 0, 1) := by decide +kernel
theorem dJ6_bitCount_0f7a4_36 : decode cJ6_bitCount_0f7a4 36 = .ok (.bipush 8, 2) := by decide +kernel
theorem dJ6_bitCount_0f7a4_38 : decode cJ6_bitCount_0f7a4 38 = .ok (.iushr, 1) := by decide +kernel
theorem dJ6_bitCount_0f7a4_39 : decode cJ6_bitCount_0f7a4 39 = .ok (.iadd, 1) := by decide +kernel
theorem dJ6_bitCount_0f7a4_40 : decode cJ6_bitCount_0f7a4 40 = .ok (.istore_n 0, 1) := by decide +kernel
theorem dJ6_bitCount_0f7a4_41 : decode cJ6_bitCount_0f7a4 41 = .ok (.iload_n 0, 1) := by decide +kernel
theorem dJ6_bitCount_0f7a4_42 : decode cJ6_bitCount_0f7a4 42 = .ok (.iload_n 0, 1) := by decide +kernel
theorem dJ6_bitCount_0f7a4_43 : decode cJ6_bitCount_0f7a4 43 = .ok (.bipush 16, 2) := by decide +kernel
theorem dJ6_bitCount_0f7a4_45 : decode cJ6_bitCount_0f7a4 45 = .ok (.iushr, 1) := by decide +kernel
theorem dJ6_bitCount_0f7a4_46 : decode cJ6_bitCount_0f7a4 46 = .ok (.iadd, 1) := by decide +kernel
theorem dJ6_bitCount_0f7a4_47 : decode cJ6_bitCount_0f7a4 47 = .ok (.istore_n 0, 1) := by decide +kernel
theorem dJ6_bitCount_0f7a4_48 : decode cJ6_bitCount_0f7a4 48 = .ok (.iload_n 0, 1) := by decide +kernel
theorem dJ6_bitCount_0f7a4_49 : decode cJ6_bitCount_0f7a4 49 = .ok (.bipush 63, 2) := by decide +kernel
theorem dJ6_bitCount_0f7a4_51 : decode cJ6_bitCount_0f7a4 51 = .ok (.iand, 1) := by decide +kernel
theorem dJ6_bitCount_0f7a4_52 : decode cJ6_bitCount_0f7a4 52 = .ok (.ireturn, 1) := by decide +kernel
theorem dJ9_max_7cf53_0 : decode cJ9_max_7cf53 0 = .ok (.iload_n 0, 1) := by decide +kernel
theorem dJ9_max_7cf53_1 : decode cJ9_max_7cf53 1 = .ok (.iload_n 1, 1) := by decide +kernel
theorem dJ9_max_7cf53_2 : decode cJ9_max_7cf53 2 = .ok (.if_icmp .lt 7, 3) := by decide +kernel
theorem dJ9_max_7cf53_5 : decode cJ9_max_7cf53 5 = .ok (.iload_n 0, 1) := by decide +kernel
theorem dJ9_max_7cf53_6 : decode cJ9_max_7cf53 6 = .ok (.goto 4, 3) := by decide +kernel
theorem dJ9_max_7cf53_9 : decode cJ9_max_7cf53 9 = .ok (.iload_n 1, 1) := by decide +kernel
theorem dJ9_max_7cf53_10 : decode cJ9_max_7cf53 10 = .ok (.ireturn, 1) := by decide +kernel
theorem dJ9_min_7cf53_0 : decode cJ9_min_7cf53 0 = .ok (.iload_n 0, 1) := by decide +kernel
theorem dJ9_min_7cf53_1 : decode cJ9_min_7cf53 1 = .ok (.iload_n 1, 1) := by decide +kernel
theorem dJ9_min_7cf53_2 : decode cJ9_min_7cf53 2 = .ok (.if_icmp .gt 7, 3) := by decide +kernel
theorem dJ9_min_7cf53_5 : decode cJ9_min_7cf53 5 = .ok (.iload_n 0, 1) := by decide +kernel
theorem dJ9_min_7cf53_6 : decode cJ9_min_7cf53 6 = .ok (.goto 4, 3) := by decide +kernel
theorem dJ9_min_7cf53_9 : decode cJ9_min_7cf53 9 = .ok (.iload_n 1, 1) := by decide +kernel
theorem dJ9_min_7cf53_10 : decode cJ9_min_7cf53 10 = .ok (.ireturn, 1) := by decide +kernel
end
section
theorem dX5_init_0 : decode cX5_init 0 = .ok (.aload_n 0, 1) := by decide +kernel
theorem dX5_init_1 : decode cX5_init 1 = .ok (.invokespecial 1, 3) := by decide +kernel
theorem dX5_init_4 : decode cX5_init 4 = .ok (.aload_n 0, 1) := by decide +kernel
theorem dX5_init_5 : decode cX5_init 5 = .ok (.bipush 6, 2) := by decide +kernel
theorem dX5_init_7 : decode cX5_init 7 = .ok (.newarray .int, 2) := by decide +kernel
theorem dX5_init_9 : decode cX5_init 9 = .ok (.putfield 7, 3) := by decide +kernel
theorem dX5_init_12 : decode cX5_init 12 = .ok (.aload_n 0, 1) := by decide +kernel
theorem dX5_init_13 : decode cX5_init 13 = .ok (.bipush 6, 2) := by decide +kernel
theorem dX5_init_15 : decode cX5_init 15 = .ok (.newarray .int, 2) := by decide +kernel
theorem dX5_init_17 : decode cX5_init 17 = .ok (.putfield 13, 3) := by decide +kernel
theorem dX5_init_20 : decode cX5_init 20 = .ok (.aload_n 0, 1) := by decide +kernel
theorem dX5_init_21 : decode cX5_init 21 = .ok (.bipush 6, 2) := by decide +kernel
theorem dX5_init_23 : decode cX5_init 23 = .ok (.newarray .int, 2) := by decide +kernel
theorem dX5_init_25 : decode cX5_init 25 = .ok (.putfield 16, 3) := by decide +kernel
theorem dX5_init_28 : decode cX5_init 28 = .ok (.aload_n 0, 1) := by decide +kernel
theorem dX5_init_29 : decode cX5_init 29 = .ok (.bipush 6, 2) := by decide +kernel
theorem dX5_init_31 : decode cX5_init 31 = .ok (.newarray .int, 2) := by decide +kernel
theorem dX5_init_33 : decode cX5_init 33 = .ok (.putfield 19, 3) := by decide +kernel
theorem dX5_init_36 : decode cX5_init 36 = .ok (.aload_n 0, 1) := by decide +kernel
theorem dX5_init_37 : decode cX5_init 37 = .ok (.bipush 48, 2) := by decide +kernel
theorem dX5_init_39 : decode cX5_init 39 = .ok (.newarray .int, 2) := by decide +kernel
theorem dX5_init_41 : decode cX5_init 41 = .ok (.putfield 22, 3) := by decide +kernel
theorem dX5_init_44 : decode cX5_init 44 = .ok (.aload_n 0, 1) := by decide +kernel
theorem dX5_init_45 : decode cX5_init 45 = .ok (.bipush 48, 2) := by decide +kernel
theorem dX5_init_47 : decode cX5_init 47 = .ok (.newarray .int, 2) := by decide +kernel
theorem dX5_init_49 : decode cX5_init 49 = .ok (.putfield 25, 3) := by decide +kernel
theorem dX5_init_52 : decode cX5_init 52 = .ok (.aload_n 0, 1) := by decide +kernel
theorem dX5_init_53 : decode cX5_init 53 = .ok (.sipush 300, 3) := by decide +kernel
theorem dX5_init_56 : decode cX5_init 56 = .ok (.newarray .int, 2) := by decide +kernel
theorem dX5_init_58 : decode cX5_init 58 = .ok (.putfield 28, 3) := by decide +kernel
theorem dX5_init_61 : decode cX5_init 61 = .ok (.aload_n 0, 1) := by decide +kernel
theorem dX5_init_62 : decode cX5_init 62 = .ok (.sipush 300, 3) := by decide +kernel
theorem dX5_init_65 : decode cX5_init 65 = .ok (.newarray .int, 2) := by decide +kernel
theorem dX5_init_67 : decode cX5_init 67 = .ok (.putfield 31, 3) := by decide +kernel
theorem dX5_init_70 : decode cX5_init 70 = .ok (.aload_n 0, 1) := by decide +kernel
theorem dX5_init_71 : decode cX5_init 71 = .ok (.sipush 300, 3) := by decide +kernel
theorem dX5_init_74 : decode cX5_init 74 = .ok (.newarray .int, 2) := by decide +kernel
theorem dX5_init_76 : decode cX5_init 76 = .ok (.putfield 34, 3) := by decide +kernel
theorem dX5_init_79 : decode cX5_init 79 = .ok (.aload_n 0, 1) := by decide +kernel
theorem dX5_init_80 : decode cX5_init 80 = .ok (.sipush 300, 3) := by decide +kernel
theorem dX5_init_83 : decode cX5_init 83 = .ok (.newarray .int, 2) := by decide +kernel
theorem dX5_init_85 : decode cX5_init 85 = .ok (.putfield 37, 3) := by decide +kernel
theorem dX5_init_88 : decode cX5_init 88 = .ok (.aload_n 0, 1) := by decide +kernel
theorem dX5_init_89 : decode cX5_init 89 = .ok (.bipush 8, 2) := by decide +kernel
theorem dX5_init_91 : decode cX5_init 91 = .ok (.newarray .int, 2) := by decide +kernel
theorem dX5_init_93 : decode cX5_init 93 = .ok (.putfield 40, 3) := by decide +kernel
theorem dX5_init_96 : decode cX5_init 96 = .ok (.aload_n 0, 1) := by decide +kernel
theorem dX5_init_97 : decode cX5_init 97 = .ok (.bipush 8, 2) := by decide +kernel
theorem dX5_init_99 : decode cX5_init 99 = .ok (.newarray .int, 2) := by decide +kernel
theorem dX5_init_101 : decode cX5_init 101 = .ok (.putfield 43, 3) := by decide +kernel
theorem dX5_init_104 : decode cX5_init 104 = .ok (.aload_n 0, 1) := by decide +kernel
theorem dX5_init_105 : decode cX5_init 105 = .ok (.bipush 8, 2) := by decide +kernel
theorem dX5_init_107 : decode cX5_init 107 = .ok (.newarray .int, 2) := by decide +kernel
theorem dX5_init_109 : decode cX5_init 109 = .ok (.putfield 46, 3) := by decide +kernel
theorem dX5_init_112 : decode cX5_init 112 = .ok (.aload_n 0, 1) := by decide +kernel
theorem dX5_init_113 : decode cX5_init 113 = .ok (.bipush 8, 2) := by decide +kernel
theorem dX5_init_115 : decode cX5_init 115 = .ok (.newarray .int, 2) := by decide +kernel
theorem dX5_init_117 : decode cX5_init 117 = .ok (.putfield 49, 3) := by decide +kernel
theorem dX5_init_120 : decode cX5_init 120 = .ok (.aload_n 0, 1) := by decide +kernel
theorem dX5_init_121 : decode cX5_init 121 = .ok (.bipush 8, 2) := by decide +kernel
theorem dX5_init_123 : decode cX5_init 123 = .ok (.newarray .int, 2) := by decide +kernel
theorem dX5_init_125 : decode cX5_init 125 = .ok (.putfield 52, 3) := by decide +kernel
theorem dX5_init_128 : decode cX5_init 128 = .ok (.aload_n 0, 1) := by decide +kernel
theorem dX5_init_129 : decode cX5_init 129 = .ok (.bipush 8, 2) := by decide +kernel
theorem dX5_init_131 : decode cX5_init 131 = .ok (.newarray .int, 2) := by decide +kernel
theorem dX5_init_133 : decode cX5_init 133 = .ok (.putfield 55, 3) := by decide +kernel
theorem dX5_init_136 : decode cX5_init 136 = .ok (.aload_n 0, 1) := by decide +kernel
theorem dX5_init_137 : decode cX5_init 137 = .ok (.bipush 8, 2) := by decide +kernel
theorem dX5_init_139 : decode cX5_init 139 = .ok (.newarray .int, 2) := by decide +kernel
theorem dX5_init_141 : decode cX5_init 141 = .ok (.putfield 58, 3) := by decide +kernel
theorem dX5_init_144 : decode cX5_init 144 = .ok (.aload_n 0, 1) := by decide +kernel
theorem dX5_init_145 : decode cX5_init 145 = .ok (.bipush 8, 2) := by decide +kernel
theorem dX5_init_147 : decode cX5_init 147 = .ok (.newarray .int, 2) := by decide +kernel
theorem dX5_init_149 : decode cX5_init 149 = .ok (.putfield 61, 3) := by decide +kernel
theorem dX5_init_152 : decode cX5_init 152 = .ok (.aload_n 0, 1) := by decide +kernel
theorem dX5_init_153 : decode cX5_init 153 = .ok (.sipush 256, 3) := by decide +kernel
theorem dX5_init_156 : decode cX5_init 156 = .ok (.newarray .int, 2) := by decide +kernel
theorem dX5_init_158 : decode cX5_init 158 = .ok (.putfield 64, 3) := by decide +kernel
theorem dX5_init_161 : decode cX5_init 161 = .ok (.iconst 0, 1) := by decide +kernel
theorem dX5_init_162 : decode cX5_init 162 = .ok (.istore_n 1, 1) := by decide +kernel
theorem dX5_init_163 : decode cX5_init 163 = .ok (.iload_n 1, 1) := by decide +kernel
theorem dX5_init_164 : decode cX5_init 164 = .ok (.bipush 8, 2) := by decide +kernel
theorem dX5_init_166 : decode cX5_init 166 = .ok (.if_icmp .ge 16, 3) := by decide +kernel
theorem dX5_init_169 : decode cX5_init 169 = .ok (.aload_n 0, 1) := by decide +kernel
theorem dX5_init_170 : decode cX5_init 170 = .ok (.getfield 40, 3) := by decide +kernel
theorem dX5_init_173 : decode cX5_init 173 = .ok (.iload_n 1, 1) := by decide +kernel
theorem dX5_init_174 : decode cX5_init 174 = .ok (.iconst (-1), 1) := by decide +kernel
theorem dX5_init_175 : decode cX5_init 175 = .ok (.iastore, 1) := by decide +kernel
theorem dX5_init_176 : decode cX5_init 176 = .ok (.iinc 1 1, 3) := by decide +kernel
theorem dX5_init_179 : decode cX5_init 179 = .ok (.goto (-16), 3) := by decide +kernel
theorem dX5_init_182 : decode cX5_init 182 = .ok (.return_, 1) := by decide +kernel
theorem dX5_thrown_0 : decode cX5_thrown 0 = .ok (.aload_n 0, 1) := by decide +kernel
theorem dX5_thrown_1 : decode cX5_thrown 1 = .ok (.getfield 67, 3) := by decide +kernel
theorem dX5_thrown_4 : decode cX5_thrown 4 = .ok (.ireturn, 1) := by decide +kernel
theorem dX5_in_0 : decode cX5_in 0 = .ok (.iload_n 0, 1) := by decide +kernel
theorem dX5_in_1 : decode cX5_in 1 = .ok (.iload_n 1, 1) := by decide +kernel
theorem dX5_in_2 : decode cX5_in 2 = .ok (.if_icmp .lt 12, 3) := by decide +kernel
theorem dX5_in_5 : decode cX5_in 5 = .ok (.iload_n 0, 1) := by decide +kernel
theorem dX5_in_6 : decode cX5_in 6 = .ok (.iload_n 2, 1) := by decide +kernel
theorem dX5_in_7 : decode cX5_in 7 = .ok (.if_icmp .gt 7, 3) := by decide +kernel
theorem dX5_in_10 : decode cX5_in 10 = .ok (.iconst 1, 1) := by decide +kernel
theorem dX5_in_11 : decode cX5_in 11 = .ok (.goto 4, 3) := by decide +kernel
theorem dX5_in_14 : decode cX5_in 14 = .ok (.iconst 0, 1) := by decide +kernel
theorem dX5_in_15 : decode cX5_in 15 = .ok (.ireturn, 1) := by decide +kernel
theorem dX5_goes_0 : decode cX5_goes 0 = .ok (.aload_n 0, 1) := by decide +kernel
theorem dX5_goes_1 : decode cX5_goes 1 = .ok (.iload_n 1, 1) := by decide +kernel
theorem dX5_goes_2 : decode cX5_goes 2 = .ok (.ifCond .ne 7, 3) := by decide +kernel
theorem dX5_goes_5 : decode cX5_goes 5 = .ok (.iconst 1, 1) := by decide +kernel
theorem dX5_goes_6 : decode cX5_goes 6 = .ok (.goto 20, 3) := by decide +kernel
theorem dX5_goes_9 : decode cX5_goes 9 = .ok (.iload_n 2, 1) := by decide +kernel
theorem dX5_goes_10 : decode cX5_goes 10 = .ok (.ifCond .ne 7, 3) := by decide +kernel
theorem dX5_goes_13 : decode cX5_goes 13 = .ok (.iconst 2, 1) := by decide +kernel
theorem dX5_goes_14 : decode cX5_goes 14 = .ok (.goto 12, 3) := by decide +kernel
theorem dX5_goes_17 : decode cX5_goes 17 = .ok (.iload_n 3, 1) := by decide +kernel
theorem dX5_goes_18 : decode cX5_goes 18 = .ok (.ifCond .ne 7, 3) := by decide +kernel
theorem dX5_goes_21 : decode cX5_goes 21 = .ok (.iconst 3, 1) := by decide +kernel
theorem dX5_goes_22 : decode cX5_goes 22 = .ok (.goto 4, 3) := by decide +kernel
theorem dX5_goes_25 : decode cX5_goes 25 = .ok (.iconst 0, 1) := by decide +kernel
theorem dX5_goes_26 : decode cX5_goes 26 = .ok (.putfield 67, 3) := by decide +kernel
theorem dX5_goes_29 : decode cX5_goes 29 = .ok (.aload_n 0, 1) := by decide +kernel
theorem dX5_goes_30 : decode cX5_goes 30 = .ok (.getfield 67, 3) := by decide +kernel
theorem dX5_goes_33 : decode cX5_goes 33 = .ok (.ifCond .ne 7, 3) := by decide +kernel
theorem dX5_goes_36 : decode cX5_goes 36 = .ok (.iconst 1, 1) := by decide +kernel
theorem dX5_goes_37 : decode cX5_goes 37 = .ok (.goto 4, 3) := by decide +kernel
theorem dX5_goes_40 : decode cX5_goes 40 = .ok (.iconst 0, 1) := by decide +kernel
theorem dX5_goes_41 : decode cX5_goes 41 = .ok (.ireturn, 1) := by decide +kernel
theorem dX5_told_0 : decode cX5_told 0 = .ok (.aload_n 0, 1) := by decide +kernel
theorem dX5_told_1 : decode cX5_told 1 = .ok (.iconst 0, 1) := by decide +kernel
theorem dX5_told_2 : decode cX5_told 2 = .ok (.putfield 67, 3) := by decide +kernel
theorem dX5_told_5 : decode cX5_told 5 = .ok (.iload_n 1, 1) := by decide +kernel
theorem dX5_told_6 : decode cX5_told 6 = .ok (.ireturn, 1) := by decide +kernel
theorem dX5_isPerson_0 : decode cX5_isPerson 0 = .ok (.iload_n 0, 1) := by decide +kernel
theorem dX5_isPerson_1 : decode cX5_isPerson 1 = .ok (.iconst 0, 1) := by decide +kernel
theorem dX5_isPerson_2 : decode cX5_isPerson 2 = .ok (.bipush 7, 2) := by decide +kernel
theorem dX5_isPerson_4 : decode cX5_isPerson 4 = .ok (.invokestatic 71, 3) := by decide +kernel
theorem dX5_isPerson_7 : decode cX5_isPerson 7 = .ok (.ireturn, 1) := by decide +kernel
theorem dX5_isEnvelope_0 : decode cX5_isEnvelope 0 = .ok (.iload_n 1, 1) := by decide +kernel
theorem dX5_isEnvelope_1 : decode cX5_isEnvelope 1 = .ok (.iconst 0, 1) := by decide +kernel
theorem dX5_isEnvelope_2 : decode cX5_isEnvelope 2 = .ok (.aload_n 0, 1) := by decide +kernel
theorem dX5_isEnvelope_3 : decode cX5_isEnvelope 3 = .ok (.getfield 75, 3) := by decide +kernel
theorem dX5_isEnvelope_6 : decode cX5_isEnvelope 6 = .ok (.iconst 1, 1) := by decide +kernel
theorem dX5_isEnvelope_7 : decode cX5_isEnvelope 7 = .ok (.isub, 1) := by decide +kernel
theorem dX5_isEnvelope_8 : decode cX5_isEnvelope 8 = .ok (.invokestatic 71, 3) := by decide +kernel
theorem dX5_isEnvelope_11 : decode cX5_isEnvelope 11 = .ok (.ireturn, 1) := by decide +kernel
theorem dX5_isSlot_0 : decode cX5_isSlot 0 = .ok (.aload_n 0, 1) := by decide +kernel
theorem dX5_isSlot_1 : decode cX5_isSlot 1 = .ok (.iload_n 1, 1) := by decide +kernel
theorem dX5_isSlot_2 : decode cX5_isSlot 2 = .ok (.invokevirtual 78, 3) := by decide +kernel
theorem dX5_isSlot_5 : decode cX5_isSlot 5 = .ok (.ifCond .eq 23, 3) := by decide +kernel
theorem dX5_isSlot_8 : decode cX5_isSlot 8 = .ok (.iload_n 2, 1) := by decide +kernel
theorem dX5_isSlot_9 : decode cX5_isSlot 9 = .ok (.iconst 0, 1) := by decide +kernel
theorem dX5_isSlot_10 : decode cX5_isSlot 10 = .ok (.aload_n 0, 1) := by decide +kernel
theorem dX5_isSlot_11 : decode cX5_isSlot 11 = .ok (.getfield 7, 3) := by decide +kernel
theorem dX5_isSlot_14 : decode cX5_isSlot 14 = .ok (.iload_n 1, 1) := by decide +kernel
theorem dX5_isSlot_15 : decode cX5_isSlot 15 = .ok (.iaload, 1) := by decide +kernel
theorem dX5_isSlot_16 : decode cX5_isSlot 16 = .ok (.iconst 1, 1) := by decide +kernel
theorem dX5_isSlot_17 : decode cX5_isSlot 17 = .ok (.isub, 1) := by decide +kernel
theorem dX5_isSlot_18 : decode cX5_isSlot 18 = .ok (.invokestatic 71, 3) := by decide +kernel
theorem dX5_isSlot_21 : decode cX5_isSlot 21 = .ok (.ifCond .eq 7, 3) := by decide +kernel
theorem dX5_isSlot_24 : decode cX5_isSlot 24 = .ok (.iconst 1, 1) := by decide +kernel
theorem dX5_isSlot_25 : decode cX5_isSlot 25 = .ok (.goto 4, 3) := by decide +kernel
theorem dX5_isSlot_28 : decode cX5_isSlot 28 = .ok (.iconst 0, 1) := by decide +kernel
theorem dX5_isSlot_29 : decode cX5_isSlot 29 = .ok (.ireturn, 1) := by decide +kernel
theorem dX5_isEvent_0 : decode cX5_isEvent 0 = .ok (.aload_n 0, 1) := by decide +kernel
theorem dX5_isEvent_1 : decode cX5_isEvent 1 = .ok (.iload_n 1, 1) := by decide +kernel
theorem dX5_isEvent_2 : decode cX5_isEvent 2 = .ok (.invokevirtual 78, 3) := by decide +kernel
theorem dX5_isEvent_5 : decode cX5_isEvent 5 = .ok (.ifCond .eq 23, 3) := by decide +kernel
theorem dX5_isEvent_8 : decode cX5_isEvent 8 = .ok (.iload_n 2, 1) := by decide +kernel
theorem dX5_isEvent_9 : decode cX5_isEvent 9 = .ok (.iconst 0, 1) := by decide +kernel
theorem dX5_isEvent_10 : decode cX5_isEvent 10 = .ok (.aload_n 0, 1) := by decide +kernel
theorem dX5_isEvent_11 : decode cX5_isEvent 11 = .ok (.getfield 19, 3) := by decide +kernel
theorem dX5_isEvent_14 : decode cX5_isEvent 14 = .ok (.iload_n 1, 1) := by decide +kernel
theorem dX5_isEvent_15 : decode cX5_isEvent 15 = .ok (.iaload, 1) := by decide +kernel
theorem dX5_isEvent_16 : decode cX5_isEvent 16 = .ok (.iconst 1, 1) := by decide +kernel
theorem dX5_isEvent_17 : decode cX5_isEvent 17 = .ok (.isub, 1) := by decide +kernel
theorem dX5_isEvent_18 : decode cX5_isEvent 18 = .ok (.invokestatic 71, 3) := by decide +kernel
theorem dX5_isEvent_21 : decode cX5_isEvent 21 = .ok (.ifCond .eq 7, 3) := by decide +kernel
theorem dX5_isEvent_24 : decode cX5_isEvent 24 = .ok (.iconst 1, 1) := by decide +kernel
theorem dX5_isEvent_25 : decode cX5_isEvent 25 = .ok (.goto 4, 3) := by decide +kernel
theorem dX5_isEvent_28 : decode cX5_isEvent 28 = .ok (.iconst 0, 1) := by decide +kernel
theorem dX5_isEvent_29 : decode cX5_isEvent 29 = .ok (.ireturn, 1) := by decide +kernel
theorem dX5_areEvents_0 : decode cX5_areEvents 0 = .ok (.aload_n 0, 1) := by decide +kernel
theorem dX5_areEvents_1 : decode cX5_areEvents 1 = .ok (.iload_n 1, 1) := by decide +kernel
theorem dX5_areEvents_2 : decode cX5_areEvents 2 = .ok (.invokevirtual 78, 3) := by decide +kernel
theorem dX5_areEvents_5 : decode cX5_areEvents 5 = .ok (.ifCond .eq 21, 3) := by decide +kernel
theorem dX5_areEvents_8 : decode cX5_areEvents 8 = .ok (.iload_n 2, 1) := by decide +kernel
theorem dX5_areEvents_9 : decode cX5_areEvents 9 = .ok (.iconst 0, 1) := by decide +kernel
theorem dX5_areEvents_10 : decode cX5_areEvents 10 = .ok (.aload_n 0, 1) := by decide +kernel
theorem dX5_areEvents_11 : decode cX5_areEvents 11 = .ok (.getfield 19, 3) := by decide +kernel
theorem dX5_areEvents_14 : decode cX5_areEvents 14 = .ok (.iload_n 1, 1) := by decide +kernel
theorem dX5_areEvents_15 : decode cX5_areEvents 15 = .ok (.iaload, 1) := by decide +kernel
theorem dX5_areEvents_16 : decode cX5_areEvents 16 = .ok (.invokestatic 71, 3) := by decide +kernel
theorem dX5_areEvents_19 : decode cX5_areEvents 19 = .ok (.ifCond .eq 7, 3) := by decide +kernel
theorem dX5_areEvents_22 : decode cX5_areEvents 22 = .ok (.iconst 1, 1) := by decide +kernel
theorem dX5_areEvents_23 : decode cX5_areEvents 23 = .ok (.goto 4, 3) := by decide +kernel
theorem dX5_areEvents_26 : decode cX5_areEvents 26 = .ok (.iconst 0, 1) := by decide +kernel
theorem dX5_areEvents_27 : decode cX5_areEvents 27 = .ok (.ireturn, 1) := by decide +kernel
theorem dX5_has_0 : decode cX5_has 0 = .ok (.iload_n 0, 1) := by decide +kernel
theorem dX5_has_1 : decode cX5_has 1 = .ok (.iload_n 1, 1) := by decide +kernel
theorem dX5_has_2 : decode cX5_has 2 = .ok (.ishr, 1) := by decide +kernel
theorem dX5_has_3 : decode cX5_has 3 = .ok (.iconst 1, 1) := by decide +kernel
theorem dX5_has_4 : decode cX5_has 4 = .ok (.iand, 1) := by decide +kernel
theorem dX5_has_5 : decode cX5_has 5 = .ok (.iconst 1, 1) := by decide +kernel
theorem dX5_has_6 : decode cX5_has 6 = .ok (.if_icmp .ne 7, 3) := by decide +kernel
theorem dX5_has_9 : decode cX5_has 9 = .ok (.iconst 1, 1) := by decide +kernel
theorem dX5_has_10 : decode cX5_has 10 = .ok (.goto 4, 3) := by decide +kernel
theorem dX5_has_13 : decode cX5_has 13 = .ok (.iconst 0, 1) := by decide +kernel
theorem dX5_has_14 : decode cX5_has 14 = .ok (.ireturn, 1) := by decide +kernel
theorem dX5_many_0 : decode cX5_many 0 = .ok (.iconst 0, 1) := by decide +kernel
theorem dX5_many_1 : decode cX5_many 1 = .ok (.istore_n 1, 1) := by decide +kernel
theorem dX5_many_2 : decode cX5_many 2 = .ok (.iconst 0, 1) := by decide +kernel
theorem dX5_many_3 : decode cX5_many 3 = .ok (.istore_n 2, 1) := by decide +kernel
theorem dX5_many_4 : decode cX5_many 4 = .ok (.iload_n 2, 1) := by decide +kernel
theorem dX5_many_5 : decode cX5_many 5 = .ok (.bipush 8, 2) := by decide +kernel
theorem dX5_many_7 : decode cX5_many 7 = .ok (.if_icmp .ge 17, 3) := by decide +kernel
theorem dX5_many_10 : decode cX5_many 10 = .ok (.iload_n 1, 1) := by decide +kernel
theorem dX5_many_11 : decode cX5_many 11 = .ok (.iload_n 0, 1) := by decide +kernel
theorem dX5_many_12 : decode cX5_many 12 = .ok (.iload_n 2, 1) := by decide +kernel
theorem dX5_many_13 : decode cX5_many 13 = .ok (.ishr, 1) := by decide +kernel
theorem dX5_many_14 : decode cX5_many 14 = .ok (.iconst 1, 1) := by decide +kernel
theorem dX5_many_15 : decode cX5_many 15 = .ok (.iand, 1) := by decide +kernel
theorem dX5_many_16 : decode cX5_many 16 = .ok (.iadd, 1) := by decide +kernel
theorem dX5_many_17 : decode cX5_many 17 = .ok (.istore_n 1, 1) := by decide +kernel
theorem dX5_many_18 : decode cX5_many 18 = .ok (.iinc 2 1, 3) := by decide +kernel
theorem dX5_many_21 : decode cX5_many 21 = .ok (.goto (-17), 3) := by decide +kernel
theorem dX5_many_24 : decode cX5_many 24 = .ok (.iload_n 1, 1) := by decide +kernel
theorem dX5_many_25 : decode cX5_many 25 = .ok (.ireturn, 1) := by decide +kernel
theorem dX5_all_0 : decode cX5_all 0 = .ok (.iconst 1, 1) := by decide +kernel
theorem dX5_all_1 : decode cX5_all 1 = .ok (.aload_n 0, 1) := by decide +kernel
theorem dX5_all_2 : decode cX5_all 2 = .ok (.getfield 7, 3) := by decide +kernel
theorem dX5_all_5 : decode cX5_all 5 = .ok (.iload_n 1, 1) := by decide +kernel
theorem dX5_all_6 : decode cX5_all 6 = .ok (.iaload, 1) := by decide +kernel
theorem dX5_all_7 : decode cX5_all 7 = .ok (.ishl, 1) := by decide +kernel
theorem dX5_all_8 : decode cX5_all 8 = .ok (.iconst 1, 1) := by decide +kernel
theorem dX5_all_9 : decode cX5_all 9 = .ok (.isub, 1) := by decide +kernel
theorem dX5_all_10 : decode cX5_all 10 = .ok (.ireturn, 1) := by decide +kernel
theorem dX5_opens_0 : decode cX5_opens 0 = .ok (.iconst 0, 1) := by decide +kernel
theorem dX5_opens_1 : decode cX5_opens 1 = .ok (.istore_n 3, 1) := by decide +kernel
theorem dX5_opens_2 : decode cX5_opens 2 = .ok (.iload_n 3, 1) := by decide +kernel
theorem dX5_opens_3 : decode cX5_opens 3 = .ok (.aload_n 0, 1) := by decide +kernel
theorem dX5_opens_4 : decode cX5_opens 4 = .ok (.getfield 7, 3) := by decide +kernel
theorem dX5_opens_7 : decode cX5_opens 7 = .ok (.iload_n 1, 1) := by decide +kernel
theorem dX5_opens_8 : decode cX5_opens 8 = .ok (.iaload, 1) := by decide +kernel
theorem dX5_opens_9 : decode cX5_opens 9 = .ok (.if_icmp .ge 90, 3) := by decide +kernel
theorem dX5_opens_12 : decode cX5_opens 12 = .ok (.aload_n 0, 1) := by decide +kernel
theorem dX5_opens_13 : decode cX5_opens 13 = .ok (.getfield 82, 3) := by decide +kernel
theorem dX5_opens_16 : decode cX5_opens 16 = .ok (.iload_n 3, 1) := by decide +kernel
theorem dX5_opens_17 : decode cX5_opens 17 = .ok (.invokestatic 85, 3) := by decide +kernel
theorem dX5_opens_20 : decode cX5_opens 20 = .ok (.ifCond .ne 28, 3) := by decide +kernel
theorem dX5_opens_23 : decode cX5_opens 23 = .ok (.aload_n 0, 1) := by decide +kernel
theorem dX5_opens_24 : decode cX5_opens 24 = .ok (.getfield 25, 3) := by decide +kernel
theorem dX5_opens_27 : decode cX5_opens 27 = .ok (.bipush 8, 2) := by decide +kernel
theorem dX5_opens_29 : decode cX5_opens 29 = .ok (.iload_n 1, 1) := by decide +kernel
theorem dX5_opens_30 : decode cX5_opens 30 = .ok (.imul, 1) := by decide +kernel
theorem dX5_opens_31 : decode cX5_opens 31 = .ok (.iload_n 3, 1) := by decide +kernel
theorem dX5_opens_32 : decode cX5_opens 32 = .ok (.iadd, 1) := by decide +kernel
theorem dX5_opens_33 : decode cX5_opens 33 = .ok (.iaload, 1) := by decide +kernel
theorem dX5_opens_34 : decode cX5_opens 34 = .ok (.aload_n 0, 1) := by decide +kernel
theorem dX5_opens_35 : decode cX5_opens 35 = .ok (.getfield 89, 3) := by decide +kernel
theorem dX5_opens_38 : decode cX5_opens 38 = .ok (.iconst (-1), 1) := by decide +kernel
theorem dX5_opens_39 : decode cX5_opens 39 = .ok (.ixor, 1) := by decide +kernel
theorem dX5_opens_40 : decode cX5_opens 40 = .ok (.iand, 1) := by decide +kernel
theorem dX5_opens_41 : decode cX5_opens 41 = .ok (.ifCond .ne 7, 3) := by decide +kernel
theorem dX5_opens_44 : decode cX5_opens 44 = .ok (.iconst 1, 1) := by decide +kernel
theorem dX5_opens_45 : decode cX5_opens 45 = .ok (.goto 4, 3) := by decide +kernel
theorem dX5_opens_48 : decode cX5_opens 48 = .ok (.iconst 0, 1) := by decide +kernel
theorem dX5_opens_49 : decode cX5_opens 49 = .ok (.istore 4, 2) := by decide +kernel
theorem dX5_opens_51 : decode cX5_opens 51 = .ok (.aload_n 0, 1) := by decide +kernel
theorem dX5_opens_52 : decode cX5_opens 52 = .ok (.getfield 58, 3) := by decide +kernel
theorem dX5_opens_55 : decode cX5_opens 55 = .ok (.iload_n 3, 1) := by decide +kernel
theorem dX5_opens_56 : decode cX5_opens 56 = .ok (.iload 4, 2) := by decide +kernel
theorem dX5_opens_58 : decode cX5_opens 58 = .ok (.ifCond .eq 7, 3) := by decide +kernel
theorem dX5_opens_61 : decode cX5_opens 61 = .ok (.iload_n 2, 1) := by decide +kernel
theorem dX5_opens_62 : decode cX5_opens 62 = .ok (.goto 9, 3) := by decide +kernel
theorem dX5_opens_65 : decode cX5_opens 65 = .ok (.aload_n 0, 1) := by decide +kernel
theorem dX5_opens_66 : decode cX5_opens 66 = .ok (.getfield 58, 3) := by decide +kernel
theorem dX5_opens_69 : decode cX5_opens 69 = .ok (.iload_n 3, 1) := by decide +kernel
theorem dX5_opens_70 : decode cX5_opens 70 = .ok (.iaload, 1) := by decide +kernel
theorem dX5_opens_71 : decode cX5_opens 71 = .ok (.iastore, 1) := by decide +kernel
theorem dX5_opens_72 : decode cX5_opens 72 = .ok (.aload_n 0, 1) := by decide +kernel
theorem dX5_opens_73 : decode cX5_opens 73 = .ok (.dup, 1) := by decide +kernel
theorem dX5_opens_74 : decode cX5_opens 74 = .ok (.getfield 82, 3) := by decide +kernel
theorem dX5_opens_77 : decode cX5_opens 77 = .ok (.iload 4, 2) := by decide +kernel
theorem dX5_opens_79 : decode cX5_opens 79 = .ok (.ifCond .eq 9, 3) := by decide +kernel
theorem dX5_opens_82 : decode cX5_opens 82 = .ok (.iconst 1, 1) := by decide +kernel
theorem dX5_opens_83 : decode cX5_opens 83 = .ok (.iload_n 3, 1) := by decide +kernel
theorem dX5_opens_84 : decode cX5_opens 84 = .ok (.ishl, 1) := by decide +kernel
theorem dX5_opens_85 : decode cX5_opens 85 = .ok (.goto 4, 3) := by decide +kernel
theorem dX5_opens_88 : decode cX5_opens 88 = .ok (.iconst 0, 1) := by decide +kernel
theorem dX5_opens_89 : decode cX5_opens 89 = .ok (.ior, 1) := by decide +kernel
theorem dX5_opens_90 : decode cX5_opens 90 = .ok (.putfield 82, 3) := by decide +kernel
theorem dX5_opens_93 : decode cX5_opens 93 = .ok (.iinc 3 1, 3) := by decide +kernel
theorem dX5_opens_96 : decode cX5_opens 96 = .ok (.goto (-94), 3) := by decide +kernel
theorem dX5_opens_99 : decode cX5_opens 99 = .ok (.return_, 1) := by decide +kernel
theorem dX5_ends_0 : decode cX5_ends 0 = .ok (.iload_n 0, 1) := by decide +kernel
theorem dX5_ends_1 : decode cX5_ends 1 = .ok (.iconst 3, 1) := by decide +kernel
theorem dX5_ends_2 : decode cX5_ends 2 = .ok (.if_icmp .ne 7, 3) := by decide +kernel
theorem dX5_ends_5 : decode cX5_ends 5 = .ok (.iconst 3, 1) := by decide +kernel
theorem dX5_ends_6 : decode cX5_ends 6 = .ok (.goto 13, 3) := by decide +kernel
theorem dX5_ends_9 : decode cX5_ends 9 = .ok (.iload_n 0, 1) := by decide +kernel
theorem dX5_ends_10 : decode cX5_ends 10 = .ok (.iconst 4, 1) := by decide +kernel
theorem dX5_ends_11 : decode cX5_ends 11 = .ok (.if_icmp .ne 7, 3) := by decide +kernel
theorem dX5_ends_14 : decode cX5_ends 14 = .ok (.iconst 4, 1) := by decide +kernel
theorem dX5_ends_15 : decode cX5_ends 15 = .ok (.goto 4, 3) := by decide +kernel
theorem dX5_ends_18 : decode cX5_ends 18 = .ok (.iconst 5, 1) := by decide +kernel
theorem dX5_ends_19 : decode cX5_ends 19 = .ok (.ireturn, 1) := by decide +kernel
theorem dX5_tells_0 : decode cX5_tells 0 = .ok (.aload_n 0, 1) := by decide +kernel
theorem dX5_tells_1 : decode cX5_tells 1 = .ok (.iconst 0, 1) := by decide +kernel
theorem dX5_tells_2 : decode cX5_tells 2 = .ok (.putfield 92, 3) := by decide +kernel
theorem dX5_tells_5 : decode cX5_tells 5 = .ok (.aload_n 0, 1) := by decide +kernel
theorem dX5_tells_6 : decode cX5_tells 6 = .ok (.iconst 0, 1) := by decide +kernel
theorem dX5_tells_7 : decode cX5_tells 7 = .ok (.putfield 89, 3) := by decide +kernel
theorem dX5_tells_10 : decode cX5_tells 10 = .ok (.aload_n 0, 1) := by decide +kernel
theorem dX5_tells_11 : decode cX5_tells 11 = .ok (.iconst 0, 1) := by decide +kernel
theorem dX5_tells_12 : decode cX5_tells 12 = .ok (.putfield 82, 3) := by decide +kernel
theorem dX5_tells_15 : decode cX5_tells 15 = .ok (.iconst 0, 1) := by decide +kernel
theorem dX5_tells_16 : decode cX5_tells 16 = .ok (.istore_n 3, 1) := by decide +kernel
theorem dX5_tells_17 : decode cX5_tells 17 = .ok (.iload_n 3, 1) := by decide +kernel
theorem dX5_tells_18 : decode cX5_tells 18 = .ok (.bipush 8, 2) := by decide +kernel
theorem dX5_tells_20 : decode cX5_tells 20 = .ok (.if_icmp .ge 16, 3) := by decide +kernel
theorem dX5_tells_23 : decode cX5_tells 23 = .ok (.aload_n 0, 1) := by decide +kernel
theorem dX5_tells_24 : decode cX5_tells 24 = .ok (.getfield 61, 3) := by decide +kernel
theorem dX5_tells_27 : decode cX5_tells 27 = .ok (.iload_n 3, 1) := by decide +kernel
theorem dX5_tells_28 : decode cX5_tells 28 = .ok (.iconst 0, 1) := by decide +kernel
theorem dX5_tells_29 : decode cX5_tells 29 = .ok (.iastore, 1) := by decide +kernel
theorem dX5_tells_30 : decode cX5_tells 30 = .ok (.iinc 3 1, 3) := by decide +kernel
theorem dX5_tells_33 : decode cX5_tells 33 = .ok (.goto (-16), 3) := by decide +kernel
theorem dX5_tells_36 : decode cX5_tells 36 = .ok (.bipush 50, 2) := by decide +kernel
theorem dX5_tells_38 : decode cX5_tells 38 = .ok (.iload_n 1, 1) := by decide +kernel
theorem dX5_tells_39 : decode cX5_tells 39 = .ok (.imul, 1) := by decide +kernel
theorem dX5_tells_40 : decode cX5_tells 40 = .ok (.istore_n 3, 1) := by decide +kernel
theorem dX5_tells_41 : decode cX5_tells 41 = .ok (.iload_n 3, 1) := by decide +kernel
theorem dX5_tells_42 : decode cX5_tells 42 = .ok (.bipush 50, 2) := by decide +kernel
theorem dX5_tells_44 : decode cX5_tells 44 = .ok (.iload_n 1, 1) := by decide +kernel
theorem dX5_tells_45 : decode cX5_tells 45 = .ok (.imul, 1) := by decide +kernel
theorem dX5_tells_46 : decode cX5_tells 46 = .ok (.iload_n 2, 1) := by decide +kernel
theorem dX5_tells_47 : decode cX5_tells 47 = .ok (.iadd, 1) := by decide +kernel
theorem dX5_tells_48 : decode cX5_tells 48 = .ok (.if_icmp .ge 151, 3) := by decide +kernel
theorem dX5_tells_51 : decode cX5_tells 51 = .ok (.aload_n 0, 1) := by decide +kernel
theorem dX5_tells_52 : decode cX5_tells 52 = .ok (.getfield 28, 3) := by decide +kernel
theorem dX5_tells_55 : decode cX5_tells 55 = .ok (.iload_n 3, 1) := by decide +kernel
theorem dX5_tells_56 : decode cX5_tells 56 = .ok (.iaload, 1) := by decide +kernel
theorem dX5_tells_57 : decode cX5_tells 57 = .ok (.ifCond .ne 22, 3) := by decide +kernel
theorem dX5_tells_60 : decode cX5_tells 60 = .ok (.aload_n 0, 1) := by decide +kernel
theorem dX5_tells_61 : decode cX5_tells 61 = .ok (.iconst 1, 1) := by decide +kernel
theorem dX5_tells_62 : decode cX5_tells 62 = .ok (.putfield 92, 3) := by decide +kernel
theorem dX5_tells_65 : decode cX5_tells 65 = .ok (.aload_n 0, 1) := by decide +kernel
theorem dX5_tells_66 : decode cX5_tells 66 = .ok (.iload_n 1, 1) := by decide +kernel
theorem dX5_tells_67 : decode cX5_tells 67 = .ok (.aload_n 0, 1) := by decide +kernel
theorem dX5_tells_68 : decode cX5_tells 68 = .ok (.getfield 37, 3) := by decide +kernel
theorem dX5_tells_71 : decode cX5_tells 71 = .ok (.iload_n 3, 1) := by decide +kernel
theorem dX5_tells_72 : decode cX5_tells 72 = .ok (.iaload, 1) := by decide +kernel
theorem dX5_tells_73 : decode cX5_tells 73 = .ok (.invokevirtual 95, 3) := by decide +kernel
theorem dX5_tells_76 : decode cX5_tells 76 = .ok (.goto 117, 3) := by decide +kernel
theorem dX5_tells_79 : decode cX5_tells 79 = .ok (.aload_n 0, 1) := by decide +kernel
theorem dX5_tells_80 : decode cX5_tells 80 = .ok (.getfield 28, 3) := by decide +kernel
theorem dX5_tells_83 : decode cX5_tells 83 = .ok (.iload_n 3, 1) := by decide +kernel
theorem dX5_tells_84 : decode cX5_tells 84 = .ok (.iaload, 1) := by decide +kernel
theorem dX5_tells_85 : decode cX5_tells 85 = .ok (.iconst 1, 1) := by decide +kernel
theorem dX5_tells_86 : decode cX5_tells 86 = .ok (.if_icmp .eq 13, 3) := by decide +kernel
theorem dX5_tells_89 : decode cX5_tells 89 = .ok (.aload_n 0, 1) := by decide +kernel
theorem dX5_tells_90 : decode cX5_tells 90 = .ok (.getfield 28, 3) := by decide +kernel
theorem dX5_tells_93 : decode cX5_tells 93 = .ok (.iload_n 3, 1) := by decide +kernel
theorem dX5_tells_94 : decode cX5_tells 94 = .ok (.iaload, 1) := by decide +kernel
theorem dX5_tells_95 : decode cX5_tells 95 = .ok (.iconst 2, 1) := by decide +kernel
theorem dX5_tells_96 : decode cX5_tells 96 = .ok (.if_icmp .ne 55, 3) := by decide +kernel
theorem dX5_tells_99 : decode cX5_tells 99 = .ok (.aload_n 0, 1) := by decide +kernel
theorem dX5_tells_100 : decode cX5_tells 100 = .ok (.dup, 1) := by decide +kernel
theorem dX5_tells_101 : decode cX5_tells 101 = .ok (.getfield 89, 3) := by decide +kernel
theorem dX5_tells_104 : decode cX5_tells 104 = .ok (.iconst 1, 1) := by decide +kernel
theorem dX5_tells_105 : decode cX5_tells 105 = .ok (.aload_n 0, 1) := by decide +kernel
theorem dX5_tells_106 : decode cX5_tells 106 = .ok (.getfield 34, 3) := by decide +kernel
theorem dX5_tells_109 : decode cX5_tells 109 = .ok (.iload_n 3, 1) := by decide +kernel
theorem dX5_tells_110 : decode cX5_tells 110 = .ok (.iaload, 1) := by decide +kernel
theorem dX5_tells_111 : decode cX5_tells 111 = .ok (.ishl, 1) := by decide +kernel
theorem dX5_tells_112 : decode cX5_tells 112 = .ok (.ior, 1) := by decide +kernel
theorem dX5_tells_113 : decode cX5_tells 113 = .ok (.putfield 89, 3) := by decide +kernel
theorem dX5_tells_116 : decode cX5_tells 116 = .ok (.aload_n 0, 1) := by decide +kernel
theorem dX5_tells_117 : decode cX5_tells 117 = .ok (.iload_n 1, 1) := by decide +kernel
theorem dX5_tells_118 : decode cX5_tells 118 = .ok (.aload_n 0, 1) := by decide +kernel
theorem dX5_tells_119 : decode cX5_tells 119 = .ok (.getfield 37, 3) := by decide +kernel
theorem dX5_tells_122 : decode cX5_tells 122 = .ok (.iload_n 3, 1) := by decide +kernel
theorem dX5_tells_123 : decode cX5_tells 123 = .ok (.iaload, 1) := by decide +kernel
theorem dX5_tells_124 : decode cX5_tells 124 = .ok (.invokevirtual 95, 3) := by decide +kernel
theorem dX5_tells_127 : decode cX5_tells 127 = .ok (.aload_n 0, 1) := by decide +kernel
theorem dX5_tells_128 : decode cX5_tells 128 = .ok (.aload_n 0, 1) := by decide +kernel
theorem dX5_tells_129 : decode cX5_tells 129 = .ok (.getfield 89, 3) := by decide +kernel
theorem dX5_tells_132 : decode cX5_tells 132 = .ok (.aload_n 0, 1) := by decide +kernel
theorem dX5_tells_133 : decode cX5_tells 133 = .ok (.iload_n 1, 1) := by decide +kernel
theorem dX5_tells_134 : decode cX5_tells 134 = .ok (.invokevirtual 99, 3) := by decide +kernel
theorem dX5_tells_137 : decode cX5_tells 137 = .ok (.if_icmp .ne 7, 3) := by decide +kernel
theorem dX5_tells_140 : decode cX5_tells 140 = .ok (.iconst 2, 1) := by decide +kernel
theorem dX5_tells_141 : decode cX5_tells 141 = .ok (.goto 4, 3) := by decide +kernel
theorem dX5_tells_144 : decode cX5_tells 144 = .ok (.iconst 1, 1) := by decide +kernel
theorem dX5_tells_145 : decode cX5_tells 145 = .ok (.putfield 92, 3) := by decide +kernel
theorem dX5_tells_148 : decode cX5_tells 148 = .ok (.goto 45, 3) := by decide +kernel
theorem dX5_tells_151 : decode cX5_tells 151 = .ok (.aload_n 0, 1) := by decide +kernel
theorem dX5_tells_152 : decode cX5_tells 152 = .ok (.getfield 28, 3) := by decide +kernel
theorem dX5_tells_155 : decode cX5_tells 155 = .ok (.iload_n 3, 1) := by decide +kernel
theorem dX5_tells_156 : decode cX5_tells 156 = .ok (.iaload, 1) := by decide +kernel
theorem dX5_tells_157 : decode cX5_tells 157 = .ok (.bipush 6, 2) := by decide +kernel
theorem dX5_tells_159 : decode cX5_tells 159 = .ok (.if_icmp .ne 21, 3) := by decide +kernel
theorem dX5_tells_162 : decode cX5_tells 162 = .ok (.aload_n 0, 1) := by decide +kernel
theorem dX5_tells_163 : decode cX5_tells 163 = .ok (.getfield 61, 3) := by decide +kernel
theorem dX5_tells_166 : decode cX5_tells 166 = .ok (.aload_n 0, 1) := by decide +kernel
theorem dX5_tells_167 : decode cX5_tells 167 = .ok (.getfield 34, 3) := by decide +kernel
theorem dX5_tells_170 : decode cX5_tells 170 = .ok (.iload_n 3, 1) := by decide +kernel
theorem dX5_tells_171 : decode cX5_tells 171 = .ok (.iaload, 1) := by decide +kernel
theorem dX5_tells_172 : decode cX5_tells 172 = .ok (.dup2, 1) := by decide +kernel
theorem dX5_tells_173 : decode cX5_tells 173 = .ok (.iaload, 1) := by decide +kernel
theorem dX5_tells_174 : decode cX5_tells 174 = .ok (.iconst 1, 1) := by decide +kernel
theorem dX5_tells_175 : decode cX5_tells 175 = .ok (.iadd, 1) := by decide +kernel
theorem dX5_tells_176 : decode cX5_tells 176 = .ok (.iastore, 1) := by decide +kernel
theorem dX5_tells_177 : decode cX5_tells 177 = .ok (.goto 16, 3) := by decide +kernel
theorem dX5_tells_180 : decode cX5_tells 180 = .ok (.aload_n 0, 1) := by decide +kernel
theorem dX5_tells_181 : decode cX5_tells 181 = .ok (.aload_n 0, 1) := by decide +kernel
theorem dX5_tells_182 : decode cX5_tells 182 = .ok (.getfield 28, 3) := by decide +kernel
theorem dX5_tells_185 : decode cX5_tells 185 = .ok (.iload_n 3, 1) := by decide +kernel
theorem dX5_tells_186 : decode cX5_tells 186 = .ok (.iaload, 1) := by decide +kernel
theorem dX5_tells_187 : decode cX5_tells 187 = .ok (.invokestatic 103, 3) := by decide +kernel
theorem dX5_tells_190 : decode cX5_tells 190 = .ok (.putfield 92, 3) := by decide +kernel
theorem dX5_tells_193 : decode cX5_tells 193 = .ok (.iinc 3 1, 3) := by decide +kernel
theorem dX5_tells_196 : decode cX5_tells 196 = .ok (.goto (-155), 3) := by decide +kernel
theorem dX5_tells_199 : decode cX5_tells 199 = .ok (.return_, 1) := by decide +kernel
theorem dX5_looks_0 : decode cX5_looks 0 = .ok (.aload_n 0, 1) := by decide +kernel
theorem dX5_looks_1 : decode cX5_looks 1 = .ok (.iload_n 1, 1) := by decide +kernel
theorem dX5_looks_2 : decode cX5_looks 2 = .ok (.aload_n 0, 1) := by decide +kernel
theorem dX5_looks_3 : decode cX5_looks 3 = .ok (.getfield 19, 3) := by decide +kernel
theorem dX5_looks_6 : decode cX5_looks 6 = .ok (.iload_n 1, 1) := by decide +kernel
theorem dX5_looks_7 : decode cX5_looks 7 = .ok (.iaload, 1) := by decide +kernel
theorem dX5_looks_8 : decode cX5_looks 8 = .ok (.invokevirtual 106, 3) := by decide +kernel
theorem dX5_looks_11 : decode cX5_looks 11 = .ok (.return_, 1) := by decide +kernel
theorem dX5_isIn_0 : decode cX5_isIn 0 = .ok (.aload_n 0, 1) := by decide +kernel
theorem dX5_isIn_1 : decode cX5_isIn 1 = .ok (.iload_n 1, 1) := by decide +kernel
theorem dX5_isIn_2 : decode cX5_isIn 2 = .ok (.invokevirtual 109, 3) := by decide +kernel
theorem dX5_isIn_5 : decode cX5_isIn 5 = .ok (.aload_n 0, 1) := by decide +kernel
theorem dX5_isIn_6 : decode cX5_isIn 6 = .ok (.getfield 92, 3) := by decide +kernel
theorem dX5_isIn_9 : decode cX5_isIn 9 = .ok (.iload_n 2, 1) := by decide +kernel
theorem dX5_isIn_10 : decode cX5_isIn 10 = .ok (.if_icmp .ne 7, 3) := by decide +kernel
theorem dX5_isIn_13 : decode cX5_isIn 13 = .ok (.iconst 1, 1) := by decide +kernel
theorem dX5_isIn_14 : decode cX5_isIn 14 = .ok (.goto 4, 3) := by decide +kernel
theorem dX5_isIn_17 : decode cX5_isIn 17 = .ok (.iconst 0, 1) := by decide +kernel
theorem dX5_isIn_18 : decode cX5_isIn 18 = .ok (.ireturn, 1) := by decide +kernel
theorem dX5_open_0 : decode cX5_open 0 = .ok (.aload_n 0, 1) := by decide +kernel
theorem dX5_open_1 : decode cX5_open 1 = .ok (.getfield 92, 3) := by decide +kernel
theorem dX5_open_4 : decode cX5_open 4 = .ok (.iconst 1, 1) := by decide +kernel
theorem dX5_open_5 : decode cX5_open 5 = .ok (.if_icmp .ne 17, 3) := by decide +kernel
theorem dX5_open_8 : decode cX5_open 8 = .ok (.aload_n 0, 1) := by decide +kernel
theorem dX5_open_9 : decode cX5_open 9 = .ok (.getfield 82, 3) := by decide +kernel
theorem dX5_open_12 : decode cX5_open 12 = .ok (.aload_n 0, 1) := by decide +kernel
theorem dX5_open_13 : decode cX5_open 13 = .ok (.getfield 89, 3) := by decide +kernel
theorem dX5_open_16 : decode cX5_open 16 = .ok (.iconst (-1), 1) := by decide +kernel
theorem dX5_open_17 : decode cX5_open 17 = .ok (.ixor, 1) := by decide +kernel
theorem dX5_open_18 : decode cX5_open 18 = .ok (.iand, 1) := by decide +kernel
theorem dX5_open_19 : decode cX5_open 19 = .ok (.goto 4, 3) := by decide +kernel
theorem dX5_open_22 : decode cX5_open 22 = .ok (.iconst 0, 1) := by decide +kernel
theorem dX5_open_23 : decode cX5_open 23 = .ok (.ireturn, 1) := by decide +kernel
theorem dX5_notes_0 : decode cX5_notes 0 = .ok (.bipush 50, 2) := by decide +kernel
theorem dX5_notes_2 : decode cX5_notes 2 = .ok (.iload_n 1, 1) := by decide +kernel
theorem dX5_notes_3 : decode cX5_notes 3 = .ok (.imul, 1) := by decide +kernel
theorem dX5_notes_4 : decode cX5_notes 4 = .ok (.aload_n 0, 1) := by decide +kernel
theorem dX5_notes_5 : decode cX5_notes 5 = .ok (.getfield 19, 3) := by decide +kernel
theorem dX5_notes_8 : decode cX5_notes 8 = .ok (.iload_n 1, 1) := by decide +kernel
theorem dX5_notes_9 : decode cX5_notes 9 = .ok (.iaload, 1) := by decide +kernel
theorem dX5_notes_10 : decode cX5_notes 10 = .ok (.iadd, 1) := by decide +kernel
theorem dX5_notes_11 : decode cX5_notes 11 = .ok (.istore 5, 2) := by decide +kernel
theorem dX5_notes_13 : decode cX5_notes 13 = .ok (.aload_n 0, 1) := by decide +kernel
theorem dX5_notes_14 : decode cX5_notes 14 = .ok (.getfield 28, 3) := by decide +kernel
theorem dX5_notes_17 : decode cX5_notes 17 = .ok (.iload 5, 2) := by decide +kernel
theorem dX5_notes_19 : decode cX5_notes 19 = .ok (.iload_n 2, 1) := by decide +kernel
theorem dX5_notes_20 : decode cX5_notes 20 = .ok (.iastore, 1) := by decide +kernel
theorem dX5_notes_21 : decode cX5_notes 21 = .ok (.aload_n 0, 1) := by decide +kernel
theorem dX5_notes_22 : decode cX5_notes 22 = .ok (.getfield 31, 3) := by decide +kernel
theorem dX5_notes_25 : decode cX5_notes 25 = .ok (.iload 5, 2) := by decide +kernel
theorem dX5_notes_27 : decode cX5_notes 27 = .ok (.iload_n 3, 1) := by decide +kernel
theorem dX5_notes_28 : decode cX5_notes 28 = .ok (.iastore, 1) := by decide +kernel
theorem dX5_notes_29 : decode cX5_notes 29 = .ok (.aload_n 0, 1) := by decide +kernel
theorem dX5_notes_30 : decode cX5_notes 30 = .ok (.getfield 34, 3) := by decide +kernel
theorem dX5_notes_33 : decode cX5_notes 33 = .ok (.iload 5, 2) := by decide +kernel
theorem dX5_notes_35 : decode cX5_notes 35 = .ok (.iload 4, 2) := by decide +kernel
theorem dX5_notes_37 : decode cX5_notes 37 = .ok (.iastore, 1) := by decide +kernel
theorem dX5_notes_38 : decode cX5_notes 38 = .ok (.aload_n 0, 1) := by decide +kernel
theorem dX5_notes_39 : decode cX5_notes 39 = .ok (.getfield 37, 3) := by decide +kernel
theorem dX5_notes_42 : decode cX5_notes 42 = .ok (.iload 5, 2) := by decide +kernel
theorem dX5_notes_44 : decode cX5_notes 44 = .ok (.aload_n 0, 1) := by decide +kernel
theorem dX5_notes_45 : decode cX5_notes 45 = .ok (.getfield 113, 3) := by decide +kernel
theorem dX5_notes_48 : decode cX5_notes 48 = .ok (.iastore, 1) := by decide +kernel
theorem dX5_notes_49 : decode cX5_notes 49 = .ok (.aload_n 0, 1) := by decide +kernel
theorem dX5_notes_50 : decode cX5_notes 50 = .ok (.getfield 19, 3) := by decide +kernel
theorem dX5_notes_53 : decode cX5_notes 53 = .ok (.iload_n 1, 1) := by decide +kernel
theorem dX5_notes_54 : decode cX5_notes 54 = .ok (.dup2, 1) := by decide +kernel
theorem dX5_notes_55 : decode cX5_notes 55 = .ok (.iaload, 1) := by decide +kernel
theorem dX5_notes_56 : decode cX5_notes 56 = .ok (.iconst 1, 1) := by decide +kernel
theorem dX5_notes_57 : decode cX5_notes 57 = .ok (.iadd, 1) := by decide +kernel
theorem dX5_notes_58 : decode cX5_notes 58 = .ok (.iastore, 1) := by decide +kernel
theorem dX5_notes_59 : decode cX5_notes 59 = .ok (.return_, 1) := by decide +kernel
theorem dX5_closes_0 : decode cX5_closes 0 = .ok (.aload_n 0, 1) := by decide +kernel
theorem dX5_closes_1 : decode cX5_closes 1 = .ok (.iload_n 1, 1) := by decide +kernel
theorem dX5_closes_2 : decode cX5_closes 2 = .ok (.invokevirtual 109, 3) := by decide +kernel
theorem dX5_closes_5 : decode cX5_closes 5 = .ok (.aload_n 0, 1) := by decide +kernel
theorem dX5_closes_6 : decode cX5_closes 6 = .ok (.iload_n 1, 1) := by decide +kernel
theorem dX5_closes_7 : decode cX5_closes 7 = .ok (.iload_n 2, 1) := by decide +kernel
theorem dX5_closes_8 : decode cX5_closes 8 = .ok (.iload_n 3, 1) := by decide +kernel
theorem dX5_closes_9 : decode cX5_closes 9 = .ok (.iload 4, 2) := by decide +kernel
theorem dX5_closes_11 : decode cX5_closes 11 = .ok (.invokevirtual 116, 3) := by decide +kernel
theorem dX5_closes_14 : decode cX5_closes 14 = .ok (.aload_n 0, 1) := by decide +kernel
theorem dX5_closes_15 : decode cX5_closes 15 = .ok (.iload_n 1, 1) := by decide +kernel
theorem dX5_closes_16 : decode cX5_closes 16 = .ok (.invokevirtual 99, 3) := by decide +kernel
theorem dX5_closes_19 : decode cX5_closes 19 = .ok (.aload_n 0, 1) := by decide +kernel
theorem dX5_closes_20 : decode cX5_closes 20 = .ok (.getfield 89, 3) := by decide +kernel
theorem dX5_closes_23 : decode cX5_closes 23 = .ok (.iconst (-1), 1) := by decide +kernel
theorem dX5_closes_24 : decode cX5_closes 24 = .ok (.ixor, 1) := by decide +kernel
theorem dX5_closes_25 : decode cX5_closes 25 = .ok (.iand, 1) := by decide +kernel
theorem dX5_closes_26 : decode cX5_closes 26 = .ok (.invokestatic 120, 3) := by decide +kernel
theorem dX5_closes_29 : decode cX5_closes 29 = .ok (.ireturn, 1) := by decide +kernel
theorem dX5_draft_0 : decode cX5_draft 0 = .ok (.aload_n 0, 1) := by decide +kernel
theorem dX5_draft_1 : decode cX5_draft 1 = .ok (.aload_n 0, 1) := by decide +kernel
theorem dX5_draft_2 : decode cX5_draft 2 = .ok (.getfield 75, 3) := by decide +kernel
theorem dX5_draft_5 : decode cX5_draft 5 = .ok (.bipush 6, 2) := by decide +kernel
theorem dX5_draft_7 : decode cX5_draft 7 = .ok (.if_icmp .ge 7, 3) := by decide +kernel
theorem dX5_draft_10 : decode cX5_draft 10 = .ok (.iconst 1, 1) := by decide +kernel
theorem dX5_draft_11 : decode cX5_draft 11 = .ok (.goto 4, 3) := by decide +kernel
theorem dX5_draft_14 : decode cX5_draft 14 = .ok (.iconst 0, 1) := by decide +kernel
theorem dX5_draft_15 : decode cX5_draft 15 = .ok (.iconst 1, 1) := by decide +kernel
theorem dX5_draft_16 : decode cX5_draft 16 = .ok (.iconst 1, 1) := by decide +kernel
theorem dX5_draft_17 : decode cX5_draft 17 = .ok (.invokevirtual 123, 3) := by decide +kernel
theorem dX5_draft_20 : decode cX5_draft 20 = .ok (.ifCond .ne 5, 3) := by decide +kernel
theorem dX5_draft_23 : decode cX5_draft 23 = .ok (.iconst 0, 1) := by decide +kernel
theorem dX5_draft_24 : decode cX5_draft 24 = .ok (.ireturn, 1) := by decide +kernel
theorem dX5_draft_25 : decode cX5_draft 25 = .ok (.aload_n 0, 1) := by decide +kernel
theorem dX5_draft_26 : decode cX5_draft 26 = .ok (.dup, 1) := by decide +kernel
theorem dX5_draft_27 : decode cX5_draft 27 = .ok (.getfield 75, 3) := by decide +kernel
theorem dX5_draft_30 : decode cX5_draft 30 = .ok (.iconst 1, 1) := by decide +kernel
theorem dX5_draft_31 : decode cX5_draft 31 = .ok (.iadd, 1) := by decide +kernel
theorem dX5_draft_32 : decode cX5_draft 32 = .ok (.putfield 75, 3) := by decide +kernel
theorem dX5_draft_35 : decode cX5_draft 35 = .ok (.aload_n 0, 1) := by decide +kernel
theorem dX5_draft_36 : decode cX5_draft 36 = .ok (.getfield 75, 3) := by decide +kernel
theorem dX5_draft_39 : decode cX5_draft 39 = .ok (.iconst 1, 1) := by decide +kernel
theorem dX5_draft_40 : decode cX5_draft 40 = .ok (.isub, 1) := by decide +kernel
theorem dX5_draft_41 : decode cX5_draft 41 = .ok (.ireturn, 1) := by decide +kernel
theorem dX5_adds_0 : decode cX5_adds 0 = .ok (.aload_n 0, 1) := by decide +kernel
theorem dX5_adds_1 : decode cX5_adds 1 = .ok (.getfield 22, 3) := by decide +kernel
theorem dX5_adds_4 : decode cX5_adds 4 = .ok (.bipush 8, 2) := by decide +kernel
theorem dX5_adds_6 : decode cX5_adds 6 = .ok (.iload_n 1, 1) := by decide +kernel
theorem dX5_adds_7 : decode cX5_adds 7 = .ok (.imul, 1) := by decide +kernel
theorem dX5_adds_8 : decode cX5_adds 8 = .ok (.aload_n 0, 1) := by decide +kernel
theorem dX5_adds_9 : decode cX5_adds 9 = .ok (.getfield 7, 3) := by decide +kernel
theorem dX5_adds_12 : decode cX5_adds 12 = .ok (.iload_n 1, 1) := by decide +kernel
theorem dX5_adds_13 : decode cX5_adds 13 = .ok (.iaload, 1) := by decide +kernel
theorem dX5_adds_14 : decode cX5_adds 14 = .ok (.iadd, 1) := by decide +kernel
theorem dX5_adds_15 : decode cX5_adds 15 = .ok (.iload_n 2, 1) := by decide +kernel
theorem dX5_adds_16 : decode cX5_adds 16 = .ok (.iastore, 1) := by decide +kernel
theorem dX5_adds_17 : decode cX5_adds 17 = .ok (.aload_n 0, 1) := by decide +kernel
theorem dX5_adds_18 : decode cX5_adds 18 = .ok (.getfield 25, 3) := by decide +kernel
theorem dX5_adds_21 : decode cX5_adds 21 = .ok (.bipush 8, 2) := by decide +kernel
theorem dX5_adds_23 : decode cX5_adds 23 = .ok (.iload_n 1, 1) := by decide +kernel
theorem dX5_adds_24 : decode cX5_adds 24 = .ok (.imul, 1) := by decide +kernel
theorem dX5_adds_25 : decode cX5_adds 25 = .ok (.aload_n 0, 1) := by decide +kernel
theorem dX5_adds_26 : decode cX5_adds 26 = .ok (.getfield 7, 3) := by decide +kernel
theorem dX5_adds_29 : decode cX5_adds 29 = .ok (.iload_n 1, 1) := by decide +kernel
theorem dX5_adds_30 : decode cX5_adds 30 = .ok (.iaload, 1) := by decide +kernel
theorem dX5_adds_31 : decode cX5_adds 31 = .ok (.iadd, 1) := by decide +kernel
theorem dX5_adds_32 : decode cX5_adds 32 = .ok (.iload_n 3, 1) := by decide +kernel
theorem dX5_adds_33 : decode cX5_adds 33 = .ok (.iastore, 1) := by decide +kernel
theorem dX5_adds_34 : decode cX5_adds 34 = .ok (.aload_n 0, 1) := by decide +kernel
theorem dX5_adds_35 : decode cX5_adds 35 = .ok (.getfield 7, 3) := by decide +kernel
theorem dX5_adds_38 : decode cX5_adds 38 = .ok (.iload_n 1, 1) := by decide +kernel
theorem dX5_adds_39 : decode cX5_adds 39 = .ok (.dup2, 1) := by decide +kernel
theorem dX5_adds_40 : decode cX5_adds 40 = .ok (.iaload, 1) := by decide +kernel
theorem dX5_adds_41 : decode cX5_adds 41 = .ok (.iconst 1, 1) := by decide +kernel
theorem dX5_adds_42 : decode cX5_adds 42 = .ok (.iadd, 1) := by decide +kernel
theorem dX5_adds_43 : decode cX5_adds 43 = .ok (.iastore, 1) := by decide +kernel
theorem dX5_adds_44 : decode cX5_adds 44 = .ok (.aload_n 0, 1) := by decide +kernel
theorem dX5_adds_45 : decode cX5_adds 45 = .ok (.getfield 7, 3) := by decide +kernel
theorem dX5_adds_48 : decode cX5_adds 48 = .ok (.iload_n 1, 1) := by decide +kernel
theorem dX5_adds_49 : decode cX5_adds 49 = .ok (.iaload, 1) := by decide +kernel
theorem dX5_adds_50 : decode cX5_adds 50 = .ok (.iconst 1, 1) := by decide +kernel
theorem dX5_adds_51 : decode cX5_adds 51 = .ok (.isub, 1) := by decide +kernel
theorem dX5_adds_52 : decode cX5_adds 52 = .ok (.ireturn, 1) := by decide +kernel
theorem dX5_addSlot_0 : decode cX5_addSlot 0 = .ok (.aload_n 0, 1) := by decide +kernel
theorem dX5_addSlot_1 : decode cX5_addSlot 1 = .ok (.iload_n 1, 1) := by decide +kernel
theorem dX5_addSlot_2 : decode cX5_addSlot 2 = .ok (.invokevirtual 78, 3) := by decide +kernel
theorem dX5_addSlot_5 : decode cX5_addSlot 5 = .ok (.ifCond .eq 14, 3) := by decide +kernel
theorem dX5_addSlot_8 : decode cX5_addSlot 8 = .ok (.iload_n 2, 1) := by decide +kernel
theorem dX5_addSlot_9 : decode cX5_addSlot 9 = .ok (.invokestatic 127, 3) := by decide +kernel
theorem dX5_addSlot_12 : decode cX5_addSlot 12 = .ok (.ifCond .eq 7, 3) := by decide +kernel
theorem dX5_addSlot_15 : decode cX5_addSlot 15 = .ok (.iconst 1, 1) := by decide +kernel
theorem dX5_addSlot_16 : decode cX5_addSlot 16 = .ok (.goto 4, 3) := by decide +kernel
theorem dX5_addSlot_19 : decode cX5_addSlot 19 = .ok (.iconst 0, 1) := by decide +kernel
theorem dX5_addSlot_20 : decode cX5_addSlot 20 = .ok (.istore 4, 2) := by decide +kernel
theorem dX5_addSlot_22 : decode cX5_addSlot 22 = .ok (.aload_n 0, 1) := by decide +kernel
theorem dX5_addSlot_23 : decode cX5_addSlot 23 = .ok (.iload 4, 2) := by decide +kernel
theorem dX5_addSlot_25 : decode cX5_addSlot 25 = .ok (.iload 4, 2) := by decide +kernel
theorem dX5_addSlot_27 : decode cX5_addSlot 27 = .ok (.ifCond .eq 23, 3) := by decide +kernel
theorem dX5_addSlot_30 : decode cX5_addSlot 30 = .ok (.iload_n 3, 1) := by decide +kernel
theorem dX5_addSlot_31 : decode cX5_addSlot 31 = .ok (.ifCond .lt 19, 3) := by decide +kernel
theorem dX5_addSlot_34 : decode cX5_addSlot 34 = .ok (.iload_n 3, 1) := by decide +kernel
theorem dX5_addSlot_35 : decode cX5_addSlot 35 = .ok (.aload_n 0, 1) := by decide +kernel
theorem dX5_addSlot_36 : decode cX5_addSlot 36 = .ok (.iload_n 1, 1) := by decide +kernel
theorem dX5_addSlot_37 : decode cX5_addSlot 37 = .ok (.invokevirtual 99, 3) := by decide +kernel
theorem dX5_addSlot_40 : decode cX5_addSlot 40 = .ok (.iconst (-1), 1) := by decide +kernel
theorem dX5_addSlot_41 : decode cX5_addSlot 41 = .ok (.ixor, 1) := by decide +kernel
theorem dX5_addSlot_42 : decode cX5_addSlot 42 = .ok (.iand, 1) := by decide +kernel
theorem dX5_addSlot_43 : decode cX5_addSlot 43 = .ok (.ifCond .ne 7, 3) := by decide +kernel
theorem dX5_addSlot_46 : decode cX5_addSlot 46 = .ok (.iconst 1, 1) := by decide +kernel
theorem dX5_addSlot_47 : decode cX5_addSlot 47 = .ok (.goto 4, 3) := by decide +kernel
theorem dX5_addSlot_50 : decode cX5_addSlot 50 = .ok (.iconst 0, 1) := by decide +kernel
theorem dX5_addSlot_51 : decode cX5_addSlot 51 = .ok (.iload 4, 2) := by decide +kernel
theorem dX5_addSlot_53 : decode cX5_addSlot 53 = .ok (.ifCond .eq 27, 3) := by decide +kernel
theorem dX5_addSlot_56 : decode cX5_addSlot 56 = .ok (.aload_n 0, 1) := by decide +kernel
theorem dX5_addSlot_57 : decode cX5_addSlot 57 = .ok (.iload_n 1, 1) := by decide +kernel
theorem dX5_addSlot_58 : decode cX5_addSlot 58 = .ok (.iconst 0, 1) := by decide +kernel
theorem dX5_addSlot_59 : decode cX5_addSlot 59 = .ok (.invokevirtual 130, 3) := by decide +kernel
theorem dX5_addSlot_62 : decode cX5_addSlot 62 = .ok (.ifCond .eq 18, 3) := by decide +kernel
theorem dX5_addSlot_65 : decode cX5_addSlot 65 = .ok (.aload_n 0, 1) := by decide +kernel
theorem dX5_addSlot_66 : decode cX5_addSlot 66 = .ok (.getfield 7, 3) := by decide +kernel
theorem dX5_addSlot_69 : decode cX5_addSlot 69 = .ok (.iload_n 1, 1) := by decide +kernel
theorem dX5_addSlot_70 : decode cX5_addSlot 70 = .ok (.iaload, 1) := by decide +kernel
theorem dX5_addSlot_71 : decode cX5_addSlot 71 = .ok (.bipush 8, 2) := by decide +kernel
theorem dX5_addSlot_73 : decode cX5_addSlot 73 = .ok (.if_icmp .ge 7, 3) := by decide +kernel
theorem dX5_addSlot_76 : decode cX5_addSlot 76 = .ok (.iconst 1, 1) := by decide +kernel
theorem dX5_addSlot_77 : decode cX5_addSlot 77 = .ok (.goto 4, 3) := by decide +kernel
theorem dX5_addSlot_80 : decode cX5_addSlot 80 = .ok (.iconst 0, 1) := by decide +kernel
theorem dX5_addSlot_81 : decode cX5_addSlot 81 = .ok (.invokevirtual 123, 3) := by decide +kernel
theorem dX5_addSlot_84 : decode cX5_addSlot 84 = .ok (.ifCond .ne 5, 3) := by decide +kernel
theorem dX5_addSlot_87 : decode cX5_addSlot 87 = .ok (.iconst 0, 1) := by decide +kernel
theorem dX5_addSlot_88 : decode cX5_addSlot 88 = .ok (.ireturn, 1) := by decide +kernel
theorem dX5_addSlot_89 : decode cX5_addSlot 89 = .ok (.aload_n 0, 1) := by decide +kernel
theorem dX5_addSlot_90 : decode cX5_addSlot 90 = .ok (.iload_n 1, 1) := by decide +kernel
theorem dX5_addSlot_91 : decode cX5_addSlot 91 = .ok (.iload_n 2, 1) := by decide +kernel
theorem dX5_addSlot_92 : decode cX5_addSlot 92 = .ok (.iload_n 3, 1) := by decide +kernel
theorem dX5_addSlot_93 : decode cX5_addSlot 93 = .ok (.invokevirtual 133, 3) := by decide +kernel
theorem dX5_addSlot_96 : decode cX5_addSlot 96 = .ok (.ireturn, 1) := by decide +kernel
theorem dX5_addRound_0 : decode cX5_addRound 0 = .ok (.aload_n 0, 1) := by decide +kernel
theorem dX5_addRound_1 : decode cX5_addRound 1 = .ok (.iload_n 1, 1) := by decide +kernel
theorem dX5_addRound_2 : decode cX5_addRound 2 = .ok (.invokevirtual 78, 3) := by decide +kernel
theorem dX5_addRound_5 : decode cX5_addRound 5 = .ok (.istore_n 3, 1) := by decide +kernel
theorem dX5_addRound_6 : decode cX5_addRound 6 = .ok (.aload_n 0, 1) := by decide +kernel
theorem dX5_addRound_7 : decode cX5_addRound 7 = .ok (.iload_n 3, 1) := by decide +kernel
theorem dX5_addRound_8 : decode cX5_addRound 8 = .ok (.iload_n 2, 1) := by decide +kernel
theorem dX5_addRound_9 : decode cX5_addRound 9 = .ok (.iconst 1, 1) := by decide +kernel
theorem dX5_addRound_10 : decode cX5_addRound 10 = .ok (.sipush 255, 3) := by decide +kernel
theorem dX5_addRound_13 : decode cX5_addRound 13 = .ok (.invokestatic 71, 3) := by decide +kernel
theorem dX5_addRound_16 : decode cX5_addRound 16 = .ok (.iload_n 3, 1) := by decide +kernel
theorem dX5_addRound_17 : decode cX5_addRound 17 = .ok (.ifCond .eq 32, 3) := by decide +kernel
theorem dX5_addRound_20 : decode cX5_addRound 20 = .ok (.aload_n 0, 1) := by decide +kernel
theorem dX5_addRound_21 : decode cX5_addRound 21 = .ok (.iload_n 1, 1) := by decide +kernel
theorem dX5_addRound_22 : decode cX5_addRound 22 = .ok (.iconst 0, 1) := by decide +kernel
theorem dX5_addRound_23 : decode cX5_addRound 23 = .ok (.invokevirtual 130, 3) := by decide +kernel
theorem dX5_addRound_26 : decode cX5_addRound 26 = .ok (.ifCond .eq 23, 3) := by decide +kernel
theorem dX5_addRound_29 : decode cX5_addRound 29 = .ok (.aload_n 0, 1) := by decide +kernel
theorem dX5_addRound_30 : decode cX5_addRound 30 = .ok (.getfield 7, 3) := by decide +kernel
theorem dX5_addRound_33 : decode cX5_addRound 33 = .ok (.iload_n 1, 1) := by decide +kernel
theorem dX5_addRound_34 : decode cX5_addRound 34 = .ok (.iaload, 1) := by decide +kernel
theorem dX5_addRound_35 : decode cX5_addRound 35 = .ok (.iload_n 2, 1) := by decide +kernel
theorem dX5_addRound_36 : decode cX5_addRound 36 = .ok (.invokestatic 120, 3) := by decide +kernel
theorem dX5_addRound_39 : decode cX5_addRound 39 = .ok (.iadd, 1) := by decide +kernel
theorem dX5_addRound_40 : decode cX5_addRound 40 = .ok (.bipush 8, 2) := by decide +kernel
theorem dX5_addRound_42 : decode cX5_addRound 42 = .ok (.if_icmp .gt 7, 3) := by decide +kernel
theorem dX5_addRound_45 : decode cX5_addRound 45 = .ok (.iconst 1, 1) := by decide +kernel
theorem dX5_addRound_46 : decode cX5_addRound 46 = .ok (.goto 4, 3) := by decide +kernel
theorem dX5_addRound_49 : decode cX5_addRound 49 = .ok (.iconst 0, 1) := by decide +kernel
theorem dX5_addRound_50 : decode cX5_addRound 50 = .ok (.invokevirtual 123, 3) := by decide +kernel
theorem dX5_addRound_53 : decode cX5_addRound 53 = .ok (.ifCond .ne 5, 3) := by decide +kernel
theorem dX5_addRound_56 : decode cX5_addRound 56 = .ok (.iconst 0, 1) := by decide +kernel
theorem dX5_addRound_57 : decode cX5_addRound 57 = .ok (.ireturn, 1) := by decide +kernel
theorem dX5_addRound_58 : decode cX5_addRound 58 = .ok (.aload_n 0, 1) := by decide +kernel
theorem dX5_addRound_59 : decode cX5_addRound 59 = .ok (.iload_n 1, 1) := by decide +kernel
theorem dX5_addRound_60 : decode cX5_addRound 60 = .ok (.invokevirtual 99, 3) := by decide +kernel
theorem dX5_addRound_63 : decode cX5_addRound 63 = .ok (.istore 4, 2) := by decide +kernel
theorem dX5_addRound_65 : decode cX5_addRound 65 = .ok (.iconst 0, 1) := by decide +kernel
theorem dX5_addRound_66 : decode cX5_addRound 66 = .ok (.istore 5, 2) := by decide +kernel
theorem dX5_addRound_68 : decode cX5_addRound 68 = .ok (.iload 5, 2) := by decide +kernel
theorem dX5_addRound_70 : decode cX5_addRound 70 = .ok (.bipush 8, 2) := by decide +kernel
theorem dX5_addRound_72 : decode cX5_addRound 72 = .ok (.if_icmp .ge 29, 3) := by decide +kernel
theorem dX5_addRound_75 : decode cX5_addRound 75 = .ok (.iload_n 2, 1) := by decide +kernel
theorem dX5_addRound_76 : decode cX5_addRound 76 = .ok (.iload 5, 2) := by decide +kernel
theorem dX5_addRound_78 : decode cX5_addRound 78 = .ok (.invokestatic 85, 3) := by decide +kernel
theorem dX5_addRound_81 : decode cX5_addRound 81 = .ok (.ifCond .eq 14, 3) := by decide +kernel
theorem dX5_addRound_84 : decode cX5_addRound 84 = .ok (.aload_n 0, 1) := by decide +kernel
theorem dX5_addRound_85 : decode cX5_addRound 85 = .ok (.iload_n 1, 1) := by decide +kernel
theorem dX5_addRound_86 : decode cX5_addRound 86 = .ok (.iload 5, 2) := by decide +kernel
theorem dX5_addRound_88 : decode cX5_addRound 88 = .ok (.iload 4, 2) := by decide +kernel
theorem dX5_addRound_90 : decode cX5_addRound 90 = .ok (.invokevirtual 133, 3) := by decide +kernel
theorem dX5_addRound_93 : decode cX5_addRound 93 = .ok (.istore 6, 2) := by decide +kernel
theorem dX5_addRound_95 : decode cX5_addRound 95 = .ok (.iinc 5 1, 3) := by decide +kernel
theorem dX5_addRound_98 : decode cX5_addRound 98 = .ok (.goto (-30), 3) := by decide +kernel
theorem dX5_addRound_101 : decode cX5_addRound 101 = .ok (.aload_n 0, 1) := by decide +kernel
theorem dX5_addRound_102 : decode cX5_addRound 102 = .ok (.getfield 7, 3) := by decide +kernel
theorem dX5_addRound_105 : decode cX5_addRound 105 = .ok (.iload_n 1, 1) := by decide +kernel
theorem dX5_addRound_106 : decode cX5_addRound 106 = .ok (.iaload, 1) := by decide +kernel
theorem dX5_addRound_107 : decode cX5_addRound 107 = .ok (.ireturn, 1) := by decide +kernel
theorem dX5_setTimes_0 : decode cX5_setTimes 0 = .ok (.aload_n 0, 1) := by decide +kernel
theorem dX5_setTimes_1 : decode cX5_setTimes 1 = .ok (.iload_n 1, 1) := by decide +kernel
theorem dX5_setTimes_2 : decode cX5_setTimes 2 = .ok (.invokevirtual 78, 3) := by decide +kernel
theorem dX5_setTimes_5 : decode cX5_setTimes 5 = .ok (.istore 4, 2) := by decide +kernel
theorem dX5_setTimes_7 : decode cX5_setTimes 7 = .ok (.aload_n 0, 1) := by decide +kernel
theorem dX5_setTimes_8 : decode cX5_setTimes 8 = .ok (.iload 4, 2) := by decide +kernel
theorem dX5_setTimes_10 : decode cX5_setTimes 10 = .ok (.iload_n 2, 1) := by decide +kernel
theorem dX5_setTimes_11 : decode cX5_setTimes 11 = .ok (.iconst 0, 1) := by decide +kernel
theorem dX5_setTimes_12 : decode cX5_setTimes 12 = .ok (.bipush 30, 2) := by decide +kernel
theorem dX5_setTimes_14 : decode cX5_setTimes 14 = .ok (.invokestatic 71, 3) := by decide +kernel
theorem dX5_setTimes_17 : decode cX5_setTimes 17 = .ok (.ifCond .eq 17, 3) := by decide +kernel
theorem dX5_setTimes_20 : decode cX5_setTimes 20 = .ok (.iload_n 3, 1) := by decide +kernel
theorem dX5_setTimes_21 : decode cX5_setTimes 21 = .ok (.iconst 0, 1) := by decide +kernel
theorem dX5_setTimes_22 : decode cX5_setTimes 22 = .ok (.bipush 60, 2) := by decide +kernel
theorem dX5_setTimes_24 : decode cX5_setTimes 24 = .ok (.invokestatic 71, 3) := by decide +kernel
theorem dX5_setTimes_27 : decode cX5_setTimes 27 = .ok (.ifCond .eq 7, 3) := by decide +kernel
theorem dX5_setTimes_30 : decode cX5_setTimes 30 = .ok (.iconst 1, 1) := by decide +kernel
theorem dX5_setTimes_31 : decode cX5_setTimes 31 = .ok (.goto 4, 3) := by decide +kernel
theorem dX5_setTimes_34 : decode cX5_setTimes 34 = .ok (.iconst 0, 1) := by decide +kernel
theorem dX5_setTimes_35 : decode cX5_setTimes 35 = .ok (.iload 4, 2) := by decide +kernel
theorem dX5_setTimes_37 : decode cX5_setTimes 37 = .ok (.ifCond .eq 16, 3) := by decide +kernel
theorem dX5_setTimes_40 : decode cX5_setTimes 40 = .ok (.aload_n 0, 1) := by decide +kernel
theorem dX5_setTimes_41 : decode cX5_setTimes 41 = .ok (.iload_n 1, 1) := by decide +kernel
theorem dX5_setTimes_42 : decode cX5_setTimes 42 = .ok (.iconst 0, 1) := by decide +kernel
theorem dX5_setTimes_43 : decode cX5_setTimes 43 = .ok (.invokevirtual 130, 3) := by decide +kernel
theorem dX5_setTimes_46 : decode cX5_setTimes 46 = .ok (.ifCond .eq 7, 3) := by decide +kernel
theorem dX5_setTimes_49 : decode cX5_setTimes 49 = .ok (.iconst 1, 1) := by decide +kernel
theorem dX5_setTimes_50 : decode cX5_setTimes 50 = .ok (.goto 4, 3) := by decide +kernel
theorem dX5_setTimes_53 : decode cX5_setTimes 53 = .ok (.iconst 0, 1) := by decide +kernel
theorem dX5_setTimes_54 : decode cX5_setTimes 54 = .ok (.invokevirtual 123, 3) := by decide +kernel
theorem dX5_setTimes_57 : decode cX5_setTimes 57 = .ok (.ifCond .eq 17, 3) := by decide +kernel
theorem dX5_setTimes_60 : decode cX5_setTimes 60 = .ok (.aload_n 0, 1) := by decide +kernel
theorem dX5_setTimes_61 : decode cX5_setTimes 61 = .ok (.getfield 13, 3) := by decide +kernel
theorem dX5_setTimes_64 : decode cX5_setTimes 64 = .ok (.iload_n 1, 1) := by decide +kernel
theorem dX5_setTimes_65 : decode cX5_setTimes 65 = .ok (.iload_n 2, 1) := by decide +kernel
theorem dX5_setTimes_66 : decode cX5_setTimes 66 = .ok (.iastore, 1) := by decide +kernel
theorem dX5_setTimes_67 : decode cX5_setTimes 67 = .ok (.aload_n 0, 1) := by decide +kernel
theorem dX5_setTimes_68 : decode cX5_setTimes 68 = .ok (.getfield 16, 3) := by decide +kernel
theorem dX5_setTimes_71 : decode cX5_setTimes 71 = .ok (.iload_n 1, 1) := by decide +kernel
theorem dX5_setTimes_72 : decode cX5_setTimes 72 = .ok (.iload_n 3, 1) := by decide +kernel
theorem dX5_setTimes_73 : decode cX5_setTimes 73 = .ok (.iastore, 1) := by decide +kernel
theorem dX5_setTimes_74 : decode cX5_setTimes 74 = .ok (.return_, 1) := by decide +kernel
theorem dX5_send_0 : decode cX5_send 0 = .ok (.aload_n 0, 1) := by decide +kernel
theorem dX5_send_1 : decode cX5_send 1 = .ok (.iload_n 1, 1) := by decide +kernel
theorem dX5_send_2 : decode cX5_send 2 = .ok (.invokevirtual 78, 3) := by decide +kernel
theorem dX5_send_5 : decode cX5_send 5 = .ok (.istore_n 2, 1) := by decide +kernel
theorem dX5_send_6 : decode cX5_send 6 = .ok (.aload_n 0, 1) := by decide +kernel
theorem dX5_send_7 : decode cX5_send 7 = .ok (.iload_n 2, 1) := by decide +kernel
theorem dX5_send_8 : decode cX5_send 8 = .ok (.iload_n 2, 1) := by decide +kernel
theorem dX5_send_9 : decode cX5_send 9 = .ok (.ifCond .eq 25, 3) := by decide +kernel
theorem dX5_send_12 : decode cX5_send 12 = .ok (.aload_n 0, 1) := by decide +kernel
theorem dX5_send_13 : decode cX5_send 13 = .ok (.iload_n 1, 1) := by decide +kernel
theorem dX5_send_14 : decode cX5_send 14 = .ok (.iconst 0, 1) := by decide +kernel
theorem dX5_send_15 : decode cX5_send 15 = .ok (.invokevirtual 130, 3) := by decide +kernel
theorem dX5_send_18 : decode cX5_send 18 = .ok (.ifCond .eq 16, 3) := by decide +kernel
theorem dX5_send_21 : decode cX5_send 21 = .ok (.aload_n 0, 1) := by decide +kernel
theorem dX5_send_22 : decode cX5_send 22 = .ok (.getfield 7, 3) := by decide +kernel
theorem dX5_send_25 : decode cX5_send 25 = .ok (.iload_n 1, 1) := by decide +kernel
theorem dX5_send_26 : decode cX5_send 26 = .ok (.iaload, 1) := by decide +kernel
theorem dX5_send_27 : decode cX5_send 27 = .ok (.ifCond .le 7, 3) := by decide +kernel
theorem dX5_send_30 : decode cX5_send 30 = .ok (.iconst 1, 1) := by decide +kernel
theorem dX5_send_31 : decode cX5_send 31 = .ok (.goto 4, 3) := by decide +kernel
theorem dX5_send_34 : decode cX5_send 34 = .ok (.iconst 0, 1) := by decide +kernel
theorem dX5_send_35 : decode cX5_send 35 = .ok (.iconst 1, 1) := by decide +kernel
theorem dX5_send_36 : decode cX5_send 36 = .ok (.invokevirtual 123, 3) := by decide +kernel
theorem dX5_send_39 : decode cX5_send 39 = .ok (.ifCond .ne 5, 3) := by decide +kernel
theorem dX5_send_42 : decode cX5_send 42 = .ok (.iconst 0, 1) := by decide +kernel
theorem dX5_send_43 : decode cX5_send 43 = .ok (.ireturn, 1) := by decide +kernel
theorem dX5_send_44 : decode cX5_send 44 = .ok (.aload_n 0, 1) := by decide +kernel
theorem dX5_send_45 : decode cX5_send 45 = .ok (.iload_n 1, 1) := by decide +kernel
theorem dX5_send_46 : decode cX5_send 46 = .ok (.iconst 0, 1) := by decide +kernel
theorem dX5_send_47 : decode cX5_send 47 = .ok (.iconst (-1), 1) := by decide +kernel
theorem dX5_send_48 : decode cX5_send 48 = .ok (.iconst (-1), 1) := by decide +kernel
theorem dX5_send_49 : decode cX5_send 49 = .ok (.invokevirtual 116, 3) := by decide +kernel
theorem dX5_send_52 : decode cX5_send 52 = .ok (.aload_n 0, 1) := by decide +kernel
theorem dX5_send_53 : decode cX5_send 53 = .ok (.iload_n 1, 1) := by decide +kernel
theorem dX5_send_54 : decode cX5_send 54 = .ok (.invokevirtual 109, 3) := by decide +kernel
theorem dX5_send_57 : decode cX5_send 57 = .ok (.aload_n 0, 1) := by decide +kernel
theorem dX5_send_58 : decode cX5_send 58 = .ok (.invokevirtual 137, 3) := by decide +kernel
theorem dX5_send_61 : decode cX5_send 61 = .ok (.invokestatic 120, 3) := by decide +kernel
theorem dX5_send_64 : decode cX5_send 64 = .ok (.ireturn, 1) := by decide +kernel
theorem dX5_delegated_0 : decode cX5_delegated 0 = .ok (.aload_n 0, 1) := by decide +kernel
theorem dX5_delegated_1 : decode cX5_delegated 1 = .ok (.getfield 40, 3) := by decide +kernel
theorem dX5_delegated_4 : decode cX5_delegated 4 = .ok (.iload_n 1, 1) := by decide +kernel
theorem dX5_delegated_5 : decode cX5_delegated 5 = .ok (.iaload, 1) := by decide +kernel
theorem dX5_delegated_6 : decode cX5_delegated 6 = .ok (.iconst (-1), 1) := by decide +kernel
theorem dX5_delegated_7 : decode cX5_delegated 7 = .ok (.if_icmp .eq 34, 3) := by decide +kernel
theorem dX5_delegated_10 : decode cX5_delegated 10 = .ok (.aload_n 0, 1) := by decide +kernel
theorem dX5_delegated_11 : decode cX5_delegated 11 = .ok (.getfield 113, 3) := by decide +kernel
theorem dX5_delegated_14 : decode cX5_delegated 14 = .ok (.aload_n 0, 1) := by decide +kernel
theorem dX5_delegated_15 : decode cX5_delegated 15 = .ok (.getfield 43, 3) := by decide +kernel
theorem dX5_delegated_18 : decode cX5_delegated 18 = .ok (.iload_n 1, 1) := by decide +kernel
theorem dX5_delegated_19 : decode cX5_delegated 19 = .ok (.iaload, 1) := by decide +kernel
theorem dX5_delegated_20 : decode cX5_delegated 20 = .ok (.aload_n 0, 1) := by decide +kernel
theorem dX5_delegated_21 : decode cX5_delegated 21 = .ok (.getfield 46, 3) := by decide +kernel
theorem dX5_delegated_24 : decode cX5_delegated 24 = .ok (.iload_n 1, 1) := by decide +kernel
theorem dX5_delegated_25 : decode cX5_delegated 25 = .ok (.iaload, 1) := by decide +kernel
theorem dX5_delegated_26 : decode cX5_delegated 26 = .ok (.invokestatic 71, 3) := by decide +kernel
theorem dX5_delegated_29 : decode cX5_delegated 29 = .ok (.ifCond .eq 12, 3) := by decide +kernel
theorem dX5_delegated_32 : decode cX5_delegated 32 = .ok (.aload_n 0, 1) := by decide +kernel
theorem dX5_delegated_33 : decode cX5_delegated 33 = .ok (.getfield 40, 3) := by decide +kernel
theorem dX5_delegated_36 : decode cX5_delegated 36 = .ok (.iload_n 1, 1) := by decide +kernel
theorem dX5_delegated_37 : decode cX5_delegated 37 = .ok (.iaload, 1) := by decide +kernel
theorem dX5_delegated_38 : decode cX5_delegated 38 = .ok (.goto 4, 3) := by decide +kernel
theorem dX5_delegated_41 : decode cX5_delegated 41 = .ok (.iconst (-1), 1) := by decide +kernel
theorem dX5_delegated_42 : decode cX5_delegated 42 = .ok (.ireturn, 1) := by decide +kernel
theorem dX5_signedToday_0 : decode cX5_signedToday 0 = .ok (.aload_n 0, 1) := by decide +kernel
theorem dX5_signedToday_1 : decode cX5_signedToday 1 = .ok (.getfield 55, 3) := by decide +kernel
theorem dX5_signedToday_4 : decode cX5_signedToday 4 = .ok (.iload_n 1, 1) := by decide +kernel
theorem dX5_signedToday_5 : decode cX5_signedToday 5 = .ok (.iaload, 1) := by decide +kernel
theorem dX5_signedToday_6 : decode cX5_signedToday 6 = .ok (.aload_n 0, 1) := by decide +kernel
theorem dX5_signedToday_7 : decode cX5_signedToday 7 = .ok (.getfield 113, 3) := by decide +kernel
theorem dX5_signedToday_10 : decode cX5_signedToday 10 = .ok (.if_icmp .ne 12, 3) := by decide +kernel
theorem dX5_signedToday_13 : decode cX5_signedToday 13 = .ok (.aload_n 0, 1) := by decide +kernel
theorem dX5_signedToday_14 : decode cX5_signedToday 14 = .ok (.getfield 52, 3) := by decide +kernel
theorem dX5_signedToday_17 : decode cX5_signedToday 17 = .ok (.iload_n 1, 1) := by decide +kernel
theorem dX5_signedToday_18 : decode cX5_signedToday 18 = .ok (.iaload, 1) := by decide +kernel
theorem dX5_signedToday_19 : decode cX5_signedToday 19 = .ok (.goto 4, 3) := by decide +kernel
theorem dX5_signedToday_22 : decode cX5_signedToday 22 = .ok (.iconst 0, 1) := by decide +kernel
theorem dX5_signedToday_23 : decode cX5_signedToday 23 = .ok (.ireturn, 1) := by decide +kernel
theorem dX5_why_0 : decode cX5_why 0 = .ok (.aload_n 0, 1) := by decide +kernel
theorem dX5_why_1 : decode cX5_why 1 = .ok (.iload_n 2, 1) := by decide +kernel
theorem dX5_why_2 : decode cX5_why 2 = .ok (.invokevirtual 109, 3) := by decide +kernel
theorem dX5_why_5 : decode cX5_why 5 = .ok (.aload_n 0, 1) := by decide +kernel
theorem dX5_why_6 : decode cX5_why 6 = .ok (.getfield 22, 3) := by decide +kernel
theorem dX5_why_9 : decode cX5_why 9 = .ok (.bipush 8, 2) := by decide +kernel
theorem dX5_why_11 : decode cX5_why 11 = .ok (.iload_n 2, 1) := by decide +kernel
theorem dX5_why_12 : decode cX5_why 12 = .ok (.imul, 1) := by decide +kernel
theorem dX5_why_13 : decode cX5_why 13 = .ok (.iload_n 3, 1) := by decide +kernel
theorem dX5_why_14 : decode cX5_why 14 = .ok (.iadd, 1) := by decide +kernel
theorem dX5_why_15 : decode cX5_why 15 = .ok (.iaload, 1) := by decide +kernel
theorem dX5_why_16 : decode cX5_why 16 = .ok (.istore 4, 2) := by decide +kernel
theorem dX5_why_18 : decode cX5_why 18 = .ok (.aload_n 0, 1) := by decide +kernel
theorem dX5_why_19 : decode cX5_why 19 = .ok (.getfield 92, 3) := by decide +kernel
theorem dX5_why_22 : decode cX5_why 22 = .ok (.iconst 1, 1) := by decide +kernel
theorem dX5_why_23 : decode cX5_why 23 = .ok (.if_icmp .ne 14, 3) := by decide +kernel
theorem dX5_why_26 : decode cX5_why 26 = .ok (.aload_n 0, 1) := by decide +kernel
theorem dX5_why_27 : decode cX5_why 27 = .ok (.invokevirtual 137, 3) := by decide +kernel
theorem dX5_why_30 : decode cX5_why 30 = .ok (.iload_n 3, 1) := by decide +kernel
theorem dX5_why_31 : decode cX5_why 31 = .ok (.invokestatic 85, 3) := by decide +kernel
theorem dX5_why_34 : decode cX5_why 34 = .ok (.ifCond .ne 17, 3) := by decide +kernel
theorem dX5_why_37 : decode cX5_why 37 = .ok (.aload_n 0, 1) := by decide +kernel
theorem dX5_why_38 : decode cX5_why 38 = .ok (.getfield 92, 3) := by decide +kernel
theorem dX5_why_41 : decode cX5_why 41 = .ok (.iconst 1, 1) := by decide +kernel
theorem dX5_why_42 : decode cX5_why 42 = .ok (.if_icmp .eq 7, 3) := by decide +kernel
theorem dX5_why_45 : decode cX5_why 45 = .ok (.iconst 2, 1) := by decide +kernel
theorem dX5_why_46 : decode cX5_why 46 = .ok (.goto 4, 3) := by decide +kernel
theorem dX5_why_49 : decode cX5_why 49 = .ok (.iconst 3, 1) := by decide +kernel
theorem dX5_why_50 : decode cX5_why 50 = .ok (.ireturn, 1) := by decide +kernel
theorem dX5_why_51 : decode cX5_why 51 = .ok (.iload_n 1, 1) := by decide +kernel
theorem dX5_why_52 : decode cX5_why 52 = .ok (.iload 4, 2) := by decide +kernel
theorem dX5_why_54 : decode cX5_why 54 = .ok (.if_icmp .ne 5, 3) := by decide +kernel
theorem dX5_why_57 : decode cX5_why 57 = .ok (.iconst 0, 1) := by decide +kernel
theorem dX5_why_58 : decode cX5_why 58 = .ok (.ireturn, 1) := by decide +kernel
theorem dX5_why_59 : decode cX5_why 59 = .ok (.aload_n 0, 1) := by decide +kernel
theorem dX5_why_60 : decode cX5_why 60 = .ok (.iload 4, 2) := by decide +kernel
theorem dX5_why_62 : decode cX5_why 62 = .ok (.invokevirtual 141, 3) := by decide +kernel
theorem dX5_why_65 : decode cX5_why 65 = .ok (.iload_n 1, 1) := by decide +kernel
theorem dX5_why_66 : decode cX5_why 66 = .ok (.if_icmp .eq 7, 3) := by decide +kernel
theorem dX5_why_69 : decode cX5_why 69 = .ok (.iconst 4, 1) := by decide +kernel
theorem dX5_why_70 : decode cX5_why 70 = .ok (.goto 24, 3) := by decide +kernel
theorem dX5_why_73 : decode cX5_why 73 = .ok (.aload_n 0, 1) := by decide +kernel
theorem dX5_why_74 : decode cX5_why 74 = .ok (.iload 4, 2) := by decide +kernel
theorem dX5_why_76 : decode cX5_why 76 = .ok (.invokevirtual 144, 3) := by decide +kernel
theorem dX5_why_79 : decode cX5_why 79 = .ok (.aload_n 0, 1) := by decide +kernel
theorem dX5_why_80 : decode cX5_why 80 = .ok (.getfield 49, 3) := by decide +kernel
theorem dX5_why_83 : decode cX5_why 83 = .ok (.iload 4, 2) := by decide +kernel
theorem dX5_why_85 : decode cX5_why 85 = .ok (.iaload, 1) := by decide +kernel
theorem dX5_why_86 : decode cX5_why 86 = .ok (.if_icmp .lt 7, 3) := by decide +kernel
theorem dX5_why_89 : decode cX5_why 89 = .ok (.iconst 5, 1) := by decide +kernel
theorem dX5_why_90 : decode cX5_why 90 = .ok (.goto 4, 3) := by decide +kernel
theorem dX5_why_93 : decode cX5_why 93 = .ok (.iconst 1, 1) := by decide +kernel
theorem dX5_why_94 : decode cX5_why 94 = .ok (.ireturn, 1) := by decide +kernel
theorem dX5_sign_0 : decode cX5_sign 0 = .ok (.iload_n 1, 1) := by decide +kernel
theorem dX5_sign_1 : decode cX5_sign 1 = .ok (.invokestatic 127, 3) := by decide +kernel
theorem dX5_sign_4 : decode cX5_sign 4 = .ok (.ifCond .eq 16, 3) := by decide +kernel
theorem dX5_sign_7 : decode cX5_sign 7 = .ok (.aload_n 0, 1) := by decide +kernel
theorem dX5_sign_8 : decode cX5_sign 8 = .ok (.iload_n 2, 1) := by decide +kernel
theorem dX5_sign_9 : decode cX5_sign 9 = .ok (.iload_n 3, 1) := by decide +kernel
theorem dX5_sign_10 : decode cX5_sign 10 = .ok (.invokevirtual 147, 3) := by decide +kernel
theorem dX5_sign_13 : decode cX5_sign 13 = .ok (.ifCond .eq 7, 3) := by decide +kernel
theorem dX5_sign_16 : decode cX5_sign 16 = .ok (.iconst 1, 1) := by decide +kernel
theorem dX5_sign_17 : decode cX5_sign 17 = .ok (.goto 4, 3) := by decide +kernel
theorem dX5_sign_20 : decode cX5_sign 20 = .ok (.iconst 0, 1) := by decide +kernel
theorem dX5_sign_21 : decode cX5_sign 21 = .ok (.istore 4, 2) := by decide +kernel
theorem dX5_sign_23 : decode cX5_sign 23 = .ok (.aload_n 0, 1) := by decide +kernel
theorem dX5_sign_24 : decode cX5_sign 24 = .ok (.iload 4, 2) := by decide +kernel
theorem dX5_sign_26 : decode cX5_sign 26 = .ok (.iload 4, 2) := by decide +kernel
theorem dX5_sign_28 : decode cX5_sign 28 = .ok (.ifCond .eq 18, 3) := by decide +kernel
theorem dX5_sign_31 : decode cX5_sign 31 = .ok (.aload_n 0, 1) := by decide +kernel
theorem dX5_sign_32 : decode cX5_sign 32 = .ok (.iload_n 1, 1) := by decide +kernel
theorem dX5_sign_33 : decode cX5_sign 33 = .ok (.iload_n 2, 1) := by decide +kernel
theorem dX5_sign_34 : decode cX5_sign 34 = .ok (.iload_n 3, 1) := by decide +kernel
theorem dX5_sign_35 : decode cX5_sign 35 = .ok (.invokevirtual 150, 3) := by decide +kernel
theorem dX5_sign_38 : decode cX5_sign 38 = .ok (.iconst 2, 1) := by decide +kernel
theorem dX5_sign_39 : decode cX5_sign 39 = .ok (.if_icmp .ge 7, 3) := by decide +kernel
theorem dX5_sign_42 : decode cX5_sign 42 = .ok (.iconst 1, 1) := by decide +kernel
theorem dX5_sign_43 : decode cX5_sign 43 = .ok (.goto 4, 3) := by decide +kernel
theorem dX5_sign_46 : decode cX5_sign 46 = .ok (.iconst 0, 1) := by decide +kernel
theorem dX5_sign_47 : decode cX5_sign 47 = .ok (.iconst 1, 1) := by decide +kernel
theorem dX5_sign_48 : decode cX5_sign 48 = .ok (.invokevirtual 123, 3) := by decide +kernel
theorem dX5_sign_51 : decode cX5_sign 51 = .ok (.ifCond .ne 5, 3) := by decide +kernel
theorem dX5_sign_54 : decode cX5_sign 54 = .ok (.iconst 0, 1) := by decide +kernel
theorem dX5_sign_55 : decode cX5_sign 55 = .ok (.ireturn, 1) := by decide +kernel
theorem dX5_sign_56 : decode cX5_sign 56 = .ok (.aload_n 0, 1) := by decide +kernel
theorem dX5_sign_57 : decode cX5_sign 57 = .ok (.getfield 22, 3) := by decide +kernel
theorem dX5_sign_60 : decode cX5_sign 60 = .ok (.bipush 8, 2) := by decide +kernel
theorem dX5_sign_62 : decode cX5_sign 62 = .ok (.iload_n 2, 1) := by decide +kernel
theorem dX5_sign_63 : decode cX5_sign 63 = .ok (.imul, 1) := by decide +kernel
theorem dX5_sign_64 : decode cX5_sign 64 = .ok (.iload_n 3, 1) := by decide +kernel
theorem dX5_sign_65 : decode cX5_sign 65 = .ok (.iadd, 1) := by decide +kernel
theorem dX5_sign_66 : decode cX5_sign 66 = .ok (.iaload, 1) := by decide +kernel
theorem dX5_sign_67 : decode cX5_sign 67 = .ok (.istore 5, 2) := by decide +kernel
theorem dX5_sign_69 : decode cX5_sign 69 = .ok (.aload_n 0, 1) := by decide +kernel
theorem dX5_sign_70 : decode cX5_sign 70 = .ok (.invokevirtual 137, 3) := by decide +kernel
theorem dX5_sign_73 : decode cX5_sign 73 = .ok (.istore 6, 2) := by decide +kernel
theorem dX5_sign_75 : decode cX5_sign 75 = .ok (.iload_n 1, 1) := by decide +kernel
theorem dX5_sign_76 : decode cX5_sign 76 = .ok (.iload 5, 2) := by decide +kernel
theorem dX5_sign_78 : decode cX5_sign 78 = .ok (.if_icmp .eq 29, 3) := by decide +kernel
theorem dX5_sign_81 : decode cX5_sign 81 = .ok (.aload_n 0, 1) := by decide +kernel
theorem dX5_sign_82 : decode cX5_sign 82 = .ok (.getfield 52, 3) := by decide +kernel
theorem dX5_sign_85 : decode cX5_sign 85 = .ok (.iload 5, 2) := by decide +kernel
theorem dX5_sign_87 : decode cX5_sign 87 = .ok (.aload_n 0, 1) := by decide +kernel
theorem dX5_sign_88 : decode cX5_sign 88 = .ok (.iload 5, 2) := by decide +kernel
theorem dX5_sign_90 : decode cX5_sign 90 = .ok (.invokevirtual 144, 3) := by decide +kernel
theorem dX5_sign_93 : decode cX5_sign 93 = .ok (.iconst 1, 1) := by decide +kernel
theorem dX5_sign_94 : decode cX5_sign 94 = .ok (.iadd, 1) := by decide +kernel
theorem dX5_sign_95 : decode cX5_sign 95 = .ok (.iastore, 1) := by decide +kernel
theorem dX5_sign_96 : decode cX5_sign 96 = .ok (.aload_n 0, 1) := by decide +kernel
theorem dX5_sign_97 : decode cX5_sign 97 = .ok (.getfield 55, 3) := by decide +kernel
theorem dX5_sign_100 : decode cX5_sign 100 = .ok (.iload 5, 2) := by decide +kernel
theorem dX5_sign_102 : decode cX5_sign 102 = .ok (.aload_n 0, 1) := by decide +kernel
theorem dX5_sign_103 : decode cX5_sign 103 = .ok (.getfield 113, 3) := by decide +kernel
theorem dX5_sign_106 : decode cX5_sign 106 = .ok (.iastore, 1) := by decide +kernel
theorem dX5_sign_107 : decode cX5_sign 107 = .ok (.aload_n 0, 1) := by decide +kernel
theorem dX5_sign_108 : decode cX5_sign 108 = .ok (.iload_n 2, 1) := by decide +kernel
theorem dX5_sign_109 : decode cX5_sign 109 = .ok (.iload_n 1, 1) := by decide +kernel
theorem dX5_sign_110 : decode cX5_sign 110 = .ok (.iload 5, 2) := by decide +kernel
theorem dX5_sign_112 : decode cX5_sign 112 = .ok (.if_icmp .ne 7, 3) := by decide +kernel
theorem dX5_sign_115 : decode cX5_sign 115 = .ok (.iconst 1, 1) := by decide +kernel
theorem dX5_sign_116 : decode cX5_sign 116 = .ok (.goto 4, 3) := by decide +kernel
theorem dX5_sign_119 : decode cX5_sign 119 = .ok (.iconst 2, 1) := by decide +kernel
theorem dX5_sign_120 : decode cX5_sign 120 = .ok (.iload_n 1, 1) := by decide +kernel
theorem dX5_sign_121 : decode cX5_sign 121 = .ok (.iload_n 3, 1) := by decide +kernel
theorem dX5_sign_122 : decode cX5_sign 122 = .ok (.invokevirtual 116, 3) := by decide +kernel
theorem dX5_sign_125 : decode cX5_sign 125 = .ok (.aload_n 0, 1) := by decide +kernel
theorem dX5_sign_126 : decode cX5_sign 126 = .ok (.iload_n 2, 1) := by decide +kernel
theorem dX5_sign_127 : decode cX5_sign 127 = .ok (.invokevirtual 109, 3) := by decide +kernel
theorem dX5_sign_130 : decode cX5_sign 130 = .ok (.aload_n 0, 1) := by decide +kernel
theorem dX5_sign_131 : decode cX5_sign 131 = .ok (.invokevirtual 137, 3) := by decide +kernel
theorem dX5_sign_134 : decode cX5_sign 134 = .ok (.iload 6, 2) := by decide +kernel
theorem dX5_sign_136 : decode cX5_sign 136 = .ok (.iconst (-1), 1) := by decide +kernel
theorem dX5_sign_137 : decode cX5_sign 137 = .ok (.ixor, 1) := by decide +kernel
theorem dX5_sign_138 : decode cX5_sign 138 = .ok (.iand, 1) := by decide +kernel
theorem dX5_sign_139 : decode cX5_sign 139 = .ok (.invokestatic 120, 3) := by decide +kernel
theorem dX5_sign_142 : decode cX5_sign 142 = .ok (.ireturn, 1) := by decide +kernel
theorem dX5_whyNot_0 : decode cX5_whyNot 0 = .ok (.aload_n 0, 1) := by decide +kernel
theorem dX5_whyNot_1 : decode cX5_whyNot 1 = .ok (.iload_n 1, 1) := by decide +kernel
theorem dX5_whyNot_2 : decode cX5_whyNot 2 = .ok (.invokestatic 127, 3) := by decide +kernel
theorem dX5_whyNot_5 : decode cX5_whyNot 5 = .ok (.ifCond .eq 16, 3) := by decide +kernel
theorem dX5_whyNot_8 : decode cX5_whyNot 8 = .ok (.aload_n 0, 1) := by decide +kernel
theorem dX5_whyNot_9 : decode cX5_whyNot 9 = .ok (.iload_n 2, 1) := by decide +kernel
theorem dX5_whyNot_10 : decode cX5_whyNot 10 = .ok (.iload_n 3, 1) := by decide +kernel
theorem dX5_whyNot_11 : decode cX5_whyNot 11 = .ok (.invokevirtual 147, 3) := by decide +kernel
theorem dX5_whyNot_14 : decode cX5_whyNot 14 = .ok (.ifCond .eq 7, 3) := by decide +kernel
theorem dX5_whyNot_17 : decode cX5_whyNot 17 = .ok (.iconst 1, 1) := by decide +kernel
theorem dX5_whyNot_18 : decode cX5_whyNot 18 = .ok (.goto 4, 3) := by decide +kernel
theorem dX5_whyNot_21 : decode cX5_whyNot 21 = .ok (.iconst 0, 1) := by decide +kernel
theorem dX5_whyNot_22 : decode cX5_whyNot 22 = .ok (.iconst 1, 1) := by decide +kernel
theorem dX5_whyNot_23 : decode cX5_whyNot 23 = .ok (.iconst 1, 1) := by decide +kernel
theorem dX5_whyNot_24 : decode cX5_whyNot 24 = .ok (.invokevirtual 123, 3) := by decide +kernel
theorem dX5_whyNot_27 : decode cX5_whyNot 27 = .ok (.ifCond .eq 13, 3) := by decide +kernel
theorem dX5_whyNot_30 : decode cX5_whyNot 30 = .ok (.aload_n 0, 1) := by decide +kernel
theorem dX5_whyNot_31 : decode cX5_whyNot 31 = .ok (.iload_n 1, 1) := by decide +kernel
theorem dX5_whyNot_32 : decode cX5_whyNot 32 = .ok (.iload_n 2, 1) := by decide +kernel
theorem dX5_whyNot_33 : decode cX5_whyNot 33 = .ok (.iload_n 3, 1) := by decide +kernel
theorem dX5_whyNot_34 : decode cX5_whyNot 34 = .ok (.invokevirtual 150, 3) := by decide +kernel
theorem dX5_whyNot_37 : decode cX5_whyNot 37 = .ok (.goto 4, 3) := by decide +kernel
theorem dX5_whyNot_40 : decode cX5_whyNot 40 = .ok (.iconst 0, 1) := by decide +kernel
theorem dX5_whyNot_41 : decode cX5_whyNot 41 = .ok (.ireturn, 1) := by decide +kernel
theorem dX5_decline_0 : decode cX5_decline 0 = .ok (.iload_n 1, 1) := by decide +kernel
theorem dX5_decline_1 : decode cX5_decline 1 = .ok (.invokestatic 127, 3) := by decide +kernel
theorem dX5_decline_4 : decode cX5_decline 4 = .ok (.ifCond .eq 16, 3) := by decide +kernel
theorem dX5_decline_7 : decode cX5_decline 7 = .ok (.aload_n 0, 1) := by decide +kernel
theorem dX5_decline_8 : decode cX5_decline 8 = .ok (.iload_n 2, 1) := by decide +kernel
theorem dX5_decline_9 : decode cX5_decline 9 = .ok (.iload_n 3, 1) := by decide +kernel
theorem dX5_decline_10 : decode cX5_decline 10 = .ok (.invokevirtual 147, 3) := by decide +kernel
theorem dX5_decline_13 : decode cX5_decline 13 = .ok (.ifCond .eq 7, 3) := by decide +kernel
theorem dX5_decline_16 : decode cX5_decline 16 = .ok (.iconst 1, 1) := by decide +kernel
theorem dX5_decline_17 : decode cX5_decline 17 = .ok (.goto 4, 3) := by decide +kernel
theorem dX5_decline_20 : decode cX5_decline 20 = .ok (.iconst 0, 1) := by decide +kernel
theorem dX5_decline_21 : decode cX5_decline 21 = .ok (.istore 4, 2) := by decide +kernel
theorem dX5_decline_23 : decode cX5_decline 23 = .ok (.aload_n 0, 1) := by decide +kernel
theorem dX5_decline_24 : decode cX5_decline 24 = .ok (.iload 4, 2) := by decide +kernel
theorem dX5_decline_26 : decode cX5_decline 26 = .ok (.iload 4, 2) := by decide +kernel
theorem dX5_decline_28 : decode cX5_decline 28 = .ok (.ifCond .eq 17, 3) := by decide +kernel
theorem dX5_decline_31 : decode cX5_decline 31 = .ok (.aload_n 0, 1) := by decide +kernel
theorem dX5_decline_32 : decode cX5_decline 32 = .ok (.iload_n 1, 1) := by decide +kernel
theorem dX5_decline_33 : decode cX5_decline 33 = .ok (.iload_n 2, 1) := by decide +kernel
theorem dX5_decline_34 : decode cX5_decline 34 = .ok (.iload_n 3, 1) := by decide +kernel
theorem dX5_decline_35 : decode cX5_decline 35 = .ok (.invokevirtual 150, 3) := by decide +kernel
theorem dX5_decline_38 : decode cX5_decline 38 = .ok (.ifCond .ne 7, 3) := by decide +kernel
theorem dX5_decline_41 : decode cX5_decline 41 = .ok (.iconst 1, 1) := by decide +kernel
theorem dX5_decline_42 : decode cX5_decline 42 = .ok (.goto 4, 3) := by decide +kernel
theorem dX5_decline_45 : decode cX5_decline 45 = .ok (.iconst 0, 1) := by decide +kernel
theorem dX5_decline_46 : decode cX5_decline 46 = .ok (.iconst 1, 1) := by decide +kernel
theorem dX5_decline_47 : decode cX5_decline 47 = .ok (.invokevirtual 123, 3) := by decide +kernel
theorem dX5_decline_50 : decode cX5_decline 50 = .ok (.ifCond .ne 5, 3) := by decide +kernel
theorem dX5_decline_53 : decode cX5_decline 53 = .ok (.iconst 0, 1) := by decide +kernel
theorem dX5_decline_54 : decode cX5_decline 54 = .ok (.ireturn, 1) := by decide +kernel
theorem dX5_decline_55 : decode cX5_decline 55 = .ok (.aload_n 0, 1) := by decide +kernel
theorem dX5_decline_56 : decode cX5_decline 56 = .ok (.iload_n 2, 1) := by decide +kernel
theorem dX5_decline_57 : decode cX5_decline 57 = .ok (.iconst 3, 1) := by decide +kernel
theorem dX5_decline_58 : decode cX5_decline 58 = .ok (.iload_n 1, 1) := by decide +kernel
theorem dX5_decline_59 : decode cX5_decline 59 = .ok (.iload_n 3, 1) := by decide +kernel
theorem dX5_decline_60 : decode cX5_decline 60 = .ok (.invokevirtual 153, 3) := by decide +kernel
theorem dX5_decline_63 : decode cX5_decline 63 = .ok (.ireturn, 1) := by decide +kernel
theorem dX5_cancel_0 : decode cX5_cancel 0 = .ok (.aload_n 0, 1) := by decide +kernel
theorem dX5_cancel_1 : decode cX5_cancel 1 = .ok (.iload_n 1, 1) := by decide +kernel
theorem dX5_cancel_2 : decode cX5_cancel 2 = .ok (.invokevirtual 78, 3) := by decide +kernel
theorem dX5_cancel_5 : decode cX5_cancel 5 = .ok (.istore_n 2, 1) := by decide +kernel
theorem dX5_cancel_6 : decode cX5_cancel 6 = .ok (.aload_n 0, 1) := by decide +kernel
theorem dX5_cancel_7 : decode cX5_cancel 7 = .ok (.iload_n 2, 1) := by decide +kernel
theorem dX5_cancel_8 : decode cX5_cancel 8 = .ok (.iload_n 2, 1) := by decide +kernel
theorem dX5_cancel_9 : decode cX5_cancel 9 = .ok (.ifCond .eq 16, 3) := by decide +kernel
theorem dX5_cancel_12 : decode cX5_cancel 12 = .ok (.aload_n 0, 1) := by decide +kernel
theorem dX5_cancel_13 : decode cX5_cancel 13 = .ok (.iload_n 1, 1) := by decide +kernel
theorem dX5_cancel_14 : decode cX5_cancel 14 = .ok (.iconst 1, 1) := by decide +kernel
theorem dX5_cancel_15 : decode cX5_cancel 15 = .ok (.invokevirtual 130, 3) := by decide +kernel
theorem dX5_cancel_18 : decode cX5_cancel 18 = .ok (.ifCond .eq 7, 3) := by decide +kernel
theorem dX5_cancel_21 : decode cX5_cancel 21 = .ok (.iconst 1, 1) := by decide +kernel
theorem dX5_cancel_22 : decode cX5_cancel 22 = .ok (.goto 4, 3) := by decide +kernel
theorem dX5_cancel_25 : decode cX5_cancel 25 = .ok (.iconst 0, 1) := by decide +kernel
theorem dX5_cancel_26 : decode cX5_cancel 26 = .ok (.iconst 1, 1) := by decide +kernel
theorem dX5_cancel_27 : decode cX5_cancel 27 = .ok (.invokevirtual 123, 3) := by decide +kernel
theorem dX5_cancel_30 : decode cX5_cancel 30 = .ok (.ifCond .eq 14, 3) := by decide +kernel
theorem dX5_cancel_33 : decode cX5_cancel 33 = .ok (.aload_n 0, 1) := by decide +kernel
theorem dX5_cancel_34 : decode cX5_cancel 34 = .ok (.iload_n 1, 1) := by decide +kernel
theorem dX5_cancel_35 : decode cX5_cancel 35 = .ok (.iconst 4, 1) := by decide +kernel
theorem dX5_cancel_36 : decode cX5_cancel 36 = .ok (.iconst (-1), 1) := by decide +kernel
theorem dX5_cancel_37 : decode cX5_cancel 37 = .ok (.iconst (-1), 1) := by decide +kernel
theorem dX5_cancel_38 : decode cX5_cancel 38 = .ok (.invokevirtual 153, 3) := by decide +kernel
theorem dX5_cancel_41 : decode cX5_cancel 41 = .ok (.goto 4, 3) := by decide +kernel
theorem dX5_cancel_44 : decode cX5_cancel 44 = .ok (.iconst 0, 1) := by decide +kernel
theorem dX5_cancel_45 : decode cX5_cancel 45 = .ok (.ireturn, 1) := by decide +kernel
theorem dX5_delegate_0 : decode cX5_delegate 0 = .ok (.aload_n 0, 1) := by decide +kernel
theorem dX5_delegate_1 : decode cX5_delegate 1 = .ok (.iload_n 1, 1) := by decide +kernel
theorem dX5_delegate_2 : decode cX5_delegate 2 = .ok (.invokestatic 127, 3) := by decide +kernel
theorem dX5_delegate_5 : decode cX5_delegate 5 = .ok (.ifCond .eq 14, 3) := by decide +kernel
theorem dX5_delegate_8 : decode cX5_delegate 8 = .ok (.iload_n 2, 1) := by decide +kernel
theorem dX5_delegate_9 : decode cX5_delegate 9 = .ok (.invokestatic 127, 3) := by decide +kernel
theorem dX5_delegate_12 : decode cX5_delegate 12 = .ok (.ifCond .eq 7, 3) := by decide +kernel
theorem dX5_delegate_15 : decode cX5_delegate 15 = .ok (.iconst 1, 1) := by decide +kernel
theorem dX5_delegate_16 : decode cX5_delegate 16 = .ok (.goto 4, 3) := by decide +kernel
theorem dX5_delegate_19 : decode cX5_delegate 19 = .ok (.iconst 0, 1) := by decide +kernel
theorem dX5_delegate_20 : decode cX5_delegate 20 = .ok (.iload_n 1, 1) := by decide +kernel
theorem dX5_delegate_21 : decode cX5_delegate 21 = .ok (.iload_n 2, 1) := by decide +kernel
theorem dX5_delegate_22 : decode cX5_delegate 22 = .ok (.if_icmp .eq 32, 3) := by decide +kernel
theorem dX5_delegate_25 : decode cX5_delegate 25 = .ok (.iload_n 3, 1) := by decide +kernel
theorem dX5_delegate_26 : decode cX5_delegate 26 = .ok (.aload_n 0, 1) := by decide +kernel
theorem dX5_delegate_27 : decode cX5_delegate 27 = .ok (.getfield 113, 3) := by decide +kernel
theorem dX5_delegate_30 : decode cX5_delegate 30 = .ok (.if_icmp .lt 24, 3) := by decide +kernel
theorem dX5_delegate_33 : decode cX5_delegate 33 = .ok (.iload 4, 2) := by decide +kernel
theorem dX5_delegate_35 : decode cX5_delegate 35 = .ok (.iload_n 3, 1) := by decide +kernel
theorem dX5_delegate_36 : decode cX5_delegate 36 = .ok (.if_icmp .lt 18, 3) := by decide +kernel
theorem dX5_delegate_39 : decode cX5_delegate 39 = .ok (.iload 5, 2) := by decide +kernel
theorem dX5_delegate_41 : decode cX5_delegate 41 = .ok (.iconst 1, 1) := by decide +kernel
theorem dX5_delegate_42 : decode cX5_delegate 42 = .ok (.bipush 9, 2) := by decide +kernel
theorem dX5_delegate_44 : decode cX5_delegate 44 = .ok (.invokestatic 71, 3) := by decide +kernel
theorem dX5_delegate_47 : decode cX5_delegate 47 = .ok (.ifCond .eq 7, 3) := by decide +kernel
theorem dX5_delegate_50 : decode cX5_delegate 50 = .ok (.iconst 1, 1) := by decide +kernel
theorem dX5_delegate_51 : decode cX5_delegate 51 = .ok (.goto 4, 3) := by decide +kernel
theorem dX5_delegate_54 : decode cX5_delegate 54 = .ok (.iconst 0, 1) := by decide +kernel
theorem dX5_delegate_55 : decode cX5_delegate 55 = .ok (.iconst 1, 1) := by decide +kernel
theorem dX5_delegate_56 : decode cX5_delegate 56 = .ok (.invokevirtual 123, 3) := by decide +kernel
theorem dX5_delegate_59 : decode cX5_delegate 59 = .ok (.ifCond .ne 5, 3) := by decide +kernel
theorem dX5_delegate_62 : decode cX5_delegate 62 = .ok (.iconst 0, 1) := by decide +kernel
theorem dX5_delegate_63 : decode cX5_delegate 63 = .ok (.ireturn, 1) := by decide +kernel
theorem dX5_delegate_64 : decode cX5_delegate 64 = .ok (.aload_n 0, 1) := by decide +kernel
theorem dX5_delegate_65 : decode cX5_delegate 65 = .ok (.getfield 40, 3) := by decide +kernel
theorem dX5_delegate_68 : decode cX5_delegate 68 = .ok (.iload_n 1, 1) := by decide +kernel
theorem dX5_delegate_69 : decode cX5_delegate 69 = .ok (.iaload, 1) := by decide +kernel
theorem dX5_delegate_70 : decode cX5_delegate 70 = .ok (.istore 6, 2) := by decide +kernel
theorem dX5_delegate_72 : decode cX5_delegate 72 = .ok (.aload_n 0, 1) := by decide +kernel
theorem dX5_delegate_73 : decode cX5_delegate 73 = .ok (.getfield 40, 3) := by decide +kernel
theorem dX5_delegate_76 : decode cX5_delegate 76 = .ok (.iload_n 1, 1) := by decide +kernel
theorem dX5_delegate_77 : decode cX5_delegate 77 = .ok (.iload_n 2, 1) := by decide +kernel
theorem dX5_delegate_78 : decode cX5_delegate 78 = .ok (.iastore, 1) := by decide +kernel
theorem dX5_delegate_79 : decode cX5_delegate 79 = .ok (.aload_n 0, 1) := by decide +kernel
theorem dX5_delegate_80 : decode cX5_delegate 80 = .ok (.getfield 43, 3) := by decide +kernel
theorem dX5_delegate_83 : decode cX5_delegate 83 = .ok (.iload_n 1, 1) := by decide +kernel
theorem dX5_delegate_84 : decode cX5_delegate 84 = .ok (.iload_n 3, 1) := by decide +kernel
theorem dX5_delegate_85 : decode cX5_delegate 85 = .ok (.iastore, 1) := by decide +kernel
theorem dX5_delegate_86 : decode cX5_delegate 86 = .ok (.aload_n 0, 1) := by decide +kernel
theorem dX5_delegate_87 : decode cX5_delegate 87 = .ok (.getfield 46, 3) := by decide +kernel
theorem dX5_delegate_90 : decode cX5_delegate 90 = .ok (.iload_n 1, 1) := by decide +kernel
theorem dX5_delegate_91 : decode cX5_delegate 91 = .ok (.iload 4, 2) := by decide +kernel
theorem dX5_delegate_93 : decode cX5_delegate 93 = .ok (.iastore, 1) := by decide +kernel
theorem dX5_delegate_94 : decode cX5_delegate 94 = .ok (.aload_n 0, 1) := by decide +kernel
theorem dX5_delegate_95 : decode cX5_delegate 95 = .ok (.getfield 49, 3) := by decide +kernel
theorem dX5_delegate_98 : decode cX5_delegate 98 = .ok (.iload_n 1, 1) := by decide +kernel
theorem dX5_delegate_99 : decode cX5_delegate 99 = .ok (.iload 5, 2) := by decide +kernel
theorem dX5_delegate_101 : decode cX5_delegate 101 = .ok (.iastore, 1) := by decide +kernel
theorem dX5_delegate_102 : decode cX5_delegate 102 = .ok (.iload 6, 2) := by decide +kernel
theorem dX5_delegate_104 : decode cX5_delegate 104 = .ok (.ireturn, 1) := by decide +kernel
theorem dX5_revoke_0 : decode cX5_revoke 0 = .ok (.iload_n 1, 1) := by decide +kernel
theorem dX5_revoke_1 : decode cX5_revoke 1 = .ok (.invokestatic 127, 3) := by decide +kernel
theorem dX5_revoke_4 : decode cX5_revoke 4 = .ok (.istore_n 2, 1) := by decide +kernel
theorem dX5_revoke_5 : decode cX5_revoke 5 = .ok (.aload_n 0, 1) := by decide +kernel
theorem dX5_revoke_6 : decode cX5_revoke 6 = .ok (.iload_n 2, 1) := by decide +kernel
theorem dX5_revoke_7 : decode cX5_revoke 7 = .ok (.iload_n 2, 1) := by decide +kernel
theorem dX5_revoke_8 : decode cX5_revoke 8 = .ok (.ifCond .eq 17, 3) := by decide +kernel
theorem dX5_revoke_11 : decode cX5_revoke 11 = .ok (.aload_n 0, 1) := by decide +kernel
theorem dX5_revoke_12 : decode cX5_revoke 12 = .ok (.getfield 40, 3) := by decide +kernel
theorem dX5_revoke_15 : decode cX5_revoke 15 = .ok (.iload_n 1, 1) := by decide +kernel
theorem dX5_revoke_16 : decode cX5_revoke 16 = .ok (.iaload, 1) := by decide +kernel
theorem dX5_revoke_17 : decode cX5_revoke 17 = .ok (.iconst (-1), 1) := by decide +kernel
theorem dX5_revoke_18 : decode cX5_revoke 18 = .ok (.if_icmp .eq 7, 3) := by decide +kernel
theorem dX5_revoke_21 : decode cX5_revoke 21 = .ok (.iconst 1, 1) := by decide +kernel
theorem dX5_revoke_22 : decode cX5_revoke 22 = .ok (.goto 4, 3) := by decide +kernel
theorem dX5_revoke_25 : decode cX5_revoke 25 = .ok (.iconst 0, 1) := by decide +kernel
theorem dX5_revoke_26 : decode cX5_revoke 26 = .ok (.iconst 1, 1) := by decide +kernel
theorem dX5_revoke_27 : decode cX5_revoke 27 = .ok (.invokevirtual 123, 3) := by decide +kernel
theorem dX5_revoke_30 : decode cX5_revoke 30 = .ok (.ifCond .ne 5, 3) := by decide +kernel
theorem dX5_revoke_33 : decode cX5_revoke 33 = .ok (.iconst 0, 1) := by decide +kernel
theorem dX5_revoke_34 : decode cX5_revoke 34 = .ok (.ireturn, 1) := by decide +kernel
theorem dX5_revoke_35 : decode cX5_revoke 35 = .ok (.aload_n 0, 1) := by decide +kernel
theorem dX5_revoke_36 : decode cX5_revoke 36 = .ok (.getfield 40, 3) := by decide +kernel
theorem dX5_revoke_39 : decode cX5_revoke 39 = .ok (.iload_n 1, 1) := by decide +kernel
theorem dX5_revoke_40 : decode cX5_revoke 40 = .ok (.iaload, 1) := by decide +kernel
theorem dX5_revoke_41 : decode cX5_revoke 41 = .ok (.istore_n 3, 1) := by decide +kernel
theorem dX5_revoke_42 : decode cX5_revoke 42 = .ok (.aload_n 0, 1) := by decide +kernel
theorem dX5_revoke_43 : decode cX5_revoke 43 = .ok (.getfield 40, 3) := by decide +kernel
theorem dX5_revoke_46 : decode cX5_revoke 46 = .ok (.iload_n 1, 1) := by decide +kernel
theorem dX5_revoke_47 : decode cX5_revoke 47 = .ok (.iconst (-1), 1) := by decide +kernel
theorem dX5_revoke_48 : decode cX5_revoke 48 = .ok (.iastore, 1) := by decide +kernel
theorem dX5_revoke_49 : decode cX5_revoke 49 = .ok (.iload_n 3, 1) := by decide +kernel
theorem dX5_revoke_50 : decode cX5_revoke 50 = .ok (.ireturn, 1) := by decide +kernel
theorem dX5_delegateToday_0 : decode cX5_delegateToday 0 = .ok (.aload_n 0, 1) := by decide +kernel
theorem dX5_delegateToday_1 : decode cX5_delegateToday 1 = .ok (.iload_n 1, 1) := by decide +kernel
theorem dX5_delegateToday_2 : decode cX5_delegateToday 2 = .ok (.invokestatic 127, 3) := by decide +kernel
theorem dX5_delegateToday_5 : decode cX5_delegateToday 5 = .ok (.iconst 1, 1) := by decide +kernel
theorem dX5_delegateToday_6 : decode cX5_delegateToday 6 = .ok (.iconst 1, 1) := by decide +kernel
theorem dX5_delegateToday_7 : decode cX5_delegateToday 7 = .ok (.invokevirtual 123, 3) := by decide +kernel
theorem dX5_delegateToday_10 : decode cX5_delegateToday 10 = .ok (.ifCond .eq 11, 3) := by decide +kernel
theorem dX5_delegateToday_13 : decode cX5_delegateToday 13 = .ok (.aload_n 0, 1) := by decide +kernel
theorem dX5_delegateToday_14 : decode cX5_delegateToday 14 = .ok (.iload_n 1, 1) := by decide +kernel
theorem dX5_delegateToday_15 : decode cX5_delegateToday 15 = .ok (.invokevirtual 141, 3) := by decide +kernel
theorem dX5_delegateToday_18 : decode cX5_delegateToday 18 = .ok (.goto 4, 3) := by decide +kernel
theorem dX5_delegateToday_21 : decode cX5_delegateToday 21 = .ok (.iconst 0, 1) := by decide +kernel
theorem dX5_delegateToday_22 : decode cX5_delegateToday 22 = .ok (.ireturn, 1) := by decide +kernel
theorem dX5_signedFor_0 : decode cX5_signedFor 0 = .ok (.aload_n 0, 1) := by decide +kernel
theorem dX5_signedFor_1 : decode cX5_signedFor 1 = .ok (.iload_n 1, 1) := by decide +kernel
theorem dX5_signedFor_2 : decode cX5_signedFor 2 = .ok (.invokestatic 127, 3) := by decide +kernel
theorem dX5_signedFor_5 : decode cX5_signedFor 5 = .ok (.iconst 1, 1) := by decide +kernel
theorem dX5_signedFor_6 : decode cX5_signedFor 6 = .ok (.iconst 1, 1) := by decide +kernel
theorem dX5_signedFor_7 : decode cX5_signedFor 7 = .ok (.invokevirtual 123, 3) := by decide +kernel
theorem dX5_signedFor_10 : decode cX5_signedFor 10 = .ok (.ifCond .eq 11, 3) := by decide +kernel
theorem dX5_signedFor_13 : decode cX5_signedFor 13 = .ok (.aload_n 0, 1) := by decide +kernel
theorem dX5_signedFor_14 : decode cX5_signedFor 14 = .ok (.iload_n 1, 1) := by decide +kernel
theorem dX5_signedFor_15 : decode cX5_signedFor 15 = .ok (.invokevirtual 144, 3) := by decide +kernel
theorem dX5_signedFor_18 : decode cX5_signedFor 18 = .ok (.goto 4, 3) := by decide +kernel
theorem dX5_signedFor_21 : decode cX5_signedFor 21 = .ok (.iconst 0, 1) := by decide +kernel
theorem dX5_signedFor_22 : decode cX5_signedFor 22 = .ok (.ireturn, 1) := by decide +kernel
theorem dX5_toSign_0 : decode cX5_toSign 0 = .ok (.aload_n 0, 1) := by decide +kernel
theorem dX5_toSign_1 : decode cX5_toSign 1 = .ok (.iload_n 1, 1) := by decide +kernel
theorem dX5_toSign_2 : decode cX5_toSign 2 = .ok (.invokestatic 127, 3) := by decide +kernel
theorem dX5_toSign_5 : decode cX5_toSign 5 = .ok (.iconst 1, 1) := by decide +kernel
theorem dX5_toSign_6 : decode cX5_toSign 6 = .ok (.iconst 1, 1) := by decide +kernel
theorem dX5_toSign_7 : decode cX5_toSign 7 = .ok (.invokevirtual 123, 3) := by decide +kernel
theorem dX5_toSign_10 : decode cX5_toSign 10 = .ok (.ifCond .ne 5, 3) := by decide +kernel
theorem dX5_toSign_13 : decode cX5_toSign 13 = .ok (.iconst 0, 1) := by decide +kernel
theorem dX5_toSign_14 : decode cX5_toSign 14 = .ok (.ireturn, 1) := by decide +kernel
theorem dX5_toSign_15 : decode cX5_toSign 15 = .ok (.iconst 0, 1) := by decide +kernel
theorem dX5_toSign_16 : decode cX5_toSign 16 = .ok (.istore_n 2, 1) := by decide +kernel
theorem dX5_toSign_17 : decode cX5_toSign 17 = .ok (.iconst 0, 1) := by decide +kernel
theorem dX5_toSign_18 : decode cX5_toSign 18 = .ok (.istore_n 3, 1) := by decide +kernel
theorem dX5_toSign_19 : decode cX5_toSign 19 = .ok (.iload_n 3, 1) := by decide +kernel
theorem dX5_toSign_20 : decode cX5_toSign 20 = .ok (.aload_n 0, 1) := by decide +kernel
theorem dX5_toSign_21 : decode cX5_toSign 21 = .ok (.getfield 75, 3) := by decide +kernel
theorem dX5_toSign_24 : decode cX5_toSign 24 = .ok (.if_icmp .ge 49, 3) := by decide +kernel
theorem dX5_toSign_27 : decode cX5_toSign 27 = .ok (.iconst 0, 1) := by decide +kernel
theorem dX5_toSign_28 : decode cX5_toSign 28 = .ok (.istore 4, 2) := by decide +kernel
theorem dX5_toSign_30 : decode cX5_toSign 30 = .ok (.iload 4, 2) := by decide +kernel
theorem dX5_toSign_32 : decode cX5_toSign 32 = .ok (.aload_n 0, 1) := by decide +kernel
theorem dX5_toSign_33 : decode cX5_toSign 33 = .ok (.getfield 7, 3) := by decide +kernel
theorem dX5_toSign_36 : decode cX5_toSign 36 = .ok (.iload_n 3, 1) := by decide +kernel
theorem dX5_toSign_37 : decode cX5_toSign 37 = .ok (.iaload, 1) := by decide +kernel
theorem dX5_toSign_38 : decode cX5_toSign 38 = .ok (.if_icmp .ge 29, 3) := by decide +kernel
theorem dX5_toSign_41 : decode cX5_toSign 41 = .ok (.iload_n 2, 1) := by decide +kernel
theorem dX5_toSign_42 : decode cX5_toSign 42 = .ok (.aload_n 0, 1) := by decide +kernel
theorem dX5_toSign_43 : decode cX5_toSign 43 = .ok (.iload_n 1, 1) := by decide +kernel
theorem dX5_toSign_44 : decode cX5_toSign 44 = .ok (.iload_n 3, 1) := by decide +kernel
theorem dX5_toSign_45 : decode cX5_toSign 45 = .ok (.iload 4, 2) := by decide +kernel
theorem dX5_toSign_47 : decode cX5_toSign 47 = .ok (.invokevirtual 150, 3) := by decide +kernel
theorem dX5_toSign_50 : decode cX5_toSign 50 = .ok (.iconst 2, 1) := by decide +kernel
theorem dX5_toSign_51 : decode cX5_toSign 51 = .ok (.if_icmp .ge 7, 3) := by decide +kernel
theorem dX5_toSign_54 : decode cX5_toSign 54 = .ok (.iconst 1, 1) := by decide +kernel
theorem dX5_toSign_55 : decode cX5_toSign 55 = .ok (.goto 4, 3) := by decide +kernel
theorem dX5_toSign_58 : decode cX5_toSign 58 = .ok (.iconst 0, 1) := by decide +kernel
theorem dX5_toSign_59 : decode cX5_toSign 59 = .ok (.iadd, 1) := by decide +kernel
theorem dX5_toSign_60 : decode cX5_toSign 60 = .ok (.istore_n 2, 1) := by decide +kernel
theorem dX5_toSign_61 : decode cX5_toSign 61 = .ok (.iinc 4 1, 3) := by decide +kernel
theorem dX5_toSign_64 : decode cX5_toSign 64 = .ok (.goto (-34), 3) := by decide +kernel
theorem dX5_toSign_67 : decode cX5_toSign 67 = .ok (.iinc 3 1, 3) := by decide +kernel
theorem dX5_toSign_70 : decode cX5_toSign 70 = .ok (.goto (-51), 3) := by decide +kernel
theorem dX5_toSign_73 : decode cX5_toSign 73 = .ok (.iload_n 2, 1) := by decide +kernel
theorem dX5_toSign_74 : decode cX5_toSign 74 = .ok (.ireturn, 1) := by decide +kernel
theorem dX5_reminds_0 : decode cX5_reminds 0 = .ok (.iconst 0, 1) := by decide +kernel
theorem dX5_reminds_1 : decode cX5_reminds 1 = .ok (.istore_n 2, 1) := by decide +kernel
theorem dX5_reminds_2 : decode cX5_reminds 2 = .ok (.aload_n 0, 1) := by decide +kernel
theorem dX5_reminds_3 : decode cX5_reminds 3 = .ok (.iload_n 1, 1) := by decide +kernel
theorem dX5_reminds_4 : decode cX5_reminds 4 = .ok (.invokevirtual 109, 3) := by decide +kernel
theorem dX5_reminds_7 : decode cX5_reminds 7 = .ok (.aload_n 0, 1) := by decide +kernel
theorem dX5_reminds_8 : decode cX5_reminds 8 = .ok (.invokevirtual 137, 3) := by decide +kernel
theorem dX5_reminds_11 : decode cX5_reminds 11 = .ok (.istore_n 3, 1) := by decide +kernel
theorem dX5_reminds_12 : decode cX5_reminds 12 = .ok (.iconst 0, 1) := by decide +kernel
theorem dX5_reminds_13 : decode cX5_reminds 13 = .ok (.istore 4, 2) := by decide +kernel
theorem dX5_reminds_15 : decode cX5_reminds 15 = .ok (.iload 4, 2) := by decide +kernel
theorem dX5_reminds_17 : decode cX5_reminds 17 = .ok (.aload_n 0, 1) := by decide +kernel
theorem dX5_reminds_18 : decode cX5_reminds 18 = .ok (.getfield 7, 3) := by decide +kernel
theorem dX5_reminds_21 : decode cX5_reminds 21 = .ok (.iload_n 1, 1) := by decide +kernel
theorem dX5_reminds_22 : decode cX5_reminds 22 = .ok (.iaload, 1) := by decide +kernel
theorem dX5_reminds_23 : decode cX5_reminds 23 = .ok (.if_icmp .ge 84, 3) := by decide +kernel
theorem dX5_reminds_26 : decode cX5_reminds 26 = .ok (.aload_n 0, 1) := by decide +kernel
theorem dX5_reminds_27 : decode cX5_reminds 27 = .ok (.getfield 113, 3) := by decide +kernel
theorem dX5_reminds_30 : decode cX5_reminds 30 = .ok (.aload_n 0, 1) := by decide +kernel
theorem dX5_reminds_31 : decode cX5_reminds 31 = .ok (.getfield 58, 3) := by decide +kernel
theorem dX5_reminds_34 : decode cX5_reminds 34 = .ok (.iload 4, 2) := by decide +kernel
theorem dX5_reminds_36 : decode cX5_reminds 36 = .ok (.iaload, 1) := by decide +kernel
theorem dX5_reminds_37 : decode cX5_reminds 37 = .ok (.isub, 1) := by decide +kernel
theorem dX5_reminds_38 : decode cX5_reminds 38 = .ok (.istore 5, 2) := by decide +kernel
theorem dX5_reminds_40 : decode cX5_reminds 40 = .ok (.iload_n 3, 1) := by decide +kernel
theorem dX5_reminds_41 : decode cX5_reminds 41 = .ok (.iload 4, 2) := by decide +kernel
theorem dX5_reminds_43 : decode cX5_reminds 43 = .ok (.invokestatic 85, 3) := by decide +kernel
theorem dX5_reminds_46 : decode cX5_reminds 46 = .ok (.ifCond .eq 55, 3) := by decide +kernel
theorem dX5_reminds_49 : decode cX5_reminds 49 = .ok (.aload_n 0, 1) := by decide +kernel
theorem dX5_reminds_50 : decode cX5_reminds 50 = .ok (.getfield 61, 3) := by decide +kernel
theorem dX5_reminds_53 : decode cX5_reminds 53 = .ok (.iload 4, 2) := by decide +kernel
theorem dX5_reminds_55 : decode cX5_reminds 55 = .ok (.iaload, 1) := by decide +kernel
theorem dX5_reminds_56 : decode cX5_reminds 56 = .ok (.iconst 5, 1) := by decide +kernel
theorem dX5_reminds_57 : decode cX5_reminds 57 = .ok (.if_icmp .ge 44, 3) := by decide +kernel
theorem dX5_reminds_60 : decode cX5_reminds 60 = .ok (.iload 5, 2) := by decide +kernel
theorem dX5_reminds_62 : decode cX5_reminds 62 = .ok (.ifCond .le 39, 3) := by decide +kernel
theorem dX5_reminds_65 : decode cX5_reminds 65 = .ok (.iload 5, 2) := by decide +kernel
theorem dX5_reminds_67 : decode cX5_reminds 67 = .ok (.aload_n 0, 1) := by decide +kernel
theorem dX5_reminds_68 : decode cX5_reminds 68 = .ok (.getfield 13, 3) := by decide +kernel
theorem dX5_reminds_71 : decode cX5_reminds 71 = .ok (.iload_n 1, 1) := by decide +kernel
theorem dX5_reminds_72 : decode cX5_reminds 72 = .ok (.iaload, 1) := by decide +kernel
theorem dX5_reminds_73 : decode cX5_reminds 73 = .ok (.irem, 1) := by decide +kernel
theorem dX5_reminds_74 : decode cX5_reminds 74 = .ok (.ifCond .ne 27, 3) := by decide +kernel
theorem dX5_reminds_77 : decode cX5_reminds 77 = .ok (.aload_n 0, 1) := by decide +kernel
theorem dX5_reminds_78 : decode cX5_reminds 78 = .ok (.iload_n 1, 1) := by decide +kernel
theorem dX5_reminds_79 : decode cX5_reminds 79 = .ok (.bipush 6, 2) := by decide +kernel
theorem dX5_reminds_81 : decode cX5_reminds 81 = .ok (.aload_n 0, 1) := by decide +kernel
theorem dX5_reminds_82 : decode cX5_reminds 82 = .ok (.getfield 22, 3) := by decide +kernel
theorem dX5_reminds_85 : decode cX5_reminds 85 = .ok (.bipush 8, 2) := by decide +kernel
theorem dX5_reminds_87 : decode cX5_reminds 87 = .ok (.iload_n 1, 1) := by decide +kernel
theorem dX5_reminds_88 : decode cX5_reminds 88 = .ok (.imul, 1) := by decide +kernel
theorem dX5_reminds_89 : decode cX5_reminds 89 = .ok (.iload 4, 2) := by decide +kernel
theorem dX5_reminds_91 : decode cX5_reminds 91 = .ok (.iadd, 1) := by decide +kernel
theorem dX5_reminds_92 : decode cX5_reminds 92 = .ok (.iaload, 1) := by decide +kernel
theorem dX5_reminds_93 : decode cX5_reminds 93 = .ok (.iload 4, 2) := by decide +kernel
theorem dX5_reminds_95 : decode cX5_reminds 95 = .ok (.invokevirtual 116, 3) := by decide +kernel
theorem dX5_reminds_98 : decode cX5_reminds 98 = .ok (.iinc 2 1, 3) := by decide +kernel
theorem dX5_reminds_101 : decode cX5_reminds 101 = .ok (.iinc 4 1, 3) := by decide +kernel
theorem dX5_reminds_104 : decode cX5_reminds 104 = .ok (.goto (-89), 3) := by decide +kernel
theorem dX5_reminds_107 : decode cX5_reminds 107 = .ok (.iload_n 2, 1) := by decide +kernel
theorem dX5_reminds_108 : decode cX5_reminds 108 = .ok (.ireturn, 1) := by decide +kernel
theorem dX5_passes_0 : decode cX5_passes 0 = .ok (.iconst 0, 1) := by decide +kernel
theorem dX5_passes_1 : decode cX5_passes 1 = .ok (.istore_n 1, 1) := by decide +kernel
theorem dX5_passes_2 : decode cX5_passes 2 = .ok (.aload_n 0, 1) := by decide +kernel
theorem dX5_passes_3 : decode cX5_passes 3 = .ok (.dup, 1) := by decide +kernel
theorem dX5_passes_4 : decode cX5_passes 4 = .ok (.getfield 113, 3) := by decide +kernel
theorem dX5_passes_7 : decode cX5_passes 7 = .ok (.iconst 1, 1) := by decide +kernel
theorem dX5_passes_8 : decode cX5_passes 8 = .ok (.iadd, 1) := by decide +kernel
theorem dX5_passes_9 : decode cX5_passes 9 = .ok (.putfield 113, 3) := by decide +kernel
theorem dX5_passes_12 : decode cX5_passes 12 = .ok (.iconst 0, 1) := by decide +kernel
theorem dX5_passes_13 : decode cX5_passes 13 = .ok (.istore_n 2, 1) := by decide +kernel
theorem dX5_passes_14 : decode cX5_passes 14 = .ok (.iload_n 2, 1) := by decide +kernel
theorem dX5_passes_15 : decode cX5_passes 15 = .ok (.aload_n 0, 1) := by decide +kernel
theorem dX5_passes_16 : decode cX5_passes 16 = .ok (.getfield 75, 3) := by decide +kernel
theorem dX5_passes_19 : decode cX5_passes 19 = .ok (.if_icmp .ge 99, 3) := by decide +kernel
theorem dX5_passes_22 : decode cX5_passes 22 = .ok (.aload_n 0, 1) := by decide +kernel
theorem dX5_passes_23 : decode cX5_passes 23 = .ok (.iload_n 2, 1) := by decide +kernel
theorem dX5_passes_24 : decode cX5_passes 24 = .ok (.iconst 1, 1) := by decide +kernel
theorem dX5_passes_25 : decode cX5_passes 25 = .ok (.invokevirtual 130, 3) := by decide +kernel
theorem dX5_passes_28 : decode cX5_passes 28 = .ok (.ifCond .eq 84, 3) := by decide +kernel
theorem dX5_passes_31 : decode cX5_passes 31 = .ok (.aload_n 0, 1) := by decide +kernel
theorem dX5_passes_32 : decode cX5_passes 32 = .ok (.getfield 16, 3) := by decide +kernel
theorem dX5_passes_35 : decode cX5_passes 35 = .ok (.iload_n 2, 1) := by decide +kernel
theorem dX5_passes_36 : decode cX5_passes 36 = .ok (.iaload, 1) := by decide +kernel
theorem dX5_passes_37 : decode cX5_passes 37 = .ok (.ifCond .le 30, 3) := by decide +kernel
theorem dX5_passes_40 : decode cX5_passes 40 = .ok (.aload_n 0, 1) := by decide +kernel
theorem dX5_passes_41 : decode cX5_passes 41 = .ok (.getfield 113, 3) := by decide +kernel
theorem dX5_passes_44 : decode cX5_passes 44 = .ok (.aload_n 0, 1) := by decide +kernel
theorem dX5_passes_45 : decode cX5_passes 45 = .ok (.getfield 37, 3) := by decide +kernel
theorem dX5_passes_48 : decode cX5_passes 48 = .ok (.bipush 50, 2) := by decide +kernel
theorem dX5_passes_50 : decode cX5_passes 50 = .ok (.iload_n 2, 1) := by decide +kernel
theorem dX5_passes_51 : decode cX5_passes 51 = .ok (.imul, 1) := by decide +kernel
theorem dX5_passes_52 : decode cX5_passes 52 = .ok (.iaload, 1) := by decide +kernel
theorem dX5_passes_53 : decode cX5_passes 53 = .ok (.aload_n 0, 1) := by decide +kernel
theorem dX5_passes_54 : decode cX5_passes 54 = .ok (.getfield 16, 3) := by decide +kernel
theorem dX5_passes_57 : decode cX5_passes 57 = .ok (.iload_n 2, 1) := by decide +kernel
theorem dX5_passes_58 : decode cX5_passes 58 = .ok (.iaload, 1) := by decide +kernel
theorem dX5_passes_59 : decode cX5_passes 59 = .ok (.iadd, 1) := by decide +kernel
theorem dX5_passes_60 : decode cX5_passes 60 = .ok (.if_icmp .ne 7, 3) := by decide +kernel
theorem dX5_passes_63 : decode cX5_passes 63 = .ok (.iconst 1, 1) := by decide +kernel
theorem dX5_passes_64 : decode cX5_passes 64 = .ok (.goto 4, 3) := by decide +kernel
theorem dX5_passes_67 : decode cX5_passes 67 = .ok (.iconst 0, 1) := by decide +kernel
theorem dX5_passes_68 : decode cX5_passes 68 = .ok (.istore_n 3, 1) := by decide +kernel
theorem dX5_passes_69 : decode cX5_passes 69 = .ok (.iload_n 3, 1) := by decide +kernel
theorem dX5_passes_70 : decode cX5_passes 70 = .ok (.ifCond .eq 14, 3) := by decide +kernel
theorem dX5_passes_73 : decode cX5_passes 73 = .ok (.aload_n 0, 1) := by decide +kernel
theorem dX5_passes_74 : decode cX5_passes 74 = .ok (.iload_n 2, 1) := by decide +kernel
theorem dX5_passes_75 : decode cX5_passes 75 = .ok (.iconst 5, 1) := by decide +kernel
theorem dX5_passes_76 : decode cX5_passes 76 = .ok (.iconst (-1), 1) := by decide +kernel
theorem dX5_passes_77 : decode cX5_passes 77 = .ok (.iconst (-1), 1) := by decide +kernel
theorem dX5_passes_78 : decode cX5_passes 78 = .ok (.invokevirtual 153, 3) := by decide +kernel
theorem dX5_passes_81 : decode cX5_passes 81 = .ok (.goto 4, 3) := by decide +kernel
theorem dX5_passes_84 : decode cX5_passes 84 = .ok (.iconst 0, 1) := by decide +kernel
theorem dX5_passes_85 : decode cX5_passes 85 = .ok (.istore 4, 2) := by decide +kernel
theorem dX5_passes_87 : decode cX5_passes 87 = .ok (.iload_n 1, 1) := by decide +kernel
theorem dX5_passes_88 : decode cX5_passes 88 = .ok (.iload_n 3, 1) := by decide +kernel
theorem dX5_passes_89 : decode cX5_passes 89 = .ok (.ifCond .ne 20, 3) := by decide +kernel
theorem dX5_passes_92 : decode cX5_passes 92 = .ok (.aload_n 0, 1) := by decide +kernel
theorem dX5_passes_93 : decode cX5_passes 93 = .ok (.getfield 13, 3) := by decide +kernel
theorem dX5_passes_96 : decode cX5_passes 96 = .ok (.iload_n 2, 1) := by decide +kernel
theorem dX5_passes_97 : decode cX5_passes 97 = .ok (.iaload, 1) := by decide +kernel
theorem dX5_passes_98 : decode cX5_passes 98 = .ok (.ifCond .le 11, 3) := by decide +kernel
theorem dX5_passes_101 : decode cX5_passes 101 = .ok (.aload_n 0, 1) := by decide +kernel
theorem dX5_passes_102 : decode cX5_passes 102 = .ok (.iload_n 2, 1) := by decide +kernel
theorem dX5_passes_103 : decode cX5_passes 103 = .ok (.invokevirtual 157, 3) := by decide +kernel
theorem dX5_passes_106 : decode cX5_passes 106 = .ok (.goto 4, 3) := by decide +kernel
theorem dX5_passes_109 : decode cX5_passes 109 = .ok (.iconst 0, 1) := by decide +kernel
theorem dX5_passes_110 : decode cX5_passes 110 = .ok (.iadd, 1) := by decide +kernel
theorem dX5_passes_111 : decode cX5_passes 111 = .ok (.istore_n 1, 1) := by decide +kernel
theorem dX5_passes_112 : decode cX5_passes 112 = .ok (.iinc 2 1, 3) := by decide +kernel
theorem dX5_passes_115 : decode cX5_passes 115 = .ok (.goto (-101), 3) := by decide +kernel
theorem dX5_passes_118 : decode cX5_passes 118 = .ok (.iload_n 1, 1) := by decide +kernel
theorem dX5_passes_119 : decode cX5_passes 119 = .ok (.ireturn, 1) := by decide +kernel
theorem dX5_pass_0 : decode cX5_pass 0 = .ok (.aload_n 0, 1) := by decide +kernel
theorem dX5_pass_1 : decode cX5_pass 1 = .ok (.iload_n 1, 1) := by decide +kernel
theorem dX5_pass_2 : decode cX5_pass 2 = .ok (.iconst 1, 1) := by decide +kernel
theorem dX5_pass_3 : decode cX5_pass 3 = .ok (.bipush 60, 2) := by decide +kernel
theorem dX5_pass_5 : decode cX5_pass 5 = .ok (.invokestatic 71, 3) := by decide +kernel
theorem dX5_pass_8 : decode cX5_pass 8 = .ok (.iconst 1, 1) := by decide +kernel
theorem dX5_pass_9 : decode cX5_pass 9 = .ok (.iconst 1, 1) := by decide +kernel
theorem dX5_pass_10 : decode cX5_pass 10 = .ok (.invokevirtual 123, 3) := by decide +kernel
theorem dX5_pass_13 : decode cX5_pass 13 = .ok (.ifCond .ne 5, 3) := by decide +kernel
theorem dX5_pass_16 : decode cX5_pass 16 = .ok (.iconst 0, 1) := by decide +kernel
theorem dX5_pass_17 : decode cX5_pass 17 = .ok (.ireturn, 1) := by decide +kernel
theorem dX5_pass_18 : decode cX5_pass 18 = .ok (.iconst 0, 1) := by decide +kernel
theorem dX5_pass_19 : decode cX5_pass 19 = .ok (.istore_n 2, 1) := by decide +kernel
theorem dX5_pass_20 : decode cX5_pass 20 = .ok (.iconst 0, 1) := by decide +kernel
theorem dX5_pass_21 : decode cX5_pass 21 = .ok (.istore_n 3, 1) := by decide +kernel
theorem dX5_pass_22 : decode cX5_pass 22 = .ok (.iload_n 3, 1) := by decide +kernel
theorem dX5_pass_23 : decode cX5_pass 23 = .ok (.iload_n 1, 1) := by decide +kernel
theorem dX5_pass_24 : decode cX5_pass 24 = .ok (.if_icmp .ge 16, 3) := by decide +kernel
theorem dX5_pass_27 : decode cX5_pass 27 = .ok (.iload_n 2, 1) := by decide +kernel
theorem dX5_pass_28 : decode cX5_pass 28 = .ok (.aload_n 0, 1) := by decide +kernel
theorem dX5_pass_29 : decode cX5_pass 29 = .ok (.invokevirtual 160, 3) := by decide +kernel
theorem dX5_pass_32 : decode cX5_pass 32 = .ok (.iadd, 1) := by decide +kernel
theorem dX5_pass_33 : decode cX5_pass 33 = .ok (.istore_n 2, 1) := by decide +kernel
theorem dX5_pass_34 : decode cX5_pass 34 = .ok (.iinc 3 1, 3) := by decide +kernel
theorem dX5_pass_37 : decode cX5_pass 37 = .ok (.goto (-15), 3) := by decide +kernel
theorem dX5_pass_40 : decode cX5_pass 40 = .ok (.iload_n 2, 1) := by decide +kernel
theorem dX5_pass_41 : decode cX5_pass 41 = .ok (.ireturn, 1) := by decide +kernel
theorem dX5_today_0 : decode cX5_today 0 = .ok (.aload_n 0, 1) := by decide +kernel
theorem dX5_today_1 : decode cX5_today 1 = .ok (.aload_n 0, 1) := by decide +kernel
theorem dX5_today_2 : decode cX5_today 2 = .ok (.getfield 113, 3) := by decide +kernel
theorem dX5_today_5 : decode cX5_today 5 = .ok (.invokevirtual 163, 3) := by decide +kernel
theorem dX5_today_8 : decode cX5_today 8 = .ok (.ireturn, 1) := by decide +kernel
theorem dX5_next_0 : decode cX5_next 0 = .ok (.iconst (-1), 1) := by decide +kernel
theorem dX5_next_1 : decode cX5_next 1 = .ok (.istore_n 2, 1) := by decide +kernel
theorem dX5_next_2 : decode cX5_next 2 = .ok (.aload_n 0, 1) := by decide +kernel
theorem dX5_next_3 : decode cX5_next 3 = .ok (.iload_n 1, 1) := by decide +kernel
theorem dX5_next_4 : decode cX5_next 4 = .ok (.invokevirtual 109, 3) := by decide +kernel
theorem dX5_next_7 : decode cX5_next 7 = .ok (.iconst 0, 1) := by decide +kernel
theorem dX5_next_8 : decode cX5_next 8 = .ok (.istore_n 3, 1) := by decide +kernel
theorem dX5_next_9 : decode cX5_next 9 = .ok (.iload_n 3, 1) := by decide +kernel
theorem dX5_next_10 : decode cX5_next 10 = .ok (.aload_n 0, 1) := by decide +kernel
theorem dX5_next_11 : decode cX5_next 11 = .ok (.getfield 7, 3) := by decide +kernel
theorem dX5_next_14 : decode cX5_next 14 = .ok (.iload_n 1, 1) := by decide +kernel
theorem dX5_next_15 : decode cX5_next 15 = .ok (.iaload, 1) := by decide +kernel
theorem dX5_next_16 : decode cX5_next 16 = .ok (.if_icmp .ge 93, 3) := by decide +kernel
theorem dX5_next_19 : decode cX5_next 19 = .ok (.aload_n 0, 1) := by decide +kernel
theorem dX5_next_20 : decode cX5_next 20 = .ok (.getfield 13, 3) := by decide +kernel
theorem dX5_next_23 : decode cX5_next 23 = .ok (.iload_n 1, 1) := by decide +kernel
theorem dX5_next_24 : decode cX5_next 24 = .ok (.iaload, 1) := by decide +kernel
theorem dX5_next_25 : decode cX5_next 25 = .ok (.ifCond .le 84, 3) := by decide +kernel
theorem dX5_next_28 : decode cX5_next 28 = .ok (.aload_n 0, 1) := by decide +kernel
theorem dX5_next_29 : decode cX5_next 29 = .ok (.invokevirtual 137, 3) := by decide +kernel
theorem dX5_next_32 : decode cX5_next 32 = .ok (.iload_n 3, 1) := by decide +kernel
theorem dX5_next_33 : decode cX5_next 33 = .ok (.invokestatic 85, 3) := by decide +kernel
theorem dX5_next_36 : decode cX5_next 36 = .ok (.ifCond .eq 67, 3) := by decide +kernel
theorem dX5_next_39 : decode cX5_next 39 = .ok (.aload_n 0, 1) := by decide +kernel
theorem dX5_next_40 : decode cX5_next 40 = .ok (.getfield 61, 3) := by decide +kernel
theorem dX5_next_43 : decode cX5_next 43 = .ok (.iload_n 3, 1) := by decide +kernel
theorem dX5_next_44 : decode cX5_next 44 = .ok (.iaload, 1) := by decide +kernel
theorem dX5_next_45 : decode cX5_next 45 = .ok (.iconst 5, 1) := by decide +kernel
theorem dX5_next_46 : decode cX5_next 46 = .ok (.if_icmp .ge 57, 3) := by decide +kernel
theorem dX5_next_49 : decode cX5_next 49 = .ok (.aload_n 0, 1) := by decide +kernel
theorem dX5_next_50 : decode cX5_next 50 = .ok (.getfield 58, 3) := by decide +kernel
theorem dX5_next_53 : decode cX5_next 53 = .ok (.iload_n 3, 1) := by decide +kernel
theorem dX5_next_54 : decode cX5_next 54 = .ok (.iaload, 1) := by decide +kernel
theorem dX5_next_55 : decode cX5_next 55 = .ok (.aload_n 0, 1) := by decide +kernel
theorem dX5_next_56 : decode cX5_next 56 = .ok (.getfield 13, 3) := by decide +kernel
theorem dX5_next_59 : decode cX5_next 59 = .ok (.iload_n 1, 1) := by decide +kernel
theorem dX5_next_60 : decode cX5_next 60 = .ok (.iaload, 1) := by decide +kernel
theorem dX5_next_61 : decode cX5_next 61 = .ok (.aload_n 0, 1) := by decide +kernel
theorem dX5_next_62 : decode cX5_next 62 = .ok (.getfield 113, 3) := by decide +kernel
theorem dX5_next_65 : decode cX5_next 65 = .ok (.aload_n 0, 1) := by decide +kernel
theorem dX5_next_66 : decode cX5_next 66 = .ok (.getfield 58, 3) := by decide +kernel
theorem dX5_next_69 : decode cX5_next 69 = .ok (.iload_n 3, 1) := by decide +kernel
theorem dX5_next_70 : decode cX5_next 70 = .ok (.iaload, 1) := by decide +kernel
theorem dX5_next_71 : decode cX5_next 71 = .ok (.isub, 1) := by decide +kernel
theorem dX5_next_72 : decode cX5_next 72 = .ok (.aload_n 0, 1) := by decide +kernel
theorem dX5_next_73 : decode cX5_next 73 = .ok (.getfield 13, 3) := by decide +kernel
theorem dX5_next_76 : decode cX5_next 76 = .ok (.iload_n 1, 1) := by decide +kernel
theorem dX5_next_77 : decode cX5_next 77 = .ok (.iaload, 1) := by decide +kernel
theorem dX5_next_78 : decode cX5_next 78 = .ok (.idiv, 1) := by decide +kernel
theorem dX5_next_79 : decode cX5_next 79 = .ok (.iconst 1, 1) := by decide +kernel
theorem dX5_next_80 : decode cX5_next 80 = .ok (.iadd, 1) := by decide +kernel
theorem dX5_next_81 : decode cX5_next 81 = .ok (.imul, 1) := by decide +kernel
theorem dX5_next_82 : decode cX5_next 82 = .ok (.iadd, 1) := by decide +kernel
theorem dX5_next_83 : decode cX5_next 83 = .ok (.istore 4, 2) := by decide +kernel
theorem dX5_next_85 : decode cX5_next 85 = .ok (.iload_n 2, 1) := by decide +kernel
theorem dX5_next_86 : decode cX5_next 86 = .ok (.iconst (-1), 1) := by decide +kernel
theorem dX5_next_87 : decode cX5_next 87 = .ok (.if_icmp .eq 9, 3) := by decide +kernel
theorem dX5_next_90 : decode cX5_next 90 = .ok (.iload 4, 2) := by decide +kernel
theorem dX5_next_92 : decode cX5_next 92 = .ok (.iload_n 2, 1) := by decide +kernel
theorem dX5_next_93 : decode cX5_next 93 = .ok (.if_icmp .ge 8, 3) := by decide +kernel
theorem dX5_next_96 : decode cX5_next 96 = .ok (.iload 4, 2) := by decide +kernel
theorem dX5_next_98 : decode cX5_next 98 = .ok (.goto 4, 3) := by decide +kernel
theorem dX5_next_101 : decode cX5_next 101 = .ok (.iload_n 2, 1) := by decide +kernel
theorem dX5_next_102 : decode cX5_next 102 = .ok (.istore_n 2, 1) := by decide +kernel
theorem dX5_next_103 : decode cX5_next 103 = .ok (.iinc 3 1, 3) := by decide +kernel
theorem dX5_next_106 : decode cX5_next 106 = .ok (.goto (-97), 3) := by decide +kernel
theorem dX5_next_109 : decode cX5_next 109 = .ok (.iload_n 2, 1) := by decide +kernel
theorem dX5_next_110 : decode cX5_next 110 = .ok (.ireturn, 1) := by decide +kernel
theorem dX5_nextReminder_0 : decode cX5_nextReminder 0 = .ok (.aload_n 0, 1) := by decide +kernel
theorem dX5_nextReminder_1 : decode cX5_nextReminder 1 = .ok (.aload_n 0, 1) := by decide +kernel
theorem dX5_nextReminder_2 : decode cX5_nextReminder 2 = .ok (.iload_n 1, 1) := by decide +kernel
theorem dX5_nextReminder_3 : decode cX5_nextReminder 3 = .ok (.invokevirtual 78, 3) := by decide +kernel
theorem dX5_nextReminder_6 : decode cX5_nextReminder 6 = .ok (.iconst 1, 1) := by decide +kernel
theorem dX5_nextReminder_7 : decode cX5_nextReminder 7 = .ok (.iconst 1, 1) := by decide +kernel
theorem dX5_nextReminder_8 : decode cX5_nextReminder 8 = .ok (.invokevirtual 123, 3) := by decide +kernel
theorem dX5_nextReminder_11 : decode cX5_nextReminder 11 = .ok (.ifCond .eq 11, 3) := by decide +kernel
theorem dX5_nextReminder_14 : decode cX5_nextReminder 14 = .ok (.aload_n 0, 1) := by decide +kernel
theorem dX5_nextReminder_15 : decode cX5_nextReminder 15 = .ok (.iload_n 1, 1) := by decide +kernel
theorem dX5_nextReminder_16 : decode cX5_nextReminder 16 = .ok (.invokevirtual 166, 3) := by decide +kernel
theorem dX5_nextReminder_19 : decode cX5_nextReminder 19 = .ok (.goto 4, 3) := by decide +kernel
theorem dX5_nextReminder_22 : decode cX5_nextReminder 22 = .ok (.iconst 0, 1) := by decide +kernel
theorem dX5_nextReminder_23 : decode cX5_nextReminder 23 = .ok (.ireturn, 1) := by decide +kernel
theorem dX5_envelopes_0 : decode cX5_envelopes 0 = .ok (.aload_n 0, 1) := by decide +kernel
theorem dX5_envelopes_1 : decode cX5_envelopes 1 = .ok (.aload_n 0, 1) := by decide +kernel
theorem dX5_envelopes_2 : decode cX5_envelopes 2 = .ok (.getfield 75, 3) := by decide +kernel
theorem dX5_envelopes_5 : decode cX5_envelopes 5 = .ok (.invokevirtual 163, 3) := by decide +kernel
theorem dX5_envelopes_8 : decode cX5_envelopes 8 = .ok (.ireturn, 1) := by decide +kernel
theorem dX5_state_0 : decode cX5_state 0 = .ok (.aload_n 0, 1) := by decide +kernel
theorem dX5_state_1 : decode cX5_state 1 = .ok (.aload_n 0, 1) := by decide +kernel
theorem dX5_state_2 : decode cX5_state 2 = .ok (.iload_n 1, 1) := by decide +kernel
theorem dX5_state_3 : decode cX5_state 3 = .ok (.invokevirtual 78, 3) := by decide +kernel
theorem dX5_state_6 : decode cX5_state 6 = .ok (.iconst 1, 1) := by decide +kernel
theorem dX5_state_7 : decode cX5_state 7 = .ok (.iconst 1, 1) := by decide +kernel
theorem dX5_state_8 : decode cX5_state 8 = .ok (.invokevirtual 123, 3) := by decide +kernel
theorem dX5_state_11 : decode cX5_state 11 = .ok (.ifCond .ne 5, 3) := by decide +kernel
theorem dX5_state_14 : decode cX5_state 14 = .ok (.iconst 0, 1) := by decide +kernel
theorem dX5_state_15 : decode cX5_state 15 = .ok (.ireturn, 1) := by decide +kernel
theorem dX5_state_16 : decode cX5_state 16 = .ok (.aload_n 0, 1) := by decide +kernel
theorem dX5_state_17 : decode cX5_state 17 = .ok (.iload_n 1, 1) := by decide +kernel
theorem dX5_state_18 : decode cX5_state 18 = .ok (.invokevirtual 109, 3) := by decide +kernel
theorem dX5_state_21 : decode cX5_state 21 = .ok (.aload_n 0, 1) := by decide +kernel
theorem dX5_state_22 : decode cX5_state 22 = .ok (.getfield 92, 3) := by decide +kernel
theorem dX5_state_25 : decode cX5_state 25 = .ok (.ireturn, 1) := by decide +kernel
theorem dX5_slots_0 : decode cX5_slots 0 = .ok (.aload_n 0, 1) := by decide +kernel
theorem dX5_slots_1 : decode cX5_slots 1 = .ok (.aload_n 0, 1) := by decide +kernel
theorem dX5_slots_2 : decode cX5_slots 2 = .ok (.iload_n 1, 1) := by decide +kernel
theorem dX5_slots_3 : decode cX5_slots 3 = .ok (.invokevirtual 78, 3) := by decide +kernel
theorem dX5_slots_6 : decode cX5_slots 6 = .ok (.iconst 1, 1) := by decide +kernel
theorem dX5_slots_7 : decode cX5_slots 7 = .ok (.iconst 1, 1) := by decide +kernel
theorem dX5_slots_8 : decode cX5_slots 8 = .ok (.invokevirtual 123, 3) := by decide +kernel
theorem dX5_slots_11 : decode cX5_slots 11 = .ok (.ifCond .eq 12, 3) := by decide +kernel
theorem dX5_slots_14 : decode cX5_slots 14 = .ok (.aload_n 0, 1) := by decide +kernel
theorem dX5_slots_15 : decode cX5_slots 15 = .ok (.getfield 7, 3) := by decide +kernel
theorem dX5_slots_18 : decode cX5_slots 18 = .ok (.iload_n 1, 1) := by decide +kernel
theorem dX5_slots_19 : decode cX5_slots 19 = .ok (.iaload, 1) := by decide +kernel
theorem dX5_slots_20 : decode cX5_slots 20 = .ok (.goto 4, 3) := by decide +kernel
theorem dX5_slots_23 : decode cX5_slots 23 = .ok (.iconst 0, 1) := by decide +kernel
theorem dX5_slots_24 : decode cX5_slots 24 = .ok (.ireturn, 1) := by decide +kernel
theorem dX5_slotState_0 : decode cX5_slotState 0 = .ok (.aload_n 0, 1) := by decide +kernel
theorem dX5_slotState_1 : decode cX5_slotState 1 = .ok (.aload_n 0, 1) := by decide +kernel
theorem dX5_slotState_2 : decode cX5_slotState 2 = .ok (.iload_n 1, 1) := by decide +kernel
theorem dX5_slotState_3 : decode cX5_slotState 3 = .ok (.iload_n 2, 1) := by decide +kernel
theorem dX5_slotState_4 : decode cX5_slotState 4 = .ok (.invokevirtual 147, 3) := by decide +kernel
theorem dX5_slotState_7 : decode cX5_slotState 7 = .ok (.iconst 1, 1) := by decide +kernel
theorem dX5_slotState_8 : decode cX5_slotState 8 = .ok (.iconst 1, 1) := by decide +kernel
theorem dX5_slotState_9 : decode cX5_slotState 9 = .ok (.invokevirtual 123, 3) := by decide +kernel
theorem dX5_slotState_12 : decode cX5_slotState 12 = .ok (.ifCond .ne 5, 3) := by decide +kernel
theorem dX5_slotState_15 : decode cX5_slotState 15 = .ok (.iconst 0, 1) := by decide +kernel
theorem dX5_slotState_16 : decode cX5_slotState 16 = .ok (.ireturn, 1) := by decide +kernel
theorem dX5_slotState_17 : decode cX5_slotState 17 = .ok (.aload_n 0, 1) := by decide +kernel
theorem dX5_slotState_18 : decode cX5_slotState 18 = .ok (.iload_n 1, 1) := by decide +kernel
theorem dX5_slotState_19 : decode cX5_slotState 19 = .ok (.invokevirtual 109, 3) := by decide +kernel
theorem dX5_slotState_22 : decode cX5_slotState 22 = .ok (.aload_n 0, 1) := by decide +kernel
theorem dX5_slotState_23 : decode cX5_slotState 23 = .ok (.getfield 89, 3) := by decide +kernel
theorem dX5_slotState_26 : decode cX5_slotState 26 = .ok (.iload_n 2, 1) := by decide +kernel
theorem dX5_slotState_27 : decode cX5_slotState 27 = .ok (.invokestatic 85, 3) := by decide +kernel
theorem dX5_slotState_30 : decode cX5_slotState 30 = .ok (.ifCond .eq 5, 3) := by decide +kernel
theorem dX5_slotState_33 : decode cX5_slotState 33 = .ok (.iconst 2, 1) := by decide +kernel
theorem dX5_slotState_34 : decode cX5_slotState 34 = .ok (.ireturn, 1) := by decide +kernel
theorem dX5_slotState_35 : decode cX5_slotState 35 = .ok (.aload_n 0, 1) := by decide +kernel
theorem dX5_slotState_36 : decode cX5_slotState 36 = .ok (.getfield 92, 3) := by decide +kernel
theorem dX5_slotState_39 : decode cX5_slotState 39 = .ok (.iconst 2, 1) := by decide +kernel
theorem dX5_slotState_40 : decode cX5_slotState 40 = .ok (.if_icmp .le 7, 3) := by decide +kernel
theorem dX5_slotState_43 : decode cX5_slotState 43 = .ok (.iconst 3, 1) := by decide +kernel
theorem dX5_slotState_44 : decode cX5_slotState 44 = .ok (.goto 19, 3) := by decide +kernel
theorem dX5_slotState_47 : decode cX5_slotState 47 = .ok (.aload_n 0, 1) := by decide +kernel
theorem dX5_slotState_48 : decode cX5_slotState 48 = .ok (.invokevirtual 137, 3) := by decide +kernel
theorem dX5_slotState_51 : decode cX5_slotState 51 = .ok (.iload_n 2, 1) := by decide +kernel
theorem dX5_slotState_52 : decode cX5_slotState 52 = .ok (.invokestatic 85, 3) := by decide +kernel
theorem dX5_slotState_55 : decode cX5_slotState 55 = .ok (.ifCond .eq 7, 3) := by decide +kernel
theorem dX5_slotState_58 : decode cX5_slotState 58 = .ok (.iconst 1, 1) := by decide +kernel
theorem dX5_slotState_59 : decode cX5_slotState 59 = .ok (.goto 4, 3) := by decide +kernel
theorem dX5_slotState_62 : decode cX5_slotState 62 = .ok (.iconst 0, 1) := by decide +kernel
theorem dX5_slotState_63 : decode cX5_slotState 63 = .ok (.ireturn, 1) := by decide +kernel
theorem dX5_missing_0 : decode cX5_missing 0 = .ok (.aload_n 0, 1) := by decide +kernel
theorem dX5_missing_1 : decode cX5_missing 1 = .ok (.aload_n 0, 1) := by decide +kernel
theorem dX5_missing_2 : decode cX5_missing 2 = .ok (.iload_n 1, 1) := by decide +kernel
theorem dX5_missing_3 : decode cX5_missing 3 = .ok (.iload_n 2, 1) := by decide +kernel
theorem dX5_missing_4 : decode cX5_missing 4 = .ok (.invokevirtual 147, 3) := by decide +kernel
theorem dX5_missing_7 : decode cX5_missing 7 = .ok (.iconst 1, 1) := by decide +kernel
theorem dX5_missing_8 : decode cX5_missing 8 = .ok (.iconst 1, 1) := by decide +kernel
theorem dX5_missing_9 : decode cX5_missing 9 = .ok (.invokevirtual 123, 3) := by decide +kernel
theorem dX5_missing_12 : decode cX5_missing 12 = .ok (.ifCond .ne 5, 3) := by decide +kernel
theorem dX5_missing_15 : decode cX5_missing 15 = .ok (.iconst 0, 1) := by decide +kernel
theorem dX5_missing_16 : decode cX5_missing 16 = .ok (.ireturn, 1) := by decide +kernel
theorem dX5_missing_17 : decode cX5_missing 17 = .ok (.aload_n 0, 1) := by decide +kernel
theorem dX5_missing_18 : decode cX5_missing 18 = .ok (.iload_n 1, 1) := by decide +kernel
theorem dX5_missing_19 : decode cX5_missing 19 = .ok (.invokevirtual 109, 3) := by decide +kernel
theorem dX5_missing_22 : decode cX5_missing 22 = .ok (.aload_n 0, 1) := by decide +kernel
theorem dX5_missing_23 : decode cX5_missing 23 = .ok (.getfield 25, 3) := by decide +kernel
theorem dX5_missing_26 : decode cX5_missing 26 = .ok (.bipush 8, 2) := by decide +kernel
theorem dX5_missing_28 : decode cX5_missing 28 = .ok (.iload_n 1, 1) := by decide +kernel
theorem dX5_missing_29 : decode cX5_missing 29 = .ok (.imul, 1) := by decide +kernel
theorem dX5_missing_30 : decode cX5_missing 30 = .ok (.iload_n 2, 1) := by decide +kernel
theorem dX5_missing_31 : decode cX5_missing 31 = .ok (.iadd, 1) := by decide +kernel
theorem dX5_missing_32 : decode cX5_missing 32 = .ok (.iaload, 1) := by decide +kernel
theorem dX5_missing_33 : decode cX5_missing 33 = .ok (.aload_n 0, 1) := by decide +kernel
theorem dX5_missing_34 : decode cX5_missing 34 = .ok (.getfield 89, 3) := by decide +kernel
theorem dX5_missing_37 : decode cX5_missing 37 = .ok (.iconst (-1), 1) := by decide +kernel
theorem dX5_missing_38 : decode cX5_missing 38 = .ok (.ixor, 1) := by decide +kernel
theorem dX5_missing_39 : decode cX5_missing 39 = .ok (.iand, 1) := by decide +kernel
theorem dX5_missing_40 : decode cX5_missing 40 = .ok (.invokestatic 120, 3) := by decide +kernel
theorem dX5_missing_43 : decode cX5_missing 43 = .ok (.ireturn, 1) := by decide +kernel
theorem dX5_share_0 : decode cX5_share 0 = .ok (.aload_n 0, 1) := by decide +kernel
theorem dX5_share_1 : decode cX5_share 1 = .ok (.aload_n 0, 1) := by decide +kernel
theorem dX5_share_2 : decode cX5_share 2 = .ok (.iload_n 1, 1) := by decide +kernel
theorem dX5_share_3 : decode cX5_share 3 = .ok (.invokevirtual 78, 3) := by decide +kernel
theorem dX5_share_6 : decode cX5_share 6 = .ok (.iconst 1, 1) := by decide +kernel
theorem dX5_share_7 : decode cX5_share 7 = .ok (.iconst 1, 1) := by decide +kernel
theorem dX5_share_8 : decode cX5_share 8 = .ok (.invokevirtual 123, 3) := by decide +kernel
theorem dX5_share_11 : decode cX5_share 11 = .ok (.ifCond .eq 12, 3) := by decide +kernel
theorem dX5_share_14 : decode cX5_share 14 = .ok (.aload_n 0, 1) := by decide +kernel
theorem dX5_share_15 : decode cX5_share 15 = .ok (.getfield 7, 3) := by decide +kernel
theorem dX5_share_18 : decode cX5_share 18 = .ok (.iload_n 1, 1) := by decide +kernel
theorem dX5_share_19 : decode cX5_share 19 = .ok (.iaload, 1) := by decide +kernel
theorem dX5_share_20 : decode cX5_share 20 = .ok (.ifCond .ne 5, 3) := by decide +kernel
theorem dX5_share_23 : decode cX5_share 23 = .ok (.fconst 0, 1) := by decide +kernel
theorem dX5_share_24 : decode cX5_share 24 = .ok (.freturn, 1) := by decide +kernel
theorem dX5_share_25 : decode cX5_share 25 = .ok (.aload_n 0, 1) := by decide +kernel
theorem dX5_share_26 : decode cX5_share 26 = .ok (.iload_n 1, 1) := by decide +kernel
theorem dX5_share_27 : decode cX5_share 27 = .ok (.invokevirtual 109, 3) := by decide +kernel
theorem dX5_share_30 : decode cX5_share 30 = .ok (.aload_n 0, 1) := by decide +kernel
theorem dX5_share_31 : decode cX5_share 31 = .ok (.getfield 89, 3) := by decide +kernel
theorem dX5_share_34 : decode cX5_share 34 = .ok (.invokestatic 120, 3) := by decide +kernel
theorem dX5_share_37 : decode cX5_share 37 = .ok (.i2f, 1) := by decide +kernel
theorem dX5_share_38 : decode cX5_share 38 = .ok (.aload_n 0, 1) := by decide +kernel
theorem dX5_share_39 : decode cX5_share 39 = .ok (.getfield 7, 3) := by decide +kernel
theorem dX5_share_42 : decode cX5_share 42 = .ok (.iload_n 1, 1) := by decide +kernel
theorem dX5_share_43 : decode cX5_share 43 = .ok (.iaload, 1) := by decide +kernel
theorem dX5_share_44 : decode cX5_share 44 = .ok (.i2f, 1) := by decide +kernel
theorem dX5_share_45 : decode cX5_share 45 = .ok (.fdiv, 1) := by decide +kernel
theorem dX5_share_46 : decode cX5_share 46 = .ok (.freturn, 1) := by decide +kernel
theorem dX5_reach_0 : decode cX5_reach 0 = .ok (.iload_n 2, 1) := by decide +kernel
theorem dX5_reach_1 : decode cX5_reach 1 = .ok (.istore_n 3, 1) := by decide +kernel
theorem dX5_reach_2 : decode cX5_reach 2 = .ok (.aload_n 0, 1) := by decide +kernel
theorem dX5_reach_3 : decode cX5_reach 3 = .ok (.getfield 7, 3) := by decide +kernel
theorem dX5_reach_6 : decode cX5_reach 6 = .ok (.iload_n 1, 1) := by decide +kernel
theorem dX5_reach_7 : decode cX5_reach 7 = .ok (.iaload, 1) := by decide +kernel
theorem dX5_reach_8 : decode cX5_reach 8 = .ok (.iconst 1, 1) := by decide +kernel
theorem dX5_reach_9 : decode cX5_reach 9 = .ok (.isub, 1) := by decide +kernel
theorem dX5_reach_10 : decode cX5_reach 10 = .ok (.istore 4, 2) := by decide +kernel
theorem dX5_reach_12 : decode cX5_reach 12 = .ok (.iload 4, 2) := by decide +kernel
theorem dX5_reach_14 : decode cX5_reach 14 = .ok (.ifCond .lt 37, 3) := by decide +kernel
theorem dX5_reach_17 : decode cX5_reach 17 = .ok (.iload_n 3, 1) := by decide +kernel
theorem dX5_reach_18 : decode cX5_reach 18 = .ok (.iload_n 3, 1) := by decide +kernel
theorem dX5_reach_19 : decode cX5_reach 19 = .ok (.iload 4, 2) := by decide +kernel
theorem dX5_reach_21 : decode cX5_reach 21 = .ok (.invokestatic 85, 3) := by decide +kernel
theorem dX5_reach_24 : decode cX5_reach 24 = .ok (.ifCond .eq 18, 3) := by decide +kernel
theorem dX5_reach_27 : decode cX5_reach 27 = .ok (.aload_n 0, 1) := by decide +kernel
theorem dX5_reach_28 : decode cX5_reach 28 = .ok (.getfield 25, 3) := by decide +kernel
theorem dX5_reach_31 : decode cX5_reach 31 = .ok (.bipush 8, 2) := by decide +kernel
theorem dX5_reach_33 : decode cX5_reach 33 = .ok (.iload_n 1, 1) := by decide +kernel
theorem dX5_reach_34 : decode cX5_reach 34 = .ok (.imul, 1) := by decide +kernel
theorem dX5_reach_35 : decode cX5_reach 35 = .ok (.iload 4, 2) := by decide +kernel
theorem dX5_reach_37 : decode cX5_reach 37 = .ok (.iadd, 1) := by decide +kernel
theorem dX5_reach_38 : decode cX5_reach 38 = .ok (.iaload, 1) := by decide +kernel
theorem dX5_reach_39 : decode cX5_reach 39 = .ok (.goto 4, 3) := by decide +kernel
theorem dX5_reach_42 : decode cX5_reach 42 = .ok (.iconst 0, 1) := by decide +kernel
theorem dX5_reach_43 : decode cX5_reach 43 = .ok (.ior, 1) := by decide +kernel
theorem dX5_reach_44 : decode cX5_reach 44 = .ok (.istore_n 3, 1) := by decide +kernel
theorem dX5_reach_45 : decode cX5_reach 45 = .ok (.iinc 4 (-1), 3) := by decide +kernel
theorem dX5_reach_48 : decode cX5_reach 48 = .ok (.goto (-36), 3) := by decide +kernel
theorem dX5_reach_51 : decode cX5_reach 51 = .ok (.iload_n 3, 1) := by decide +kernel
theorem dX5_reach_52 : decode cX5_reach 52 = .ok (.ireturn, 1) := by decide +kernel
theorem dX5_ahead_0 : decode cX5_ahead 0 = .ok (.aload_n 0, 1) := by decide +kernel
theorem dX5_ahead_1 : decode cX5_ahead 1 = .ok (.aload_n 0, 1) := by decide +kernel
theorem dX5_ahead_2 : decode cX5_ahead 2 = .ok (.iload_n 1, 1) := by decide +kernel
theorem dX5_ahead_3 : decode cX5_ahead 3 = .ok (.iload_n 2, 1) := by decide +kernel
theorem dX5_ahead_4 : decode cX5_ahead 4 = .ok (.invokevirtual 147, 3) := by decide +kernel
theorem dX5_ahead_7 : decode cX5_ahead 7 = .ok (.iconst 1, 1) := by decide +kernel
theorem dX5_ahead_8 : decode cX5_ahead 8 = .ok (.iconst 1, 1) := by decide +kernel
theorem dX5_ahead_9 : decode cX5_ahead 9 = .ok (.invokevirtual 123, 3) := by decide +kernel
theorem dX5_ahead_12 : decode cX5_ahead 12 = .ok (.ifCond .eq 19, 3) := by decide +kernel
theorem dX5_ahead_15 : decode cX5_ahead 15 = .ok (.aload_n 0, 1) := by decide +kernel
theorem dX5_ahead_16 : decode cX5_ahead 16 = .ok (.iload_n 1, 1) := by decide +kernel
theorem dX5_ahead_17 : decode cX5_ahead 17 = .ok (.iconst 1, 1) := by decide +kernel
theorem dX5_ahead_18 : decode cX5_ahead 18 = .ok (.iload_n 2, 1) := by decide +kernel
theorem dX5_ahead_19 : decode cX5_ahead 19 = .ok (.ishl, 1) := by decide +kernel
theorem dX5_ahead_20 : decode cX5_ahead 20 = .ok (.invokevirtual 169, 3) := by decide +kernel
theorem dX5_ahead_23 : decode cX5_ahead 23 = .ok (.invokestatic 120, 3) := by decide +kernel
theorem dX5_ahead_26 : decode cX5_ahead 26 = .ok (.iconst 1, 1) := by decide +kernel
theorem dX5_ahead_27 : decode cX5_ahead 27 = .ok (.isub, 1) := by decide +kernel
theorem dX5_ahead_28 : decode cX5_ahead 28 = .ok (.goto 4, 3) := by decide +kernel
theorem dX5_ahead_31 : decode cX5_ahead 31 = .ok (.iconst 0, 1) := by decide +kernel
theorem dX5_ahead_32 : decode cX5_ahead 32 = .ok (.ireturn, 1) := by decide +kernel
theorem dX5_roundOf_0 : decode cX5_roundOf 0 = .ok (.aload_n 0, 1) := by decide +kernel
theorem dX5_roundOf_1 : decode cX5_roundOf 1 = .ok (.aload_n 0, 1) := by decide +kernel
theorem dX5_roundOf_2 : decode cX5_roundOf 2 = .ok (.iload_n 1, 1) := by decide +kernel
theorem dX5_roundOf_3 : decode cX5_roundOf 3 = .ok (.iload_n 2, 1) := by decide +kernel
theorem dX5_roundOf_4 : decode cX5_roundOf 4 = .ok (.invokevirtual 147, 3) := by decide +kernel
theorem dX5_roundOf_7 : decode cX5_roundOf 7 = .ok (.iconst 1, 1) := by decide +kernel
theorem dX5_roundOf_8 : decode cX5_roundOf 8 = .ok (.iconst 1, 1) := by decide +kernel
theorem dX5_roundOf_9 : decode cX5_roundOf 9 = .ok (.invokevirtual 123, 3) := by decide +kernel
theorem dX5_roundOf_12 : decode cX5_roundOf 12 = .ok (.ifCond .ne 5, 3) := by decide +kernel
theorem dX5_roundOf_15 : decode cX5_roundOf 15 = .ok (.iconst 0, 1) := by decide +kernel
theorem dX5_roundOf_16 : decode cX5_roundOf 16 = .ok (.ireturn, 1) := by decide +kernel
theorem dX5_roundOf_17 : decode cX5_roundOf 17 = .ok (.aload_n 0, 1) := by decide +kernel
theorem dX5_roundOf_18 : decode cX5_roundOf 18 = .ok (.getfield 25, 3) := by decide +kernel
theorem dX5_roundOf_21 : decode cX5_roundOf 21 = .ok (.bipush 8, 2) := by decide +kernel
theorem dX5_roundOf_23 : decode cX5_roundOf 23 = .ok (.iload_n 1, 1) := by decide +kernel
theorem dX5_roundOf_24 : decode cX5_roundOf 24 = .ok (.imul, 1) := by decide +kernel
theorem dX5_roundOf_25 : decode cX5_roundOf 25 = .ok (.iload_n 2, 1) := by decide +kernel
theorem dX5_roundOf_26 : decode cX5_roundOf 26 = .ok (.iadd, 1) := by decide +kernel
theorem dX5_roundOf_27 : decode cX5_roundOf 27 = .ok (.iaload, 1) := by decide +kernel
theorem dX5_roundOf_28 : decode cX5_roundOf 28 = .ok (.istore_n 3, 1) := by decide +kernel
theorem dX5_roundOf_29 : decode cX5_roundOf 29 = .ok (.iconst 0, 1) := by decide +kernel
theorem dX5_roundOf_30 : decode cX5_roundOf 30 = .ok (.istore 4, 2) := by decide +kernel
theorem dX5_roundOf_32 : decode cX5_roundOf 32 = .ok (.iload_n 3, 1) := by decide +kernel
theorem dX5_roundOf_33 : decode cX5_roundOf 33 = .ok (.ifCond .eq 61, 3) := by decide +kernel
theorem dX5_roundOf_36 : decode cX5_roundOf 36 = .ok (.iconst 0, 1) := by decide +kernel
theorem dX5_roundOf_37 : decode cX5_roundOf 37 = .ok (.istore 5, 2) := by decide +kernel
theorem dX5_roundOf_39 : decode cX5_roundOf 39 = .ok (.iconst 0, 1) := by decide +kernel
theorem dX5_roundOf_40 : decode cX5_roundOf 40 = .ok (.istore 6, 2) := by decide +kernel
theorem dX5_roundOf_42 : decode cX5_roundOf 42 = .ok (.iload 6, 2) := by decide +kernel
theorem dX5_roundOf_44 : decode cX5_roundOf 44 = .ok (.bipush 8, 2) := by decide +kernel
theorem dX5_roundOf_46 : decode cX5_roundOf 46 = .ok (.if_icmp .ge 39, 3) := by decide +kernel
theorem dX5_roundOf_49 : decode cX5_roundOf 49 = .ok (.iload 5, 2) := by decide +kernel
theorem dX5_roundOf_51 : decode cX5_roundOf 51 = .ok (.iload_n 3, 1) := by decide +kernel
theorem dX5_roundOf_52 : decode cX5_roundOf 52 = .ok (.iload 6, 2) := by decide +kernel
theorem dX5_roundOf_54 : decode cX5_roundOf 54 = .ok (.invokestatic 85, 3) := by decide +kernel
theorem dX5_roundOf_57 : decode cX5_roundOf 57 = .ok (.ifCond .eq 18, 3) := by decide +kernel
theorem dX5_roundOf_60 : decode cX5_roundOf 60 = .ok (.aload_n 0, 1) := by decide +kernel
theorem dX5_roundOf_61 : decode cX5_roundOf 61 = .ok (.getfield 25, 3) := by decide +kernel
theorem dX5_roundOf_64 : decode cX5_roundOf 64 = .ok (.bipush 8, 2) := by decide +kernel
theorem dX5_roundOf_66 : decode cX5_roundOf 66 = .ok (.iload_n 1, 1) := by decide +kernel
theorem dX5_roundOf_67 : decode cX5_roundOf 67 = .ok (.imul, 1) := by decide +kernel
theorem dX5_roundOf_68 : decode cX5_roundOf 68 = .ok (.iload 6, 2) := by decide +kernel
theorem dX5_roundOf_70 : decode cX5_roundOf 70 = .ok (.iadd, 1) := by decide +kernel
theorem dX5_roundOf_71 : decode cX5_roundOf 71 = .ok (.iaload, 1) := by decide +kernel
theorem dX5_roundOf_72 : decode cX5_roundOf 72 = .ok (.goto 4, 3) := by decide +kernel
theorem dX5_roundOf_75 : decode cX5_roundOf 75 = .ok (.iconst 0, 1) := by decide +kernel
theorem dX5_roundOf_76 : decode cX5_roundOf 76 = .ok (.ior, 1) := by decide +kernel
theorem dX5_roundOf_77 : decode cX5_roundOf 77 = .ok (.istore 5, 2) := by decide +kernel
theorem dX5_roundOf_79 : decode cX5_roundOf 79 = .ok (.iinc 6 1, 3) := by decide +kernel
theorem dX5_roundOf_82 : decode cX5_roundOf 82 = .ok (.goto (-40), 3) := by decide +kernel
theorem dX5_roundOf_85 : decode cX5_roundOf 85 = .ok (.iload 5, 2) := by decide +kernel
theorem dX5_roundOf_87 : decode cX5_roundOf 87 = .ok (.istore_n 3, 1) := by decide +kernel
theorem dX5_roundOf_88 : decode cX5_roundOf 88 = .ok (.iinc 4 1, 3) := by decide +kernel
theorem dX5_roundOf_91 : decode cX5_roundOf 91 = .ok (.goto (-59), 3) := by decide +kernel
theorem dX5_roundOf_94 : decode cX5_roundOf 94 = .ok (.iload 4, 2) := by decide +kernel
theorem dX5_roundOf_96 : decode cX5_roundOf 96 = .ok (.ireturn, 1) := by decide +kernel
theorem dX5_countsFrom_0 : decode cX5_countsFrom 0 = .ok (.iconst 0, 1) := by decide +kernel
theorem dX5_countsFrom_1 : decode cX5_countsFrom 1 = .ok (.istore_n 3, 1) := by decide +kernel
theorem dX5_countsFrom_2 : decode cX5_countsFrom 2 = .ok (.iload_n 3, 1) := by decide +kernel
theorem dX5_countsFrom_3 : decode cX5_countsFrom 3 = .ok (.sipush 256, 3) := by decide +kernel
theorem dX5_countsFrom_6 : decode cX5_countsFrom 6 = .ok (.if_icmp .ge 25, 3) := by decide +kernel
theorem dX5_countsFrom_9 : decode cX5_countsFrom 9 = .ok (.aload_n 0, 1) := by decide +kernel
theorem dX5_countsFrom_10 : decode cX5_countsFrom 10 = .ok (.getfield 64, 3) := by decide +kernel
theorem dX5_countsFrom_13 : decode cX5_countsFrom 13 = .ok (.iload_n 3, 1) := by decide +kernel
theorem dX5_countsFrom_14 : decode cX5_countsFrom 14 = .ok (.iload_n 3, 1) := by decide +kernel
theorem dX5_countsFrom_15 : decode cX5_countsFrom 15 = .ok (.iload_n 2, 1) := by decide +kernel
theorem dX5_countsFrom_16 : decode cX5_countsFrom 16 = .ok (.if_icmp .ne 7, 3) := by decide +kernel
theorem dX5_countsFrom_19 : decode cX5_countsFrom 19 = .ok (.iconst 1, 1) := by decide +kernel
theorem dX5_countsFrom_20 : decode cX5_countsFrom 20 = .ok (.goto 4, 3) := by decide +kernel
theorem dX5_countsFrom_23 : decode cX5_countsFrom 23 = .ok (.iconst 0, 1) := by decide +kernel
theorem dX5_countsFrom_24 : decode cX5_countsFrom 24 = .ok (.iastore, 1) := by decide +kernel
theorem dX5_countsFrom_25 : decode cX5_countsFrom 25 = .ok (.iinc 3 1, 3) := by decide +kernel
theorem dX5_countsFrom_28 : decode cX5_countsFrom 28 = .ok (.goto (-26), 3) := by decide +kernel
theorem dX5_countsFrom_31 : decode cX5_countsFrom 31 = .ok (.iconst 0, 1) := by decide +kernel
theorem dX5_countsFrom_32 : decode cX5_countsFrom 32 = .ok (.istore_n 3, 1) := by decide +kernel
theorem dX5_countsFrom_33 : decode cX5_countsFrom 33 = .ok (.iload_n 3, 1) := by decide +kernel
theorem dX5_countsFrom_34 : decode cX5_countsFrom 34 = .ok (.sipush 256, 3) := by decide +kernel
theorem dX5_countsFrom_37 : decode cX5_countsFrom 37 = .ok (.if_icmp .ge 102, 3) := by decide +kernel
theorem dX5_countsFrom_40 : decode cX5_countsFrom 40 = .ok (.iconst 0, 1) := by decide +kernel
theorem dX5_countsFrom_41 : decode cX5_countsFrom 41 = .ok (.istore 4, 2) := by decide +kernel
theorem dX5_countsFrom_43 : decode cX5_countsFrom 43 = .ok (.iload 4, 2) := by decide +kernel
theorem dX5_countsFrom_45 : decode cX5_countsFrom 45 = .ok (.aload_n 0, 1) := by decide +kernel
theorem dX5_countsFrom_46 : decode cX5_countsFrom 46 = .ok (.getfield 7, 3) := by decide +kernel
theorem dX5_countsFrom_49 : decode cX5_countsFrom 49 = .ok (.iload_n 1, 1) := by decide +kernel
theorem dX5_countsFrom_50 : decode cX5_countsFrom 50 = .ok (.iaload, 1) := by decide +kernel
theorem dX5_countsFrom_51 : decode cX5_countsFrom 51 = .ok (.if_icmp .ge 82, 3) := by decide +kernel
theorem dX5_countsFrom_54 : decode cX5_countsFrom 54 = .ok (.iload_n 3, 1) := by decide +kernel
theorem dX5_countsFrom_55 : decode cX5_countsFrom 55 = .ok (.iload 4, 2) := by decide +kernel
theorem dX5_countsFrom_57 : decode cX5_countsFrom 57 = .ok (.invokestatic 85, 3) := by decide +kernel
theorem dX5_countsFrom_60 : decode cX5_countsFrom 60 = .ok (.ifCond .ne 26, 3) := by decide +kernel
theorem dX5_countsFrom_63 : decode cX5_countsFrom 63 = .ok (.aload_n 0, 1) := by decide +kernel
theorem dX5_countsFrom_64 : decode cX5_countsFrom 64 = .ok (.getfield 25, 3) := by decide +kernel
theorem dX5_countsFrom_67 : decode cX5_countsFrom 67 = .ok (.bipush 8, 2) := by decide +kernel
theorem dX5_countsFrom_69 : decode cX5_countsFrom 69 = .ok (.iload_n 1, 1) := by decide +kernel
theorem dX5_countsFrom_70 : decode cX5_countsFrom 70 = .ok (.imul, 1) := by decide +kernel
theorem dX5_countsFrom_71 : decode cX5_countsFrom 71 = .ok (.iload 4, 2) := by decide +kernel
theorem dX5_countsFrom_73 : decode cX5_countsFrom 73 = .ok (.iadd, 1) := by decide +kernel
theorem dX5_countsFrom_74 : decode cX5_countsFrom 74 = .ok (.iaload, 1) := by decide +kernel
theorem dX5_countsFrom_75 : decode cX5_countsFrom 75 = .ok (.iload_n 3, 1) := by decide +kernel
theorem dX5_countsFrom_76 : decode cX5_countsFrom 76 = .ok (.iconst (-1), 1) := by decide +kernel
theorem dX5_countsFrom_77 : decode cX5_countsFrom 77 = .ok (.ixor, 1) := by decide +kernel
theorem dX5_countsFrom_78 : decode cX5_countsFrom 78 = .ok (.iand, 1) := by decide +kernel
theorem dX5_countsFrom_79 : decode cX5_countsFrom 79 = .ok (.ifCond .ne 7, 3) := by decide +kernel
theorem dX5_countsFrom_82 : decode cX5_countsFrom 82 = .ok (.iconst 1, 1) := by decide +kernel
theorem dX5_countsFrom_83 : decode cX5_countsFrom 83 = .ok (.goto 4, 3) := by decide +kernel
theorem dX5_countsFrom_86 : decode cX5_countsFrom 86 = .ok (.iconst 0, 1) := by decide +kernel
theorem dX5_countsFrom_87 : decode cX5_countsFrom 87 = .ok (.istore 5, 2) := by decide +kernel
theorem dX5_countsFrom_89 : decode cX5_countsFrom 89 = .ok (.aload_n 0, 1) := by decide +kernel
theorem dX5_countsFrom_90 : decode cX5_countsFrom 90 = .ok (.getfield 64, 3) := by decide +kernel
theorem dX5_countsFrom_93 : decode cX5_countsFrom 93 = .ok (.iload 5, 2) := by decide +kernel
theorem dX5_countsFrom_95 : decode cX5_countsFrom 95 = .ok (.ifCond .eq 12, 3) := by decide +kernel
theorem dX5_countsFrom_98 : decode cX5_countsFrom 98 = .ok (.iload_n 3, 1) := by decide +kernel
theorem dX5_countsFrom_99 : decode cX5_countsFrom 99 = .ok (.iconst 1, 1) := by decide +kernel
theorem dX5_countsFrom_100 : decode cX5_countsFrom 100 = .ok (.iload 4, 2) := by decide +kernel
theorem dX5_countsFrom_102 : decode cX5_countsFrom 102 = .ok (.ishl, 1) := by decide +kernel
theorem dX5_countsFrom_103 : decode cX5_countsFrom 103 = .ok (.ior, 1) := by decide +kernel
theorem dX5_countsFrom_104 : decode cX5_countsFrom 104 = .ok (.goto 4, 3) := by decide +kernel
theorem dX5_countsFrom_107 : decode cX5_countsFrom 107 = .ok (.iload_n 3, 1) := by decide +kernel
theorem dX5_countsFrom_108 : decode cX5_countsFrom 108 = .ok (.dup2, 1) := by decide +kernel
theorem dX5_countsFrom_109 : decode cX5_countsFrom 109 = .ok (.iaload, 1) := by decide +kernel
theorem dX5_countsFrom_110 : decode cX5_countsFrom 110 = .ok (.iload 5, 2) := by decide +kernel
theorem dX5_countsFrom_112 : decode cX5_countsFrom 112 = .ok (.ifCond .eq 12, 3) := by decide +kernel
theorem dX5_countsFrom_115 : decode cX5_countsFrom 115 = .ok (.aload_n 0, 1) := by decide +kernel
theorem dX5_countsFrom_116 : decode cX5_countsFrom 116 = .ok (.getfield 64, 3) := by decide +kernel
theorem dX5_countsFrom_119 : decode cX5_countsFrom 119 = .ok (.iload_n 3, 1) := by decide +kernel
theorem dX5_countsFrom_120 : decode cX5_countsFrom 120 = .ok (.iaload, 1) := by decide +kernel
theorem dX5_countsFrom_121 : decode cX5_countsFrom 121 = .ok (.goto 4, 3) := by decide +kernel
theorem dX5_countsFrom_124 : decode cX5_countsFrom 124 = .ok (.iconst 0, 1) := by decide +kernel
theorem dX5_countsFrom_125 : decode cX5_countsFrom 125 = .ok (.iadd, 1) := by decide +kernel
theorem dX5_countsFrom_126 : decode cX5_countsFrom 126 = .ok (.iastore, 1) := by decide +kernel
theorem dX5_countsFrom_127 : decode cX5_countsFrom 127 = .ok (.iinc 4 1, 3) := by decide +kernel
theorem dX5_countsFrom_130 : decode cX5_countsFrom 130 = .ok (.goto (-87), 3) := by decide +kernel
theorem dX5_countsFrom_133 : decode cX5_countsFrom 133 = .ok (.iinc 3 1, 3) := by decide +kernel
theorem dX5_countsFrom_136 : decode cX5_countsFrom 136 = .ok (.goto (-103), 3) := by decide +kernel
theorem dX5_countsFrom_139 : decode cX5_countsFrom 139 = .ok (.aload_n 0, 1) := by decide +kernel
theorem dX5_countsFrom_140 : decode cX5_countsFrom 140 = .ok (.getfield 64, 3) := by decide +kernel
theorem dX5_countsFrom_143 : decode cX5_countsFrom 143 = .ok (.aload_n 0, 1) := by decide +kernel
theorem dX5_countsFrom_144 : decode cX5_countsFrom 144 = .ok (.iload_n 1, 1) := by decide +kernel
theorem dX5_countsFrom_145 : decode cX5_countsFrom 145 = .ok (.invokevirtual 99, 3) := by decide +kernel
theorem dX5_countsFrom_148 : decode cX5_countsFrom 148 = .ok (.iaload, 1) := by decide +kernel
theorem dX5_countsFrom_149 : decode cX5_countsFrom 149 = .ok (.ireturn, 1) := by decide +kernel
theorem dX5_orders_0 : decode cX5_orders 0 = .ok (.aload_n 0, 1) := by decide +kernel
theorem dX5_orders_1 : decode cX5_orders 1 = .ok (.aload_n 0, 1) := by decide +kernel
theorem dX5_orders_2 : decode cX5_orders 2 = .ok (.iload_n 1, 1) := by decide +kernel
theorem dX5_orders_3 : decode cX5_orders 3 = .ok (.invokevirtual 78, 3) := by decide +kernel
theorem dX5_orders_6 : decode cX5_orders 6 = .ok (.iconst 1, 1) := by decide +kernel
theorem dX5_orders_7 : decode cX5_orders 7 = .ok (.iconst 1, 1) := by decide +kernel
theorem dX5_orders_8 : decode cX5_orders 8 = .ok (.invokevirtual 123, 3) := by decide +kernel
theorem dX5_orders_11 : decode cX5_orders 11 = .ok (.ifCond .eq 12, 3) := by decide +kernel
theorem dX5_orders_14 : decode cX5_orders 14 = .ok (.aload_n 0, 1) := by decide +kernel
theorem dX5_orders_15 : decode cX5_orders 15 = .ok (.iload_n 1, 1) := by decide +kernel
theorem dX5_orders_16 : decode cX5_orders 16 = .ok (.iconst 0, 1) := by decide +kernel
theorem dX5_orders_17 : decode cX5_orders 17 = .ok (.invokevirtual 173, 3) := by decide +kernel
theorem dX5_orders_20 : decode cX5_orders 20 = .ok (.goto 4, 3) := by decide +kernel
theorem dX5_orders_23 : decode cX5_orders 23 = .ok (.iconst 0, 1) := by decide +kernel
theorem dX5_orders_24 : decode cX5_orders 24 = .ok (.ireturn, 1) := by decide +kernel
theorem dX5_ordersByAll_0 : decode cX5_ordersByAll 0 = .ok (.aload_n 0, 1) := by decide +kernel
theorem dX5_ordersByAll_1 : decode cX5_ordersByAll 1 = .ok (.iload_n 1, 1) := by decide +kernel
theorem dX5_ordersByAll_2 : decode cX5_ordersByAll 2 = .ok (.invokevirtual 176, 3) := by decide +kernel
theorem dX5_ordersByAll_5 : decode cX5_ordersByAll 5 = .ok (.ireturn, 1) := by decide +kernel
theorem dX5_ordersLeft_0 : decode cX5_ordersLeft 0 = .ok (.aload_n 0, 1) := by decide +kernel
theorem dX5_ordersLeft_1 : decode cX5_ordersLeft 1 = .ok (.aload_n 0, 1) := by decide +kernel
theorem dX5_ordersLeft_2 : decode cX5_ordersLeft 2 = .ok (.iload_n 1, 1) := by decide +kernel
theorem dX5_ordersLeft_3 : decode cX5_ordersLeft 3 = .ok (.invokevirtual 78, 3) := by decide +kernel
theorem dX5_ordersLeft_6 : decode cX5_ordersLeft 6 = .ok (.iconst 1, 1) := by decide +kernel
theorem dX5_ordersLeft_7 : decode cX5_ordersLeft 7 = .ok (.iconst 1, 1) := by decide +kernel
theorem dX5_ordersLeft_8 : decode cX5_ordersLeft 8 = .ok (.invokevirtual 123, 3) := by decide +kernel
theorem dX5_ordersLeft_11 : decode cX5_ordersLeft 11 = .ok (.ifCond .ne 5, 3) := by decide +kernel
theorem dX5_ordersLeft_14 : decode cX5_ordersLeft 14 = .ok (.iconst 0, 1) := by decide +kernel
theorem dX5_ordersLeft_15 : decode cX5_ordersLeft 15 = .ok (.ireturn, 1) := by decide +kernel
theorem dX5_ordersLeft_16 : decode cX5_ordersLeft 16 = .ok (.aload_n 0, 1) := by decide +kernel
theorem dX5_ordersLeft_17 : decode cX5_ordersLeft 17 = .ok (.iload_n 1, 1) := by decide +kernel
theorem dX5_ordersLeft_18 : decode cX5_ordersLeft 18 = .ok (.invokevirtual 109, 3) := by decide +kernel
theorem dX5_ordersLeft_21 : decode cX5_ordersLeft 21 = .ok (.aload_n 0, 1) := by decide +kernel
theorem dX5_ordersLeft_22 : decode cX5_ordersLeft 22 = .ok (.iload_n 1, 1) := by decide +kernel
theorem dX5_ordersLeft_23 : decode cX5_ordersLeft 23 = .ok (.aload_n 0, 1) := by decide +kernel
theorem dX5_ordersLeft_24 : decode cX5_ordersLeft 24 = .ok (.getfield 89, 3) := by decide +kernel
theorem dX5_ordersLeft_27 : decode cX5_ordersLeft 27 = .ok (.invokevirtual 173, 3) := by decide +kernel
theorem dX5_ordersLeft_30 : decode cX5_ordersLeft 30 = .ok (.ireturn, 1) := by decide +kernel
theorem dX5_events_0 : decode cX5_events 0 = .ok (.aload_n 0, 1) := by decide +kernel
theorem dX5_events_1 : decode cX5_events 1 = .ok (.aload_n 0, 1) := by decide +kernel
theorem dX5_events_2 : decode cX5_events 2 = .ok (.iload_n 1, 1) := by decide +kernel
theorem dX5_events_3 : decode cX5_events 3 = .ok (.invokevirtual 78, 3) := by decide +kernel
theorem dX5_events_6 : decode cX5_events 6 = .ok (.iconst 1, 1) := by decide +kernel
theorem dX5_events_7 : decode cX5_events 7 = .ok (.iconst 1, 1) := by decide +kernel
theorem dX5_events_8 : decode cX5_events 8 = .ok (.invokevirtual 123, 3) := by decide +kernel
theorem dX5_events_11 : decode cX5_events 11 = .ok (.ifCond .eq 12, 3) := by decide +kernel
theorem dX5_events_14 : decode cX5_events 14 = .ok (.aload_n 0, 1) := by decide +kernel
theorem dX5_events_15 : decode cX5_events 15 = .ok (.getfield 19, 3) := by decide +kernel
theorem dX5_events_18 : decode cX5_events 18 = .ok (.iload_n 1, 1) := by decide +kernel
theorem dX5_events_19 : decode cX5_events 19 = .ok (.iaload, 1) := by decide +kernel
theorem dX5_events_20 : decode cX5_events 20 = .ok (.goto 4, 3) := by decide +kernel
theorem dX5_events_23 : decode cX5_events 23 = .ok (.iconst 0, 1) := by decide +kernel
theorem dX5_events_24 : decode cX5_events 24 = .ok (.ireturn, 1) := by decide +kernel
theorem dX5_kindOf_0 : decode cX5_kindOf 0 = .ok (.aload_n 0, 1) := by decide +kernel
theorem dX5_kindOf_1 : decode cX5_kindOf 1 = .ok (.aload_n 0, 1) := by decide +kernel
theorem dX5_kindOf_2 : decode cX5_kindOf 2 = .ok (.iload_n 1, 1) := by decide +kernel
theorem dX5_kindOf_3 : decode cX5_kindOf 3 = .ok (.iload_n 2, 1) := by decide +kernel
theorem dX5_kindOf_4 : decode cX5_kindOf 4 = .ok (.invokevirtual 179, 3) := by decide +kernel
theorem dX5_kindOf_7 : decode cX5_kindOf 7 = .ok (.iconst 1, 1) := by decide +kernel
theorem dX5_kindOf_8 : decode cX5_kindOf 8 = .ok (.iconst 1, 1) := by decide +kernel
theorem dX5_kindOf_9 : decode cX5_kindOf 9 = .ok (.invokevirtual 123, 3) := by decide +kernel
theorem dX5_kindOf_12 : decode cX5_kindOf 12 = .ok (.ifCond .eq 17, 3) := by decide +kernel
theorem dX5_kindOf_15 : decode cX5_kindOf 15 = .ok (.aload_n 0, 1) := by decide +kernel
theorem dX5_kindOf_16 : decode cX5_kindOf 16 = .ok (.getfield 28, 3) := by decide +kernel
theorem dX5_kindOf_19 : decode cX5_kindOf 19 = .ok (.bipush 50, 2) := by decide +kernel
theorem dX5_kindOf_21 : decode cX5_kindOf 21 = .ok (.iload_n 1, 1) := by decide +kernel
theorem dX5_kindOf_22 : decode cX5_kindOf 22 = .ok (.imul, 1) := by decide +kernel
theorem dX5_kindOf_23 : decode cX5_kindOf 23 = .ok (.iload_n 2, 1) := by decide +kernel
theorem dX5_kindOf_24 : decode cX5_kindOf 24 = .ok (.iadd, 1) := by decide +kernel
theorem dX5_kindOf_25 : decode cX5_kindOf 25 = .ok (.iaload, 1) := by decide +kernel
theorem dX5_kindOf_26 : decode cX5_kindOf 26 = .ok (.goto 4, 3) := by decide +kernel
theorem dX5_kindOf_29 : decode cX5_kindOf 29 = .ok (.iconst 0, 1) := by decide +kernel
theorem dX5_kindOf_30 : decode cX5_kindOf 30 = .ok (.ireturn, 1) := by decide +kernel
theorem dX5_personOf_0 : decode cX5_personOf 0 = .ok (.aload_n 0, 1) := by decide +kernel
theorem dX5_personOf_1 : decode cX5_personOf 1 = .ok (.aload_n 0, 1) := by decide +kernel
theorem dX5_personOf_2 : decode cX5_personOf 2 = .ok (.iload_n 1, 1) := by decide +kernel
theorem dX5_personOf_3 : decode cX5_personOf 3 = .ok (.iload_n 2, 1) := by decide +kernel
theorem dX5_personOf_4 : decode cX5_personOf 4 = .ok (.invokevirtual 179, 3) := by decide +kernel
theorem dX5_personOf_7 : decode cX5_personOf 7 = .ok (.iconst 1, 1) := by decide +kernel
theorem dX5_personOf_8 : decode cX5_personOf 8 = .ok (.iconst 1, 1) := by decide +kernel
theorem dX5_personOf_9 : decode cX5_personOf 9 = .ok (.invokevirtual 123, 3) := by decide +kernel
theorem dX5_personOf_12 : decode cX5_personOf 12 = .ok (.ifCond .eq 17, 3) := by decide +kernel
theorem dX5_personOf_15 : decode cX5_personOf 15 = .ok (.aload_n 0, 1) := by decide +kernel
theorem dX5_personOf_16 : decode cX5_personOf 16 = .ok (.getfield 31, 3) := by decide +kernel
theorem dX5_personOf_19 : decode cX5_personOf 19 = .ok (.bipush 50, 2) := by decide +kernel
theorem dX5_personOf_21 : decode cX5_personOf 21 = .ok (.iload_n 1, 1) := by decide +kernel
theorem dX5_personOf_22 : decode cX5_personOf 22 = .ok (.imul, 1) := by decide +kernel
theorem dX5_personOf_23 : decode cX5_personOf 23 = .ok (.iload_n 2, 1) := by decide +kernel
theorem dX5_personOf_24 : decode cX5_personOf 24 = .ok (.iadd, 1) := by decide +kernel
theorem dX5_personOf_25 : decode cX5_personOf 25 = .ok (.iaload, 1) := by decide +kernel
theorem dX5_personOf_26 : decode cX5_personOf 26 = .ok (.goto 4, 3) := by decide +kernel
theorem dX5_personOf_29 : decode cX5_personOf 29 = .ok (.iconst 0, 1) := by decide +kernel
theorem dX5_personOf_30 : decode cX5_personOf 30 = .ok (.ireturn, 1) := by decide +kernel
theorem dX5_dayOf_0 : decode cX5_dayOf 0 = .ok (.aload_n 0, 1) := by decide +kernel
theorem dX5_dayOf_1 : decode cX5_dayOf 1 = .ok (.aload_n 0, 1) := by decide +kernel
theorem dX5_dayOf_2 : decode cX5_dayOf 2 = .ok (.iload_n 1, 1) := by decide +kernel
theorem dX5_dayOf_3 : decode cX5_dayOf 3 = .ok (.iload_n 2, 1) := by decide +kernel
theorem dX5_dayOf_4 : decode cX5_dayOf 4 = .ok (.invokevirtual 179, 3) := by decide +kernel
theorem dX5_dayOf_7 : decode cX5_dayOf 7 = .ok (.iconst 1, 1) := by decide +kernel
theorem dX5_dayOf_8 : decode cX5_dayOf 8 = .ok (.iconst 1, 1) := by decide +kernel
theorem dX5_dayOf_9 : decode cX5_dayOf 9 = .ok (.invokevirtual 123, 3) := by decide +kernel
theorem dX5_dayOf_12 : decode cX5_dayOf 12 = .ok (.ifCond .eq 17, 3) := by decide +kernel
theorem dX5_dayOf_15 : decode cX5_dayOf 15 = .ok (.aload_n 0, 1) := by decide +kernel
theorem dX5_dayOf_16 : decode cX5_dayOf 16 = .ok (.getfield 37, 3) := by decide +kernel
theorem dX5_dayOf_19 : decode cX5_dayOf 19 = .ok (.bipush 50, 2) := by decide +kernel
theorem dX5_dayOf_21 : decode cX5_dayOf 21 = .ok (.iload_n 1, 1) := by decide +kernel
theorem dX5_dayOf_22 : decode cX5_dayOf 22 = .ok (.imul, 1) := by decide +kernel
theorem dX5_dayOf_23 : decode cX5_dayOf 23 = .ok (.iload_n 2, 1) := by decide +kernel
theorem dX5_dayOf_24 : decode cX5_dayOf 24 = .ok (.iadd, 1) := by decide +kernel
theorem dX5_dayOf_25 : decode cX5_dayOf 25 = .ok (.iaload, 1) := by decide +kernel
theorem dX5_dayOf_26 : decode cX5_dayOf 26 = .ok (.goto 4, 3) := by decide +kernel
theorem dX5_dayOf_29 : decode cX5_dayOf 29 = .ok (.iconst 0, 1) := by decide +kernel
theorem dX5_dayOf_30 : decode cX5_dayOf 30 = .ok (.ireturn, 1) := by decide +kernel
theorem dX5_seal_0 : decode cX5_seal 0 = .ok (.aload_n 0, 1) := by decide +kernel
theorem dX5_seal_1 : decode cX5_seal 1 = .ok (.aload_n 0, 1) := by decide +kernel
theorem dX5_seal_2 : decode cX5_seal 2 = .ok (.iload_n 1, 1) := by decide +kernel
theorem dX5_seal_3 : decode cX5_seal 3 = .ok (.iload_n 2, 1) := by decide +kernel
theorem dX5_seal_4 : decode cX5_seal 4 = .ok (.invokevirtual 182, 3) := by decide +kernel
theorem dX5_seal_7 : decode cX5_seal 7 = .ok (.iconst 1, 1) := by decide +kernel
theorem dX5_seal_8 : decode cX5_seal 8 = .ok (.iconst 1, 1) := by decide +kernel
theorem dX5_seal_9 : decode cX5_seal 9 = .ok (.invokevirtual 123, 3) := by decide +kernel
theorem dX5_seal_12 : decode cX5_seal 12 = .ok (.ifCond .ne 5, 3) := by decide +kernel
theorem dX5_seal_15 : decode cX5_seal 15 = .ok (.iconst 0, 1) := by decide +kernel
theorem dX5_seal_16 : decode cX5_seal 16 = .ok (.ireturn, 1) := by decide +kernel
theorem dX5_seal_17 : decode cX5_seal 17 = .ok (.iconst 1, 1) := by decide +kernel
theorem dX5_seal_18 : decode cX5_seal 18 = .ok (.istore_n 3, 1) := by decide +kernel
theorem dX5_seal_19 : decode cX5_seal 19 = .ok (.bipush 50, 2) := by decide +kernel
theorem dX5_seal_21 : decode cX5_seal 21 = .ok (.iload_n 1, 1) := by decide +kernel
theorem dX5_seal_22 : decode cX5_seal 22 = .ok (.imul, 1) := by decide +kernel
theorem dX5_seal_23 : decode cX5_seal 23 = .ok (.istore 4, 2) := by decide +kernel
theorem dX5_seal_25 : decode cX5_seal 25 = .ok (.iload 4, 2) := by decide +kernel
theorem dX5_seal_27 : decode cX5_seal 27 = .ok (.bipush 50, 2) := by decide +kernel
theorem dX5_seal_29 : decode cX5_seal 29 = .ok (.iload_n 1, 1) := by decide +kernel
theorem dX5_seal_30 : decode cX5_seal 30 = .ok (.imul, 1) := by decide +kernel
theorem dX5_seal_31 : decode cX5_seal 31 = .ok (.iload_n 2, 1) := by decide +kernel
theorem dX5_seal_32 : decode cX5_seal 32 = .ok (.iadd, 1) := by decide +kernel
theorem dX5_seal_33 : decode cX5_seal 33 = .ok (.if_icmp .ge 65, 3) := by decide +kernel
theorem dX5_seal_36 : decode cX5_seal 36 = .ok (.bipush 31, 2) := by decide +kernel
theorem dX5_seal_38 : decode cX5_seal 38 = .ok (.iload_n 3, 1) := by decide +kernel
theorem dX5_seal_39 : decode cX5_seal 39 = .ok (.imul, 1) := by decide +kernel
theorem dX5_seal_40 : decode cX5_seal 40 = .ok (.bipush 7, 2) := by decide +kernel
theorem dX5_seal_42 : decode cX5_seal 42 = .ok (.aload_n 0, 1) := by decide +kernel
theorem dX5_seal_43 : decode cX5_seal 43 = .ok (.getfield 28, 3) := by decide +kernel
theorem dX5_seal_46 : decode cX5_seal 46 = .ok (.iload 4, 2) := by decide +kernel
theorem dX5_seal_48 : decode cX5_seal 48 = .ok (.iaload, 1) := by decide +kernel
theorem dX5_seal_49 : decode cX5_seal 49 = .ok (.imul, 1) := by decide +kernel
theorem dX5_seal_50 : decode cX5_seal 50 = .ok (.iadd, 1) := by decide +kernel
theorem dX5_seal_51 : decode cX5_seal 51 = .ok (.bipush 11, 2) := by decide +kernel
theorem dX5_seal_53 : decode cX5_seal 53 = .ok (.aload_n 0, 1) := by decide +kernel
theorem dX5_seal_54 : decode cX5_seal 54 = .ok (.getfield 31, 3) := by decide +kernel
theorem dX5_seal_57 : decode cX5_seal 57 = .ok (.iload 4, 2) := by decide +kernel
theorem dX5_seal_59 : decode cX5_seal 59 = .ok (.iaload, 1) := by decide +kernel
theorem dX5_seal_60 : decode cX5_seal 60 = .ok (.iconst 1, 1) := by decide +kernel
theorem dX5_seal_61 : decode cX5_seal 61 = .ok (.iadd, 1) := by decide +kernel
theorem dX5_seal_62 : decode cX5_seal 62 = .ok (.imul, 1) := by decide +kernel
theorem dX5_seal_63 : decode cX5_seal 63 = .ok (.iadd, 1) := by decide +kernel
theorem dX5_seal_64 : decode cX5_seal 64 = .ok (.bipush 13, 2) := by decide +kernel
theorem dX5_seal_66 : decode cX5_seal 66 = .ok (.aload_n 0, 1) := by decide +kernel
theorem dX5_seal_67 : decode cX5_seal 67 = .ok (.getfield 34, 3) := by decide +kernel
theorem dX5_seal_70 : decode cX5_seal 70 = .ok (.iload 4, 2) := by decide +kernel
theorem dX5_seal_72 : decode cX5_seal 72 = .ok (.iaload, 1) := by decide +kernel
theorem dX5_seal_73 : decode cX5_seal 73 = .ok (.iconst 1, 1) := by decide +kernel
theorem dX5_seal_74 : decode cX5_seal 74 = .ok (.iadd, 1) := by decide +kernel
theorem dX5_seal_75 : decode cX5_seal 75 = .ok (.imul, 1) := by decide +kernel
theorem dX5_seal_76 : decode cX5_seal 76 = .ok (.iadd, 1) := by decide +kernel
theorem dX5_seal_77 : decode cX5_seal 77 = .ok (.bipush 17, 2) := by decide +kernel
theorem dX5_seal_79 : decode cX5_seal 79 = .ok (.aload_n 0, 1) := by decide +kernel
theorem dX5_seal_80 : decode cX5_seal 80 = .ok (.getfield 37, 3) := by decide +kernel
theorem dX5_seal_83 : decode cX5_seal 83 = .ok (.iload 4, 2) := by decide +kernel
theorem dX5_seal_85 : decode cX5_seal 85 = .ok (.iaload, 1) := by decide +kernel
theorem dX5_seal_86 : decode cX5_seal 86 = .ok (.imul, 1) := by decide +kernel
theorem dX5_seal_87 : decode cX5_seal 87 = .ok (.iadd, 1) := by decide +kernel
theorem dX5_seal_88 : decode cX5_seal 88 = .ok (.ldc 185, 2) := by decide +kernel
theorem dX5_seal_90 : decode cX5_seal 90 = .ok (.irem, 1) := by decide +kernel
theorem dX5_seal_91 : decode cX5_seal 91 = .ok (.istore_n 3, 1) := by decide +kernel
theorem dX5_seal_92 : decode cX5_seal 92 = .ok (.iinc 4 1, 3) := by decide +kernel
theorem dX5_seal_95 : decode cX5_seal 95 = .ok (.goto (-70), 3) := by decide +kernel
theorem dX5_seal_98 : decode cX5_seal 98 = .ok (.iload_n 3, 1) := by decide +kernel
theorem dX5_seal_99 : decode cX5_seal 99 = .ok (.ireturn, 1) := by decide +kernel
theorem dX5_stateBehind_0 : decode cX5_stateBehind 0 = .ok (.aload_n 0, 1) := by decide +kernel
theorem dX5_stateBehind_1 : decode cX5_stateBehind 1 = .ok (.aload_n 0, 1) := by decide +kernel
theorem dX5_stateBehind_2 : decode cX5_stateBehind 2 = .ok (.iload_n 1, 1) := by decide +kernel
theorem dX5_stateBehind_3 : decode cX5_stateBehind 3 = .ok (.iload_n 2, 1) := by decide +kernel
theorem dX5_stateBehind_4 : decode cX5_stateBehind 4 = .ok (.invokevirtual 182, 3) := by decide +kernel
theorem dX5_stateBehind_7 : decode cX5_stateBehind 7 = .ok (.iconst 1, 1) := by decide +kernel
theorem dX5_stateBehind_8 : decode cX5_stateBehind 8 = .ok (.iconst 1, 1) := by decide +kernel
theorem dX5_stateBehind_9 : decode cX5_stateBehind 9 = .ok (.invokevirtual 123, 3) := by decide +kernel
theorem dX5_stateBehind_12 : decode cX5_stateBehind 12 = .ok (.ifCond .ne 5, 3) := by decide +kernel
theorem dX5_stateBehind_15 : decode cX5_stateBehind 15 = .ok (.iconst 0, 1) := by decide +kernel
theorem dX5_stateBehind_16 : decode cX5_stateBehind 16 = .ok (.ireturn, 1) := by decide +kernel
theorem dX5_stateBehind_17 : decode cX5_stateBehind 17 = .ok (.aload_n 0, 1) := by decide +kernel
theorem dX5_stateBehind_18 : decode cX5_stateBehind 18 = .ok (.iload_n 1, 1) := by decide +kernel
theorem dX5_stateBehind_19 : decode cX5_stateBehind 19 = .ok (.iload_n 2, 1) := by decide +kernel
theorem dX5_stateBehind_20 : decode cX5_stateBehind 20 = .ok (.invokevirtual 106, 3) := by decide +kernel
theorem dX5_stateBehind_23 : decode cX5_stateBehind 23 = .ok (.aload_n 0, 1) := by decide +kernel
theorem dX5_stateBehind_24 : decode cX5_stateBehind 24 = .ok (.getfield 92, 3) := by decide +kernel
theorem dX5_stateBehind_27 : decode cX5_stateBehind 27 = .ok (.ireturn, 1) := by decide +kernel
theorem dX5_openBehind_0 : decode cX5_openBehind 0 = .ok (.aload_n 0, 1) := by decide +kernel
theorem dX5_openBehind_1 : decode cX5_openBehind 1 = .ok (.aload_n 0, 1) := by decide +kernel
theorem dX5_openBehind_2 : decode cX5_openBehind 2 = .ok (.iload_n 1, 1) := by decide +kernel
theorem dX5_openBehind_3 : decode cX5_openBehind 3 = .ok (.iload_n 2, 1) := by decide +kernel
theorem dX5_openBehind_4 : decode cX5_openBehind 4 = .ok (.invokevirtual 182, 3) := by decide +kernel
theorem dX5_openBehind_7 : decode cX5_openBehind 7 = .ok (.iconst 1, 1) := by decide +kernel
theorem dX5_openBehind_8 : decode cX5_openBehind 8 = .ok (.iconst 1, 1) := by decide +kernel
theorem dX5_openBehind_9 : decode cX5_openBehind 9 = .ok (.invokevirtual 123, 3) := by decide +kernel
theorem dX5_openBehind_12 : decode cX5_openBehind 12 = .ok (.ifCond .ne 5, 3) := by decide +kernel
theorem dX5_openBehind_15 : decode cX5_openBehind 15 = .ok (.iconst 0, 1) := by decide +kernel
theorem dX5_openBehind_16 : decode cX5_openBehind 16 = .ok (.ireturn, 1) := by decide +kernel
theorem dX5_openBehind_17 : decode cX5_openBehind 17 = .ok (.aload_n 0, 1) := by decide +kernel
theorem dX5_openBehind_18 : decode cX5_openBehind 18 = .ok (.iload_n 1, 1) := by decide +kernel
theorem dX5_openBehind_19 : decode cX5_openBehind 19 = .ok (.iload_n 2, 1) := by decide +kernel
theorem dX5_openBehind_20 : decode cX5_openBehind 20 = .ok (.invokevirtual 106, 3) := by decide +kernel
theorem dX5_openBehind_23 : decode cX5_openBehind 23 = .ok (.aload_n 0, 1) := by decide +kernel
theorem dX5_openBehind_24 : decode cX5_openBehind 24 = .ok (.invokevirtual 137, 3) := by decide +kernel
theorem dX5_openBehind_27 : decode cX5_openBehind 27 = .ok (.ireturn, 1) := by decide +kernel
end
section
theorem dL_draft_0 : decode cL_draft 0 = .ok (.aload_n 1, 1) := by decide +kernel
theorem dL_draft_1 : decode cL_draft 1 = .ok (.iconst 0, 1) := by decide +kernel
theorem dL_draft_2 : decode cL_draft 2 = .ok (.aload_n 0, 1) := by decide +kernel
theorem dL_draft_3 : decode cL_draft 3 = .ok (.invokevirtual 7, 3) := by decide +kernel
theorem dL_draft_6 : decode cL_draft 6 = .ok (.i2l, 1) := by decide +kernel
theorem dL_draft_7 : decode cL_draft 7 = .ok (.lastore, 1) := by decide +kernel
theorem dL_draft_8 : decode cL_draft 8 = .ok (.goto 6, 3) := by decide +kernel
theorem dL_draft_11 : decode cL_draft 11 = .ok (.astore_n 2, 1) := by decide +kernel
theorem dL_draft_12 : decode cL_draft 12 = .ok (.iconst 1, 1) := by decide +kernel
theorem dL_draft_13 : decode cL_draft 13 = .ok (.ireturn, 1) := by decide +kernel
theorem dL_draft_14 : decode cL_draft 14 = .ok (.iconst 0, 1) := by decide +kernel
theorem dL_draft_15 : decode cL_draft 15 = .ok (.ireturn, 1) := by decide +kernel
theorem dL_addSlot_0 : decode cL_addSlot 0 = .ok (.aload 4, 2) := by decide +kernel
theorem dL_addSlot_2 : decode cL_addSlot 2 = .ok (.iconst 0, 1) := by decide +kernel
theorem dL_addSlot_3 : decode cL_addSlot 3 = .ok (.aload_n 0, 1) := by decide +kernel
theorem dL_addSlot_4 : decode cL_addSlot 4 = .ok (.iload_n 1, 1) := by decide +kernel
theorem dL_addSlot_5 : decode cL_addSlot 5 = .ok (.iload_n 2, 1) := by decide +kernel
theorem dL_addSlot_6 : decode cL_addSlot 6 = .ok (.iload_n 3, 1) := by decide +kernel
theorem dL_addSlot_7 : decode cL_addSlot 7 = .ok (.invokevirtual 15, 3) := by decide +kernel
theorem dL_addSlot_10 : decode cL_addSlot 10 = .ok (.i2l, 1) := by decide +kernel
theorem dL_addSlot_11 : decode cL_addSlot 11 = .ok (.lastore, 1) := by decide +kernel
theorem dL_addSlot_12 : decode cL_addSlot 12 = .ok (.goto 15, 3) := by decide +kernel
theorem dL_addSlot_15 : decode cL_addSlot 15 = .ok (.astore 5, 2) := by decide +kernel
theorem dL_addSlot_17 : decode cL_addSlot 17 = .ok (.iconst 1, 1) := by decide +kernel
theorem dL_addSlot_18 : decode cL_addSlot 18 = .ok (.ireturn, 1) := by decide +kernel
theorem dL_addSlot_19 : decode cL_addSlot 19 = .ok (.astore 5, 2) := by decide +kernel
theorem dL_addSlot_21 : decode cL_addSlot 21 = .ok (.iconst 2, 1) := by decide +kernel
theorem dL_addSlot_22 : decode cL_addSlot 22 = .ok (.ireturn, 1) := by decide +kernel
theorem dL_addSlot_23 : decode cL_addSlot 23 = .ok (.astore 5, 2) := by decide +kernel
theorem dL_addSlot_25 : decode cL_addSlot 25 = .ok (.iconst 3, 1) := by decide +kernel
theorem dL_addSlot_26 : decode cL_addSlot 26 = .ok (.ireturn, 1) := by decide +kernel
theorem dL_addSlot_27 : decode cL_addSlot 27 = .ok (.iconst 0, 1) := by decide +kernel
theorem dL_addSlot_28 : decode cL_addSlot 28 = .ok (.ireturn, 1) := by decide +kernel
theorem dL_addRound_0 : decode cL_addRound 0 = .ok (.aload_n 3, 1) := by decide +kernel
theorem dL_addRound_1 : decode cL_addRound 1 = .ok (.iconst 0, 1) := by decide +kernel
theorem dL_addRound_2 : decode cL_addRound 2 = .ok (.aload_n 0, 1) := by decide +kernel
theorem dL_addRound_3 : decode cL_addRound 3 = .ok (.iload_n 1, 1) := by decide +kernel
theorem dL_addRound_4 : decode cL_addRound 4 = .ok (.iload_n 2, 1) := by decide +kernel
theorem dL_addRound_5 : decode cL_addRound 5 = .ok (.invokevirtual 23, 3) := by decide +kernel
theorem dL_addRound_8 : decode cL_addRound 8 = .ok (.i2l, 1) := by decide +kernel
theorem dL_addRound_9 : decode cL_addRound 9 = .ok (.lastore, 1) := by decide +kernel
theorem dL_addRound_10 : decode cL_addRound 10 = .ok (.goto 15, 3) := by decide +kernel
theorem dL_addRound_13 : decode cL_addRound 13 = .ok (.astore 4, 2) := by decide +kernel
theorem dL_addRound_15 : decode cL_addRound 15 = .ok (.iconst 1, 1) := by decide +kernel
theorem dL_addRound_16 : decode cL_addRound 16 = .ok (.ireturn, 1) := by decide +kernel
theorem dL_addRound_17 : decode cL_addRound 17 = .ok (.astore 4, 2) := by decide +kernel
theorem dL_addRound_19 : decode cL_addRound 19 = .ok (.iconst 2, 1) := by decide +kernel
theorem dL_addRound_20 : decode cL_addRound 20 = .ok (.ireturn, 1) := by decide +kernel
theorem dL_addRound_21 : decode cL_addRound 21 = .ok (.astore 4, 2) := by decide +kernel
theorem dL_addRound_23 : decode cL_addRound 23 = .ok (.iconst 3, 1) := by decide +kernel
theorem dL_addRound_24 : decode cL_addRound 24 = .ok (.ireturn, 1) := by decide +kernel
theorem dL_addRound_25 : decode cL_addRound 25 = .ok (.iconst 0, 1) := by decide +kernel
theorem dL_addRound_26 : decode cL_addRound 26 = .ok (.ireturn, 1) := by decide +kernel
theorem dL_setTimes_0 : decode cL_setTimes 0 = .ok (.aload_n 0, 1) := by decide +kernel
theorem dL_setTimes_1 : decode cL_setTimes 1 = .ok (.iload_n 1, 1) := by decide +kernel
theorem dL_setTimes_2 : decode cL_setTimes 2 = .ok (.iload_n 2, 1) := by decide +kernel
theorem dL_setTimes_3 : decode cL_setTimes 3 = .ok (.iload_n 3, 1) := by decide +kernel
theorem dL_setTimes_4 : decode cL_setTimes 4 = .ok (.invokevirtual 27, 3) := by decide +kernel
theorem dL_setTimes_7 : decode cL_setTimes 7 = .ok (.goto 15, 3) := by decide +kernel
theorem dL_setTimes_10 : decode cL_setTimes 10 = .ok (.astore 4, 2) := by decide +kernel
theorem dL_setTimes_12 : decode cL_setTimes 12 = .ok (.iconst 1, 1) := by decide +kernel
theorem dL_setTimes_13 : decode cL_setTimes 13 = .ok (.ireturn, 1) := by decide +kernel
theorem dL_setTimes_14 : decode cL_setTimes 14 = .ok (.astore 4, 2) := by decide +kernel
theorem dL_setTimes_16 : decode cL_setTimes 16 = .ok (.iconst 2, 1) := by decide +kernel
theorem dL_setTimes_17 : decode cL_setTimes 17 = .ok (.ireturn, 1) := by decide +kernel
theorem dL_setTimes_18 : decode cL_setTimes 18 = .ok (.astore 4, 2) := by decide +kernel
theorem dL_setTimes_20 : decode cL_setTimes 20 = .ok (.iconst 3, 1) := by decide +kernel
theorem dL_setTimes_21 : decode cL_setTimes 21 = .ok (.ireturn, 1) := by decide +kernel
theorem dL_setTimes_22 : decode cL_setTimes 22 = .ok (.iconst 0, 1) := by decide +kernel
theorem dL_setTimes_23 : decode cL_setTimes 23 = .ok (.ireturn, 1) := by decide +kernel
theorem dL_send_0 : decode cL_send 0 = .ok (.aload_n 2, 1) := by decide +kernel
theorem dL_send_1 : decode cL_send 1 = .ok (.iconst 0, 1) := by decide +kernel
theorem dL_send_2 : decode cL_send 2 = .ok (.aload_n 0, 1) := by decide +kernel
theorem dL_send_3 : decode cL_send 3 = .ok (.iload_n 1, 1) := by decide +kernel
theorem dL_send_4 : decode cL_send 4 = .ok (.invokevirtual 31, 3) := by decide +kernel
theorem dL_send_7 : decode cL_send 7 = .ok (.i2l, 1) := by decide +kernel
theorem dL_send_8 : decode cL_send 8 = .ok (.lastore, 1) := by decide +kernel
theorem dL_send_9 : decode cL_send 9 = .ok (.goto 9, 3) := by decide +kernel
theorem dL_send_12 : decode cL_send 12 = .ok (.astore_n 3, 1) := by decide +kernel
theorem dL_send_13 : decode cL_send 13 = .ok (.iconst 1, 1) := by decide +kernel
theorem dL_send_14 : decode cL_send 14 = .ok (.ireturn, 1) := by decide +kernel
theorem dL_send_15 : decode cL_send 15 = .ok (.astore_n 3, 1) := by decide +kernel
theorem dL_send_16 : decode cL_send 16 = .ok (.iconst 2, 1) := by decide +kernel
theorem dL_send_17 : decode cL_send 17 = .ok (.ireturn, 1) := by decide +kernel
theorem dL_send_18 : decode cL_send 18 = .ok (.iconst 0, 1) := by decide +kernel
theorem dL_send_19 : decode cL_send 19 = .ok (.ireturn, 1) := by decide +kernel
theorem dL_sign_0 : decode cL_sign 0 = .ok (.aload 4, 2) := by decide +kernel
theorem dL_sign_2 : decode cL_sign 2 = .ok (.iconst 0, 1) := by decide +kernel
theorem dL_sign_3 : decode cL_sign 3 = .ok (.aload_n 0, 1) := by decide +kernel
theorem dL_sign_4 : decode cL_sign 4 = .ok (.iload_n 1, 1) := by decide +kernel
theorem dL_sign_5 : decode cL_sign 5 = .ok (.iload_n 2, 1) := by decide +kernel
theorem dL_sign_6 : decode cL_sign 6 = .ok (.iload_n 3, 1) := by decide +kernel
theorem dL_sign_7 : decode cL_sign 7 = .ok (.invokevirtual 35, 3) := by decide +kernel
theorem dL_sign_10 : decode cL_sign 10 = .ok (.i2l, 1) := by decide +kernel
theorem dL_sign_11 : decode cL_sign 11 = .ok (.lastore, 1) := by decide +kernel
theorem dL_sign_12 : decode cL_sign 12 = .ok (.goto 11, 3) := by decide +kernel
theorem dL_sign_15 : decode cL_sign 15 = .ok (.astore 5, 2) := by decide +kernel
theorem dL_sign_17 : decode cL_sign 17 = .ok (.iconst 1, 1) := by decide +kernel
theorem dL_sign_18 : decode cL_sign 18 = .ok (.ireturn, 1) := by decide +kernel
theorem dL_sign_19 : decode cL_sign 19 = .ok (.astore 5, 2) := by decide +kernel
theorem dL_sign_21 : decode cL_sign 21 = .ok (.iconst 2, 1) := by decide +kernel
theorem dL_sign_22 : decode cL_sign 22 = .ok (.ireturn, 1) := by decide +kernel
theorem dL_sign_23 : decode cL_sign 23 = .ok (.iconst 0, 1) := by decide +kernel
theorem dL_sign_24 : decode cL_sign 24 = .ok (.ireturn, 1) := by decide +kernel
theorem dL_whyNot_0 : decode cL_whyNot 0 = .ok (.aload 4, 2) := by decide +kernel
theorem dL_whyNot_2 : decode cL_whyNot 2 = .ok (.iconst 0, 1) := by decide +kernel
theorem dL_whyNot_3 : decode cL_whyNot 3 = .ok (.aload_n 0, 1) := by decide +kernel
theorem dL_whyNot_4 : decode cL_whyNot 4 = .ok (.iload_n 1, 1) := by decide +kernel
theorem dL_whyNot_5 : decode cL_whyNot 5 = .ok (.iload_n 2, 1) := by decide +kernel
theorem dL_whyNot_6 : decode cL_whyNot 6 = .ok (.iload_n 3, 1) := by decide +kernel
theorem dL_whyNot_7 : decode cL_whyNot 7 = .ok (.invokevirtual 38, 3) := by decide +kernel
theorem dL_whyNot_10 : decode cL_whyNot 10 = .ok (.i2l, 1) := by decide +kernel
theorem dL_whyNot_11 : decode cL_whyNot 11 = .ok (.lastore, 1) := by decide +kernel
theorem dL_whyNot_12 : decode cL_whyNot 12 = .ok (.goto 7, 3) := by decide +kernel
theorem dL_whyNot_15 : decode cL_whyNot 15 = .ok (.astore 5, 2) := by decide +kernel
theorem dL_whyNot_17 : decode cL_whyNot 17 = .ok (.iconst 1, 1) := by decide +kernel
theorem dL_whyNot_18 : decode cL_whyNot 18 = .ok (.ireturn, 1) := by decide +kernel
theorem dL_whyNot_19 : decode cL_whyNot 19 = .ok (.iconst 0, 1) := by decide +kernel
theorem dL_whyNot_20 : decode cL_whyNot 20 = .ok (.ireturn, 1) := by decide +kernel
theorem dL_decline_0 : decode cL_decline 0 = .ok (.aload 4, 2) := by decide +kernel
theorem dL_decline_2 : decode cL_decline 2 = .ok (.iconst 0, 1) := by decide +kernel
theorem dL_decline_3 : decode cL_decline 3 = .ok (.aload_n 0, 1) := by decide +kernel
theorem dL_decline_4 : decode cL_decline 4 = .ok (.iload_n 1, 1) := by decide +kernel
theorem dL_decline_5 : decode cL_decline 5 = .ok (.iload_n 2, 1) := by decide +kernel
theorem dL_decline_6 : decode cL_decline 6 = .ok (.iload_n 3, 1) := by decide +kernel
theorem dL_decline_7 : decode cL_decline 7 = .ok (.invokevirtual 41, 3) := by decide +kernel
theorem dL_decline_10 : decode cL_decline 10 = .ok (.i2l, 1) := by decide +kernel
theorem dL_decline_11 : decode cL_decline 11 = .ok (.lastore, 1) := by decide +kernel
theorem dL_decline_12 : decode cL_decline 12 = .ok (.goto 11, 3) := by decide +kernel
theorem dL_decline_15 : decode cL_decline 15 = .ok (.astore 5, 2) := by decide +kernel
theorem dL_decline_17 : decode cL_decline 17 = .ok (.iconst 1, 1) := by decide +kernel
theorem dL_decline_18 : decode cL_decline 18 = .ok (.ireturn, 1) := by decide +kernel
theorem dL_decline_19 : decode cL_decline 19 = .ok (.astore 5, 2) := by decide +kernel
theorem dL_decline_21 : decode cL_decline 21 = .ok (.iconst 2, 1) := by decide +kernel
theorem dL_decline_22 : decode cL_decline 22 = .ok (.ireturn, 1) := by decide +kernel
theorem dL_decline_23 : decode cL_decline 23 = .ok (.iconst 0, 1) := by decide +kernel
theorem dL_decline_24 : decode cL_decline 24 = .ok (.ireturn, 1) := by decide +kernel
theorem dL_cancel_0 : decode cL_cancel 0 = .ok (.aload_n 2, 1) := by decide +kernel
theorem dL_cancel_1 : decode cL_cancel 1 = .ok (.iconst 0, 1) := by decide +kernel
theorem dL_cancel_2 : decode cL_cancel 2 = .ok (.aload_n 0, 1) := by decide +kernel
theorem dL_cancel_3 : decode cL_cancel 3 = .ok (.iload_n 1, 1) := by decide +kernel
theorem dL_cancel_4 : decode cL_cancel 4 = .ok (.invokevirtual 44, 3) := by decide +kernel
theorem dL_cancel_7 : decode cL_cancel 7 = .ok (.i2l, 1) := by decide +kernel
theorem dL_cancel_8 : decode cL_cancel 8 = .ok (.lastore, 1) := by decide +kernel
theorem dL_cancel_9 : decode cL_cancel 9 = .ok (.goto 9, 3) := by decide +kernel
theorem dL_cancel_12 : decode cL_cancel 12 = .ok (.astore_n 3, 1) := by decide +kernel
theorem dL_cancel_13 : decode cL_cancel 13 = .ok (.iconst 1, 1) := by decide +kernel
theorem dL_cancel_14 : decode cL_cancel 14 = .ok (.ireturn, 1) := by decide +kernel
theorem dL_cancel_15 : decode cL_cancel 15 = .ok (.astore_n 3, 1) := by decide +kernel
theorem dL_cancel_16 : decode cL_cancel 16 = .ok (.iconst 2, 1) := by decide +kernel
theorem dL_cancel_17 : decode cL_cancel 17 = .ok (.ireturn, 1) := by decide +kernel
theorem dL_cancel_18 : decode cL_cancel 18 = .ok (.iconst 0, 1) := by decide +kernel
theorem dL_cancel_19 : decode cL_cancel 19 = .ok (.ireturn, 1) := by decide +kernel
theorem dL_delegate_0 : decode cL_delegate 0 = .ok (.aload 6, 2) := by decide +kernel
theorem dL_delegate_2 : decode cL_delegate 2 = .ok (.iconst 0, 1) := by decide +kernel
theorem dL_delegate_3 : decode cL_delegate 3 = .ok (.aload_n 0, 1) := by decide +kernel
theorem dL_delegate_4 : decode cL_delegate 4 = .ok (.iload_n 1, 1) := by decide +kernel
theorem dL_delegate_5 : decode cL_delegate 5 = .ok (.iload_n 2, 1) := by decide +kernel
theorem dL_delegate_6 : decode cL_delegate 6 = .ok (.iload_n 3, 1) := by decide +kernel
theorem dL_delegate_7 : decode cL_delegate 7 = .ok (.iload 4, 2) := by decide +kernel
theorem dL_delegate_9 : decode cL_delegate 9 = .ok (.iload 5, 2) := by decide +kernel
theorem dL_delegate_11 : decode cL_delegate 11 = .ok (.invokevirtual 47, 3) := by decide +kernel
theorem dL_delegate_14 : decode cL_delegate 14 = .ok (.i2l, 1) := by decide +kernel
theorem dL_delegate_15 : decode cL_delegate 15 = .ok (.lastore, 1) := by decide +kernel
theorem dL_delegate_16 : decode cL_delegate 16 = .ok (.goto 11, 3) := by decide +kernel
theorem dL_delegate_19 : decode cL_delegate 19 = .ok (.astore 7, 2) := by decide +kernel
theorem dL_delegate_21 : decode cL_delegate 21 = .ok (.iconst 1, 1) := by decide +kernel
theorem dL_delegate_22 : decode cL_delegate 22 = .ok (.ireturn, 1) := by decide +kernel
theorem dL_delegate_23 : decode cL_delegate 23 = .ok (.astore 7, 2) := by decide +kernel
theorem dL_delegate_25 : decode cL_delegate 25 = .ok (.iconst 2, 1) := by decide +kernel
theorem dL_delegate_26 : decode cL_delegate 26 = .ok (.ireturn, 1) := by decide +kernel
theorem dL_delegate_27 : decode cL_delegate 27 = .ok (.iconst 0, 1) := by decide +kernel
theorem dL_delegate_28 : decode cL_delegate 28 = .ok (.ireturn, 1) := by decide +kernel
theorem dL_revoke_0 : decode cL_revoke 0 = .ok (.aload_n 2, 1) := by decide +kernel
theorem dL_revoke_1 : decode cL_revoke 1 = .ok (.iconst 0, 1) := by decide +kernel
theorem dL_revoke_2 : decode cL_revoke 2 = .ok (.aload_n 0, 1) := by decide +kernel
theorem dL_revoke_3 : decode cL_revoke 3 = .ok (.iload_n 1, 1) := by decide +kernel
theorem dL_revoke_4 : decode cL_revoke 4 = .ok (.invokevirtual 51, 3) := by decide +kernel
theorem dL_revoke_7 : decode cL_revoke 7 = .ok (.i2l, 1) := by decide +kernel
theorem dL_revoke_8 : decode cL_revoke 8 = .ok (.lastore, 1) := by decide +kernel
theorem dL_revoke_9 : decode cL_revoke 9 = .ok (.goto 9, 3) := by decide +kernel
theorem dL_revoke_12 : decode cL_revoke 12 = .ok (.astore_n 3, 1) := by decide +kernel
theorem dL_revoke_13 : decode cL_revoke 13 = .ok (.iconst 1, 1) := by decide +kernel
theorem dL_revoke_14 : decode cL_revoke 14 = .ok (.ireturn, 1) := by decide +kernel
theorem dL_revoke_15 : decode cL_revoke 15 = .ok (.astore_n 3, 1) := by decide +kernel
theorem dL_revoke_16 : decode cL_revoke 16 = .ok (.iconst 2, 1) := by decide +kernel
theorem dL_revoke_17 : decode cL_revoke 17 = .ok (.ireturn, 1) := by decide +kernel
theorem dL_revoke_18 : decode cL_revoke 18 = .ok (.iconst 0, 1) := by decide +kernel
theorem dL_revoke_19 : decode cL_revoke 19 = .ok (.ireturn, 1) := by decide +kernel
theorem dL_delegateToday_0 : decode cL_delegateToday 0 = .ok (.aload_n 2, 1) := by decide +kernel
theorem dL_delegateToday_1 : decode cL_delegateToday 1 = .ok (.iconst 0, 1) := by decide +kernel
theorem dL_delegateToday_2 : decode cL_delegateToday 2 = .ok (.aload_n 0, 1) := by decide +kernel
theorem dL_delegateToday_3 : decode cL_delegateToday 3 = .ok (.iload_n 1, 1) := by decide +kernel
theorem dL_delegateToday_4 : decode cL_delegateToday 4 = .ok (.invokevirtual 54, 3) := by decide +kernel
theorem dL_delegateToday_7 : decode cL_delegateToday 7 = .ok (.i2l, 1) := by decide +kernel
theorem dL_delegateToday_8 : decode cL_delegateToday 8 = .ok (.lastore, 1) := by decide +kernel
theorem dL_delegateToday_9 : decode cL_delegateToday 9 = .ok (.goto 6, 3) := by decide +kernel
theorem dL_delegateToday_12 : decode cL_delegateToday 12 = .ok (.astore_n 3, 1) := by decide +kernel
theorem dL_delegateToday_13 : decode cL_delegateToday 13 = .ok (.iconst 1, 1) := by decide +kernel
theorem dL_delegateToday_14 : decode cL_delegateToday 14 = .ok (.ireturn, 1) := by decide +kernel
theorem dL_delegateToday_15 : decode cL_delegateToday 15 = .ok (.iconst 0, 1) := by decide +kernel
theorem dL_delegateToday_16 : decode cL_delegateToday 16 = .ok (.ireturn, 1) := by decide +kernel
theorem dL_signedFor_0 : decode cL_signedFor 0 = .ok (.aload_n 2, 1) := by decide +kernel
theorem dL_signedFor_1 : decode cL_signedFor 1 = .ok (.iconst 0, 1) := by decide +kernel
theorem dL_signedFor_2 : decode cL_signedFor 2 = .ok (.aload_n 0, 1) := by decide +kernel
theorem dL_signedFor_3 : decode cL_signedFor 3 = .ok (.iload_n 1, 1) := by decide +kernel
theorem dL_signedFor_4 : decode cL_signedFor 4 = .ok (.invokevirtual 57, 3) := by decide +kernel
theorem dL_signedFor_7 : decode cL_signedFor 7 = .ok (.i2l, 1) := by decide +kernel
theorem dL_signedFor_8 : decode cL_signedFor 8 = .ok (.lastore, 1) := by decide +kernel
theorem dL_signedFor_9 : decode cL_signedFor 9 = .ok (.goto 6, 3) := by decide +kernel
theorem dL_signedFor_12 : decode cL_signedFor 12 = .ok (.astore_n 3, 1) := by decide +kernel
theorem dL_signedFor_13 : decode cL_signedFor 13 = .ok (.iconst 1, 1) := by decide +kernel
theorem dL_signedFor_14 : decode cL_signedFor 14 = .ok (.ireturn, 1) := by decide +kernel
theorem dL_signedFor_15 : decode cL_signedFor 15 = .ok (.iconst 0, 1) := by decide +kernel
theorem dL_signedFor_16 : decode cL_signedFor 16 = .ok (.ireturn, 1) := by decide +kernel
theorem dL_toSign_0 : decode cL_toSign 0 = .ok (.aload_n 2, 1) := by decide +kernel
theorem dL_toSign_1 : decode cL_toSign 1 = .ok (.iconst 0, 1) := by decide +kernel
theorem dL_toSign_2 : decode cL_toSign 2 = .ok (.aload_n 0, 1) := by decide +kernel
theorem dL_toSign_3 : decode cL_toSign 3 = .ok (.iload_n 1, 1) := by decide +kernel
theorem dL_toSign_4 : decode cL_toSign 4 = .ok (.invokevirtual 60, 3) := by decide +kernel
theorem dL_toSign_7 : decode cL_toSign 7 = .ok (.i2l, 1) := by decide +kernel
theorem dL_toSign_8 : decode cL_toSign 8 = .ok (.lastore, 1) := by decide +kernel
theorem dL_toSign_9 : decode cL_toSign 9 = .ok (.goto 6, 3) := by decide +kernel
theorem dL_toSign_12 : decode cL_toSign 12 = .ok (.astore_n 3, 1) := by decide +kernel
theorem dL_toSign_13 : decode cL_toSign 13 = .ok (.iconst 1, 1) := by decide +kernel
theorem dL_toSign_14 : decode cL_toSign 14 = .ok (.ireturn, 1) := by decide +kernel
theorem dL_toSign_15 : decode cL_toSign 15 = .ok (.iconst 0, 1) := by decide +kernel
theorem dL_toSign_16 : decode cL_toSign 16 = .ok (.ireturn, 1) := by decide +kernel
theorem dL_pass_0 : decode cL_pass 0 = .ok (.aload_n 2, 1) := by decide +kernel
theorem dL_pass_1 : decode cL_pass 1 = .ok (.iconst 0, 1) := by decide +kernel
theorem dL_pass_2 : decode cL_pass 2 = .ok (.aload_n 0, 1) := by decide +kernel
theorem dL_pass_3 : decode cL_pass 3 = .ok (.iload_n 1, 1) := by decide +kernel
theorem dL_pass_4 : decode cL_pass 4 = .ok (.invokevirtual 63, 3) := by decide +kernel
theorem dL_pass_7 : decode cL_pass 7 = .ok (.i2l, 1) := by decide +kernel
theorem dL_pass_8 : decode cL_pass 8 = .ok (.lastore, 1) := by decide +kernel
theorem dL_pass_9 : decode cL_pass 9 = .ok (.goto 6, 3) := by decide +kernel
theorem dL_pass_12 : decode cL_pass 12 = .ok (.astore_n 3, 1) := by decide +kernel
theorem dL_pass_13 : decode cL_pass 13 = .ok (.iconst 1, 1) := by decide +kernel
theorem dL_pass_14 : decode cL_pass 14 = .ok (.ireturn, 1) := by decide +kernel
theorem dL_pass_15 : decode cL_pass 15 = .ok (.iconst 0, 1) := by decide +kernel
theorem dL_pass_16 : decode cL_pass 16 = .ok (.ireturn, 1) := by decide +kernel
theorem dL_nextReminder_0 : decode cL_nextReminder 0 = .ok (.aload_n 2, 1) := by decide +kernel
theorem dL_nextReminder_1 : decode cL_nextReminder 1 = .ok (.iconst 0, 1) := by decide +kernel
theorem dL_nextReminder_2 : decode cL_nextReminder 2 = .ok (.aload_n 0, 1) := by decide +kernel
theorem dL_nextReminder_3 : decode cL_nextReminder 3 = .ok (.iload_n 1, 1) := by decide +kernel
theorem dL_nextReminder_4 : decode cL_nextReminder 4 = .ok (.invokevirtual 66, 3) := by decide +kernel
theorem dL_nextReminder_7 : decode cL_nextReminder 7 = .ok (.i2l, 1) := by decide +kernel
theorem dL_nextReminder_8 : decode cL_nextReminder 8 = .ok (.lastore, 1) := by decide +kernel
theorem dL_nextReminder_9 : decode cL_nextReminder 9 = .ok (.goto 6, 3) := by decide +kernel
theorem dL_nextReminder_12 : decode cL_nextReminder 12 = .ok (.astore_n 3, 1) := by decide +kernel
theorem dL_nextReminder_13 : decode cL_nextReminder 13 = .ok (.iconst 1, 1) := by decide +kernel
theorem dL_nextReminder_14 : decode cL_nextReminder 14 = .ok (.ireturn, 1) := by decide +kernel
theorem dL_nextReminder_15 : decode cL_nextReminder 15 = .ok (.iconst 0, 1) := by decide +kernel
theorem dL_nextReminder_16 : decode cL_nextReminder 16 = .ok (.ireturn, 1) := by decide +kernel
theorem dL_state_0 : decode cL_state 0 = .ok (.aload_n 2, 1) := by decide +kernel
theorem dL_state_1 : decode cL_state 1 = .ok (.iconst 0, 1) := by decide +kernel
theorem dL_state_2 : decode cL_state 2 = .ok (.aload_n 0, 1) := by decide +kernel
theorem dL_state_3 : decode cL_state 3 = .ok (.iload_n 1, 1) := by decide +kernel
theorem dL_state_4 : decode cL_state 4 = .ok (.invokevirtual 69, 3) := by decide +kernel
theorem dL_state_7 : decode cL_state 7 = .ok (.i2l, 1) := by decide +kernel
theorem dL_state_8 : decode cL_state 8 = .ok (.lastore, 1) := by decide +kernel
theorem dL_state_9 : decode cL_state 9 = .ok (.goto 6, 3) := by decide +kernel
theorem dL_state_12 : decode cL_state 12 = .ok (.astore_n 3, 1) := by decide +kernel
theorem dL_state_13 : decode cL_state 13 = .ok (.iconst 1, 1) := by decide +kernel
theorem dL_state_14 : decode cL_state 14 = .ok (.ireturn, 1) := by decide +kernel
theorem dL_state_15 : decode cL_state 15 = .ok (.iconst 0, 1) := by decide +kernel
theorem dL_state_16 : decode cL_state 16 = .ok (.ireturn, 1) := by decide +kernel
theorem dL_slots_0 : decode cL_slots 0 = .ok (.aload_n 2, 1) := by decide +kernel
theorem dL_slots_1 : decode cL_slots 1 = .ok (.iconst 0, 1) := by decide +kernel
theorem dL_slots_2 : decode cL_slots 2 = .ok (.aload_n 0, 1) := by decide +kernel
theorem dL_slots_3 : decode cL_slots 3 = .ok (.iload_n 1, 1) := by decide +kernel
theorem dL_slots_4 : decode cL_slots 4 = .ok (.invokevirtual 72, 3) := by decide +kernel
theorem dL_slots_7 : decode cL_slots 7 = .ok (.i2l, 1) := by decide +kernel
theorem dL_slots_8 : decode cL_slots 8 = .ok (.lastore, 1) := by decide +kernel
theorem dL_slots_9 : decode cL_slots 9 = .ok (.goto 6, 3) := by decide +kernel
theorem dL_slots_12 : decode cL_slots 12 = .ok (.astore_n 3, 1) := by decide +kernel
theorem dL_slots_13 : decode cL_slots 13 = .ok (.iconst 1, 1) := by decide +kernel
theorem dL_slots_14 : decode cL_slots 14 = .ok (.ireturn, 1) := by decide +kernel
theorem dL_slots_15 : decode cL_slots 15 = .ok (.iconst 0, 1) := by decide +kernel
theorem dL_slots_16 : decode cL_slots 16 = .ok (.ireturn, 1) := by decide +kernel
theorem dL_slotState_0 : decode cL_slotState 0 = .ok (.aload_n 3, 1) := by decide +kernel
theorem dL_slotState_1 : decode cL_slotState 1 = .ok (.iconst 0, 1) := by decide +kernel
theorem dL_slotState_2 : decode cL_slotState 2 = .ok (.aload_n 0, 1) := by decide +kernel
theorem dL_slotState_3 : decode cL_slotState 3 = .ok (.iload_n 1, 1) := by decide +kernel
theorem dL_slotState_4 : decode cL_slotState 4 = .ok (.iload_n 2, 1) := by decide +kernel
theorem dL_slotState_5 : decode cL_slotState 5 = .ok (.invokevirtual 75, 3) := by decide +kernel
theorem dL_slotState_8 : decode cL_slotState 8 = .ok (.i2l, 1) := by decide +kernel
theorem dL_slotState_9 : decode cL_slotState 9 = .ok (.lastore, 1) := by decide +kernel
theorem dL_slotState_10 : decode cL_slotState 10 = .ok (.goto 7, 3) := by decide +kernel
theorem dL_slotState_13 : decode cL_slotState 13 = .ok (.astore 4, 2) := by decide +kernel
theorem dL_slotState_15 : decode cL_slotState 15 = .ok (.iconst 1, 1) := by decide +kernel
theorem dL_slotState_16 : decode cL_slotState 16 = .ok (.ireturn, 1) := by decide +kernel
theorem dL_slotState_17 : decode cL_slotState 17 = .ok (.iconst 0, 1) := by decide +kernel
theorem dL_slotState_18 : decode cL_slotState 18 = .ok (.ireturn, 1) := by decide +kernel
theorem dL_missing_0 : decode cL_missing 0 = .ok (.aload_n 3, 1) := by decide +kernel
theorem dL_missing_1 : decode cL_missing 1 = .ok (.iconst 0, 1) := by decide +kernel
theorem dL_missing_2 : decode cL_missing 2 = .ok (.aload_n 0, 1) := by decide +kernel
theorem dL_missing_3 : decode cL_missing 3 = .ok (.iload_n 1, 1) := by decide +kernel
theorem dL_missing_4 : decode cL_missing 4 = .ok (.iload_n 2, 1) := by decide +kernel
theorem dL_missing_5 : decode cL_missing 5 = .ok (.invokevirtual 78, 3) := by decide +kernel
theorem dL_missing_8 : decode cL_missing 8 = .ok (.i2l, 1) := by decide +kernel
theorem dL_missing_9 : decode cL_missing 9 = .ok (.lastore, 1) := by decide +kernel
theorem dL_missing_10 : decode cL_missing 10 = .ok (.goto 7, 3) := by decide +kernel
theorem dL_missing_13 : decode cL_missing 13 = .ok (.astore 4, 2) := by decide +kernel
theorem dL_missing_15 : decode cL_missing 15 = .ok (.iconst 1, 1) := by decide +kernel
theorem dL_missing_16 : decode cL_missing 16 = .ok (.ireturn, 1) := by decide +kernel
theorem dL_missing_17 : decode cL_missing 17 = .ok (.iconst 0, 1) := by decide +kernel
theorem dL_missing_18 : decode cL_missing 18 = .ok (.ireturn, 1) := by decide +kernel
theorem dL_share_0 : decode cL_share 0 = .ok (.aload_n 2, 1) := by decide +kernel
theorem dL_share_1 : decode cL_share 1 = .ok (.iconst 0, 1) := by decide +kernel
theorem dL_share_2 : decode cL_share 2 = .ok (.aload_n 0, 1) := by decide +kernel
theorem dL_share_3 : decode cL_share 3 = .ok (.iload_n 1, 1) := by decide +kernel
theorem dL_share_4 : decode cL_share 4 = .ok (.invokevirtual 81, 3) := by decide +kernel
theorem dL_share_7 : decode cL_share 7 = .ok (.f2d, 1) := by decide +kernel
theorem dL_share_8 : decode cL_share 8 = .ok (.dastore, 1) := by decide +kernel
theorem dL_share_9 : decode cL_share 9 = .ok (.goto 6, 3) := by decide +kernel
theorem dL_share_12 : decode cL_share 12 = .ok (.astore_n 3, 1) := by decide +kernel
theorem dL_share_13 : decode cL_share 13 = .ok (.iconst 1, 1) := by decide +kernel
theorem dL_share_14 : decode cL_share 14 = .ok (.ireturn, 1) := by decide +kernel
theorem dL_share_15 : decode cL_share 15 = .ok (.iconst 0, 1) := by decide +kernel
theorem dL_share_16 : decode cL_share 16 = .ok (.ireturn, 1) := by decide +kernel
theorem dL_ahead_0 : decode cL_ahead 0 = .ok (.aload_n 3, 1) := by decide +kernel
theorem dL_ahead_1 : decode cL_ahead 1 = .ok (.iconst 0, 1) := by decide +kernel
theorem dL_ahead_2 : decode cL_ahead 2 = .ok (.aload_n 0, 1) := by decide +kernel
theorem dL_ahead_3 : decode cL_ahead 3 = .ok (.iload_n 1, 1) := by decide +kernel
theorem dL_ahead_4 : decode cL_ahead 4 = .ok (.iload_n 2, 1) := by decide +kernel
theorem dL_ahead_5 : decode cL_ahead 5 = .ok (.invokevirtual 85, 3) := by decide +kernel
theorem dL_ahead_8 : decode cL_ahead 8 = .ok (.i2l, 1) := by decide +kernel
theorem dL_ahead_9 : decode cL_ahead 9 = .ok (.lastore, 1) := by decide +kernel
theorem dL_ahead_10 : decode cL_ahead 10 = .ok (.goto 7, 3) := by decide +kernel
theorem dL_ahead_13 : decode cL_ahead 13 = .ok (.astore 4, 2) := by decide +kernel
theorem dL_ahead_15 : decode cL_ahead 15 = .ok (.iconst 1, 1) := by decide +kernel
theorem dL_ahead_16 : decode cL_ahead 16 = .ok (.ireturn, 1) := by decide +kernel
theorem dL_ahead_17 : decode cL_ahead 17 = .ok (.iconst 0, 1) := by decide +kernel
theorem dL_ahead_18 : decode cL_ahead 18 = .ok (.ireturn, 1) := by decide +kernel
theorem dL_roundOf_0 : decode cL_roundOf 0 = .ok (.aload_n 3, 1) := by decide +kernel
theorem dL_roundOf_1 : decode cL_roundOf 1 = .ok (.iconst 0, 1) := by decide +kernel
theorem dL_roundOf_2 : decode cL_roundOf 2 = .ok (.aload_n 0, 1) := by decide +kernel
theorem dL_roundOf_3 : decode cL_roundOf 3 = .ok (.iload_n 1, 1) := by decide +kernel
theorem dL_roundOf_4 : decode cL_roundOf 4 = .ok (.iload_n 2, 1) := by decide +kernel
theorem dL_roundOf_5 : decode cL_roundOf 5 = .ok (.invokevirtual 88, 3) := by decide +kernel
theorem dL_roundOf_8 : decode cL_roundOf 8 = .ok (.i2l, 1) := by decide +kernel
theorem dL_roundOf_9 : decode cL_roundOf 9 = .ok (.lastore, 1) := by decide +kernel
theorem dL_roundOf_10 : decode cL_roundOf 10 = .ok (.goto 7, 3) := by decide +kernel
theorem dL_roundOf_13 : decode cL_roundOf 13 = .ok (.astore 4, 2) := by decide +kernel
theorem dL_roundOf_15 : decode cL_roundOf 15 = .ok (.iconst 1, 1) := by decide +kernel
theorem dL_roundOf_16 : decode cL_roundOf 16 = .ok (.ireturn, 1) := by decide +kernel
theorem dL_roundOf_17 : decode cL_roundOf 17 = .ok (.iconst 0, 1) := by decide +kernel
theorem dL_roundOf_18 : decode cL_roundOf 18 = .ok (.ireturn, 1) := by decide +kernel
theorem dL_orders_0 : decode cL_orders 0 = .ok (.aload_n 2, 1) := by decide +kernel
theorem dL_orders_1 : decode cL_orders 1 = .ok (.iconst 0, 1) := by decide +kernel
theorem dL_orders_2 : decode cL_orders 2 = .ok (.aload_n 0, 1) := by decide +kernel
theorem dL_orders_3 : decode cL_orders 3 = .ok (.iload_n 1, 1) := by decide +kernel
theorem dL_orders_4 : decode cL_orders 4 = .ok (.invokevirtual 91, 3) := by decide +kernel
theorem dL_orders_7 : decode cL_orders 7 = .ok (.i2l, 1) := by decide +kernel
theorem dL_orders_8 : decode cL_orders 8 = .ok (.lastore, 1) := by decide +kernel
theorem dL_orders_9 : decode cL_orders 9 = .ok (.goto 6, 3) := by decide +kernel
theorem dL_orders_12 : decode cL_orders 12 = .ok (.astore_n 3, 1) := by decide +kernel
theorem dL_orders_13 : decode cL_orders 13 = .ok (.iconst 1, 1) := by decide +kernel
theorem dL_orders_14 : decode cL_orders 14 = .ok (.ireturn, 1) := by decide +kernel
theorem dL_orders_15 : decode cL_orders 15 = .ok (.iconst 0, 1) := by decide +kernel
theorem dL_orders_16 : decode cL_orders 16 = .ok (.ireturn, 1) := by decide +kernel
theorem dL_ordersByAll_0 : decode cL_ordersByAll 0 = .ok (.aload_n 2, 1) := by decide +kernel
theorem dL_ordersByAll_1 : decode cL_ordersByAll 1 = .ok (.iconst 0, 1) := by decide +kernel
theorem dL_ordersByAll_2 : decode cL_ordersByAll 2 = .ok (.aload_n 0, 1) := by decide +kernel
theorem dL_ordersByAll_3 : decode cL_ordersByAll 3 = .ok (.iload_n 1, 1) := by decide +kernel
theorem dL_ordersByAll_4 : decode cL_ordersByAll 4 = .ok (.invokevirtual 94, 3) := by decide +kernel
theorem dL_ordersByAll_7 : decode cL_ordersByAll 7 = .ok (.i2l, 1) := by decide +kernel
theorem dL_ordersByAll_8 : decode cL_ordersByAll 8 = .ok (.lastore, 1) := by decide +kernel
theorem dL_ordersByAll_9 : decode cL_ordersByAll 9 = .ok (.goto 6, 3) := by decide +kernel
theorem dL_ordersByAll_12 : decode cL_ordersByAll 12 = .ok (.astore_n 3, 1) := by decide +kernel
theorem dL_ordersByAll_13 : decode cL_ordersByAll 13 = .ok (.iconst 1, 1) := by decide +kernel
theorem dL_ordersByAll_14 : decode cL_ordersByAll 14 = .ok (.ireturn, 1) := by decide +kernel
theorem dL_ordersByAll_15 : decode cL_ordersByAll 15 = .ok (.iconst 0, 1) := by decide +kernel
theorem dL_ordersByAll_16 : decode cL_ordersByAll 16 = .ok (.ireturn, 1) := by decide +kernel
theorem dL_ordersLeft_0 : decode cL_ordersLeft 0 = .ok (.aload_n 2, 1) := by decide +kernel
theorem dL_ordersLeft_1 : decode cL_ordersLeft 1 = .ok (.iconst 0, 1) := by decide +kernel
theorem dL_ordersLeft_2 : decode cL_ordersLeft 2 = .ok (.aload_n 0, 1) := by decide +kernel
theorem dL_ordersLeft_3 : decode cL_ordersLeft 3 = .ok (.iload_n 1, 1) := by decide +kernel
theorem dL_ordersLeft_4 : decode cL_ordersLeft 4 = .ok (.invokevirtual 97, 3) := by decide +kernel
theorem dL_ordersLeft_7 : decode cL_ordersLeft 7 = .ok (.i2l, 1) := by decide +kernel
theorem dL_ordersLeft_8 : decode cL_ordersLeft 8 = .ok (.lastore, 1) := by decide +kernel
theorem dL_ordersLeft_9 : decode cL_ordersLeft 9 = .ok (.goto 6, 3) := by decide +kernel
theorem dL_ordersLeft_12 : decode cL_ordersLeft 12 = .ok (.astore_n 3, 1) := by decide +kernel
theorem dL_ordersLeft_13 : decode cL_ordersLeft 13 = .ok (.iconst 1, 1) := by decide +kernel
theorem dL_ordersLeft_14 : decode cL_ordersLeft 14 = .ok (.ireturn, 1) := by decide +kernel
theorem dL_ordersLeft_15 : decode cL_ordersLeft 15 = .ok (.iconst 0, 1) := by decide +kernel
theorem dL_ordersLeft_16 : decode cL_ordersLeft 16 = .ok (.ireturn, 1) := by decide +kernel
theorem dL_events_0 : decode cL_events 0 = .ok (.aload_n 2, 1) := by decide +kernel
theorem dL_events_1 : decode cL_events 1 = .ok (.iconst 0, 1) := by decide +kernel
theorem dL_events_2 : decode cL_events 2 = .ok (.aload_n 0, 1) := by decide +kernel
theorem dL_events_3 : decode cL_events 3 = .ok (.iload_n 1, 1) := by decide +kernel
theorem dL_events_4 : decode cL_events 4 = .ok (.invokevirtual 100, 3) := by decide +kernel
theorem dL_events_7 : decode cL_events 7 = .ok (.i2l, 1) := by decide +kernel
theorem dL_events_8 : decode cL_events 8 = .ok (.lastore, 1) := by decide +kernel
theorem dL_events_9 : decode cL_events 9 = .ok (.goto 6, 3) := by decide +kernel
theorem dL_events_12 : decode cL_events 12 = .ok (.astore_n 3, 1) := by decide +kernel
theorem dL_events_13 : decode cL_events 13 = .ok (.iconst 1, 1) := by decide +kernel
theorem dL_events_14 : decode cL_events 14 = .ok (.ireturn, 1) := by decide +kernel
theorem dL_events_15 : decode cL_events 15 = .ok (.iconst 0, 1) := by decide +kernel
theorem dL_events_16 : decode cL_events 16 = .ok (.ireturn, 1) := by decide +kernel
theorem dL_kindOf_0 : decode cL_kindOf 0 = .ok (.aload_n 3, 1) := by decide +kernel
theorem dL_kindOf_1 : decode cL_kindOf 1 = .ok (.iconst 0, 1) := by decide +kernel
theorem dL_kindOf_2 : decode cL_kindOf 2 = .ok (.aload_n 0, 1) := by decide +kernel
theorem dL_kindOf_3 : decode cL_kindOf 3 = .ok (.iload_n 1, 1) := by decide +kernel
theorem dL_kindOf_4 : decode cL_kindOf 4 = .ok (.iload_n 2, 1) := by decide +kernel
theorem dL_kindOf_5 : decode cL_kindOf 5 = .ok (.invokevirtual 103, 3) := by decide +kernel
theorem dL_kindOf_8 : decode cL_kindOf 8 = .ok (.i2l, 1) := by decide +kernel
theorem dL_kindOf_9 : decode cL_kindOf 9 = .ok (.lastore, 1) := by decide +kernel
theorem dL_kindOf_10 : decode cL_kindOf 10 = .ok (.goto 7, 3) := by decide +kernel
theorem dL_kindOf_13 : decode cL_kindOf 13 = .ok (.astore 4, 2) := by decide +kernel
theorem dL_kindOf_15 : decode cL_kindOf 15 = .ok (.iconst 1, 1) := by decide +kernel
theorem dL_kindOf_16 : decode cL_kindOf 16 = .ok (.ireturn, 1) := by decide +kernel
theorem dL_kindOf_17 : decode cL_kindOf 17 = .ok (.iconst 0, 1) := by decide +kernel
theorem dL_kindOf_18 : decode cL_kindOf 18 = .ok (.ireturn, 1) := by decide +kernel
theorem dL_personOf_0 : decode cL_personOf 0 = .ok (.aload_n 3, 1) := by decide +kernel
theorem dL_personOf_1 : decode cL_personOf 1 = .ok (.iconst 0, 1) := by decide +kernel
theorem dL_personOf_2 : decode cL_personOf 2 = .ok (.aload_n 0, 1) := by decide +kernel
theorem dL_personOf_3 : decode cL_personOf 3 = .ok (.iload_n 1, 1) := by decide +kernel
theorem dL_personOf_4 : decode cL_personOf 4 = .ok (.iload_n 2, 1) := by decide +kernel
theorem dL_personOf_5 : decode cL_personOf 5 = .ok (.invokevirtual 106, 3) := by decide +kernel
theorem dL_personOf_8 : decode cL_personOf 8 = .ok (.i2l, 1) := by decide +kernel
theorem dL_personOf_9 : decode cL_personOf 9 = .ok (.lastore, 1) := by decide +kernel
theorem dL_personOf_10 : decode cL_personOf 10 = .ok (.goto 7, 3) := by decide +kernel
theorem dL_personOf_13 : decode cL_personOf 13 = .ok (.astore 4, 2) := by decide +kernel
theorem dL_personOf_15 : decode cL_personOf 15 = .ok (.iconst 1, 1) := by decide +kernel
theorem dL_personOf_16 : decode cL_personOf 16 = .ok (.ireturn, 1) := by decide +kernel
theorem dL_personOf_17 : decode cL_personOf 17 = .ok (.iconst 0, 1) := by decide +kernel
theorem dL_personOf_18 : decode cL_personOf 18 = .ok (.ireturn, 1) := by decide +kernel
theorem dL_dayOf_0 : decode cL_dayOf 0 = .ok (.aload_n 3, 1) := by decide +kernel
theorem dL_dayOf_1 : decode cL_dayOf 1 = .ok (.iconst 0, 1) := by decide +kernel
theorem dL_dayOf_2 : decode cL_dayOf 2 = .ok (.aload_n 0, 1) := by decide +kernel
theorem dL_dayOf_3 : decode cL_dayOf 3 = .ok (.iload_n 1, 1) := by decide +kernel
theorem dL_dayOf_4 : decode cL_dayOf 4 = .ok (.iload_n 2, 1) := by decide +kernel
theorem dL_dayOf_5 : decode cL_dayOf 5 = .ok (.invokevirtual 109, 3) := by decide +kernel
theorem dL_dayOf_8 : decode cL_dayOf 8 = .ok (.i2l, 1) := by decide +kernel
theorem dL_dayOf_9 : decode cL_dayOf 9 = .ok (.lastore, 1) := by decide +kernel
theorem dL_dayOf_10 : decode cL_dayOf 10 = .ok (.goto 7, 3) := by decide +kernel
theorem dL_dayOf_13 : decode cL_dayOf 13 = .ok (.astore 4, 2) := by decide +kernel
theorem dL_dayOf_15 : decode cL_dayOf 15 = .ok (.iconst 1, 1) := by decide +kernel
theorem dL_dayOf_16 : decode cL_dayOf 16 = .ok (.ireturn, 1) := by decide +kernel
theorem dL_dayOf_17 : decode cL_dayOf 17 = .ok (.iconst 0, 1) := by decide +kernel
theorem dL_dayOf_18 : decode cL_dayOf 18 = .ok (.ireturn, 1) := by decide +kernel
theorem dL_seal_0 : decode cL_seal 0 = .ok (.aload_n 3, 1) := by decide +kernel
theorem dL_seal_1 : decode cL_seal 1 = .ok (.iconst 0, 1) := by decide +kernel
theorem dL_seal_2 : decode cL_seal 2 = .ok (.aload_n 0, 1) := by decide +kernel
theorem dL_seal_3 : decode cL_seal 3 = .ok (.iload_n 1, 1) := by decide +kernel
theorem dL_seal_4 : decode cL_seal 4 = .ok (.iload_n 2, 1) := by decide +kernel
theorem dL_seal_5 : decode cL_seal 5 = .ok (.invokevirtual 112, 3) := by decide +kernel
theorem dL_seal_8 : decode cL_seal 8 = .ok (.i2l, 1) := by decide +kernel
theorem dL_seal_9 : decode cL_seal 9 = .ok (.lastore, 1) := by decide +kernel
theorem dL_seal_10 : decode cL_seal 10 = .ok (.goto 7, 3) := by decide +kernel
theorem dL_seal_13 : decode cL_seal 13 = .ok (.astore 4, 2) := by decide +kernel
theorem dL_seal_15 : decode cL_seal 15 = .ok (.iconst 1, 1) := by decide +kernel
theorem dL_seal_16 : decode cL_seal 16 = .ok (.ireturn, 1) := by decide +kernel
theorem dL_seal_17 : decode cL_seal 17 = .ok (.iconst 0, 1) := by decide +kernel
theorem dL_seal_18 : decode cL_seal 18 = .ok (.ireturn, 1) := by decide +kernel
theorem dL_stateBehind_0 : decode cL_stateBehind 0 = .ok (.aload_n 3, 1) := by decide +kernel
theorem dL_stateBehind_1 : decode cL_stateBehind 1 = .ok (.iconst 0, 1) := by decide +kernel
theorem dL_stateBehind_2 : decode cL_stateBehind 2 = .ok (.aload_n 0, 1) := by decide +kernel
theorem dL_stateBehind_3 : decode cL_stateBehind 3 = .ok (.iload_n 1, 1) := by decide +kernel
theorem dL_stateBehind_4 : decode cL_stateBehind 4 = .ok (.iload_n 2, 1) := by decide +kernel
theorem dL_stateBehind_5 : decode cL_stateBehind 5 = .ok (.invokevirtual 115, 3) := by decide +kernel
theorem dL_stateBehind_8 : decode cL_stateBehind 8 = .ok (.i2l, 1) := by decide +kernel
theorem dL_stateBehind_9 : decode cL_stateBehind 9 = .ok (.lastore, 1) := by decide +kernel
theorem dL_stateBehind_10 : decode cL_stateBehind 10 = .ok (.goto 7, 3) := by decide +kernel
theorem dL_stateBehind_13 : decode cL_stateBehind 13 = .ok (.astore 4, 2) := by decide +kernel
theorem dL_stateBehind_15 : decode cL_stateBehind 15 = .ok (.iconst 1, 1) := by decide +kernel
theorem dL_stateBehind_16 : decode cL_stateBehind 16 = .ok (.ireturn, 1) := by decide +kernel
theorem dL_stateBehind_17 : decode cL_stateBehind 17 = .ok (.iconst 0, 1) := by decide +kernel
theorem dL_stateBehind_18 : decode cL_stateBehind 18 = .ok (.ireturn, 1) := by decide +kernel
theorem dL_openBehind_0 : decode cL_openBehind 0 = .ok (.aload_n 3, 1) := by decide +kernel
theorem dL_openBehind_1 : decode cL_openBehind 1 = .ok (.iconst 0, 1) := by decide +kernel
theorem dL_openBehind_2 : decode cL_openBehind 2 = .ok (.aload_n 0, 1) := by decide +kernel
theorem dL_openBehind_3 : decode cL_openBehind 3 = .ok (.iload_n 1, 1) := by decide +kernel
theorem dL_openBehind_4 : decode cL_openBehind 4 = .ok (.iload_n 2, 1) := by decide +kernel
theorem dL_openBehind_5 : decode cL_openBehind 5 = .ok (.invokevirtual 118, 3) := by decide +kernel
theorem dL_openBehind_8 : decode cL_openBehind 8 = .ok (.i2l, 1) := by decide +kernel
theorem dL_openBehind_9 : decode cL_openBehind 9 = .ok (.lastore, 1) := by decide +kernel
theorem dL_openBehind_10 : decode cL_openBehind 10 = .ok (.goto 7, 3) := by decide +kernel
theorem dL_openBehind_13 : decode cL_openBehind 13 = .ok (.astore 4, 2) := by decide +kernel
theorem dL_openBehind_15 : decode cL_openBehind 15 = .ok (.iconst 1, 1) := by decide +kernel
theorem dL_openBehind_16 : decode cL_openBehind 16 = .ok (.ireturn, 1) := by decide +kernel
theorem dL_openBehind_17 : decode cL_openBehind 17 = .ok (.iconst 0, 1) := by decide +kernel
theorem dL_openBehind_18 : decode cL_openBehind 18 = .ok (.ireturn, 1) := by decide +kernel
theorem dL_law_0 : decode cL_law 0 = .ok (.new 8, 3) := by decide +kernel
theorem dL_law_3 : decode cL_law 3 = .ok (.dup, 1) := by decide +kernel
theorem dL_law_4 : decode cL_law 4 = .ok (.invokespecial 121, 3) := by decide +kernel
theorem dL_law_7 : decode cL_law 7 = .ok (.astore_n 1, 1) := by decide +kernel
theorem dL_law_8 : decode cL_law 8 = .ok (.new 122, 3) := by decide +kernel
theorem dL_law_11 : decode cL_law 11 = .ok (.dup, 1) := by decide +kernel
theorem dL_law_12 : decode cL_law 12 = .ok (.invokespecial 124, 3) := by decide +kernel
theorem dL_law_15 : decode cL_law 15 = .ok (.astore_n 2, 1) := by decide +kernel
theorem dL_law_16 : decode cL_law 16 = .ok (.iconst 1, 1) := by decide +kernel
theorem dL_law_17 : decode cL_law 17 = .ok (.newarray .long, 2) := by decide +kernel
theorem dL_law_19 : decode cL_law 19 = .ok (.astore_n 3, 1) := by decide +kernel
theorem dL_law_20 : decode cL_law 20 = .ok (.iconst 1, 1) := by decide +kernel
theorem dL_law_21 : decode cL_law 21 = .ok (.newarray .double, 2) := by decide +kernel
theorem dL_law_23 : decode cL_law 23 = .ok (.astore 4, 2) := by decide +kernel
theorem dL_law_25 : decode cL_law 25 = .ok (.iconst 0, 1) := by decide +kernel
theorem dL_law_26 : decode cL_law 26 = .ok (.istore 5, 2) := by decide +kernel
theorem dL_law_28 : decode cL_law 28 = .ok (.iload 5, 2) := by decide +kernel
theorem dL_law_30 : decode cL_law 30 = .ok (.aload_n 0, 1) := by decide +kernel
theorem dL_law_31 : decode cL_law 31 = .ok (.arraylength, 1) := by decide +kernel
theorem dL_law_32 : decode cL_law 32 = .ok (.bipush 6, 2) := by decide +kernel
theorem dL_law_34 : decode cL_law 34 = .ok (.isub, 1) := by decide +kernel
theorem dL_law_35 : decode cL_law 35 = .ok (.if_icmp .gt 2335, 3) := by decide +kernel
theorem dL_law_38 : decode cL_law 38 = .ok (.aload_n 0, 1) := by decide +kernel
theorem dL_law_39 : decode cL_law 39 = .ok (.iload 5, 2) := by decide +kernel
theorem dL_law_41 : decode cL_law 41 = .ok (.iaload, 1) := by decide +kernel
theorem dL_law_42 : decode cL_law 42 = .ok (.bipush 63, 2) := by decide +kernel
theorem dL_law_44 : decode cL_law 44 = .ok (.iand, 1) := by decide +kernel
theorem dL_law_45 : decode cL_law 45 = .ok (.tableswitch 2319 0 34 #[155, 199, 279, 347, 407, 463, 543, 623, 703, 759, 863, 919, 975, 1031, 1087, 1143, 1156, 1212, 1225, 1281, 1337, 1405, 1473, 1551, 1619, 1687, 1743, 1799, 1855, 1911, 1979, 2047, 2115, 2183, 2251], 155) := by decide +kernel
theorem dL_law_200 : decode cL_law 200 = .ok (.aload_n 1, 1) := by decide +kernel
theorem dL_law_201 : decode cL_law 201 = .ok (.aload_n 3, 1) := by decide +kernel
theorem dL_law_202 : decode cL_law 202 = .ok (.invokestatic 125, 3) := by decide +kernel
theorem dL_law_205 : decode cL_law 205 = .ok (.istore 6, 2) := by decide +kernel
theorem dL_law_207 : decode cL_law 207 = .ok (.aload_n 2, 1) := by decide +kernel
theorem dL_law_208 : decode cL_law 208 = .ok (.invokevirtual 130, 3) := by decide +kernel
theorem dL_law_211 : decode cL_law 211 = .ok (.istore 7, 2) := by decide +kernel
theorem dL_law_213 : decode cL_law 213 = .ok (.aload_n 2, 1) := by decide +kernel
theorem dL_law_214 : decode cL_law 214 = .ok (.invokevirtual 131, 3) := by decide +kernel
theorem dL_law_217 : decode cL_law 217 = .ok (.iload 6, 2) := by decide +kernel
theorem dL_law_219 : decode cL_law 219 = .ok (.if_icmp .eq 5, 3) := by decide +kernel
theorem dL_law_222 : decode cL_law 222 = .ok (.iconst 0, 1) := by decide +kernel
theorem dL_law_223 : decode cL_law 223 = .ok (.ireturn, 1) := by decide +kernel
theorem dL_law_224 : decode cL_law 224 = .ok (.iload 6, 2) := by decide +kernel
theorem dL_law_226 : decode cL_law 226 = .ok (.ifCond .ne 15, 3) := by decide +kernel
theorem dL_law_229 : decode cL_law 229 = .ok (.aload_n 3, 1) := by decide +kernel
theorem dL_law_230 : decode cL_law 230 = .ok (.iconst 0, 1) := by decide +kernel
theorem dL_law_231 : decode cL_law 231 = .ok (.laload, 1) := by decide +kernel
theorem dL_law_232 : decode cL_law 232 = .ok (.iload 7, 2) := by decide +kernel
theorem dL_law_234 : decode cL_law 234 = .ok (.i2l, 1) := by decide +kernel
theorem dL_law_235 : decode cL_law 235 = .ok (.lcmp, 1) := by decide +kernel
theorem dL_law_236 : decode cL_law 236 = .ok (.ifCond .eq 5, 3) := by decide +kernel
theorem dL_law_239 : decode cL_law 239 = .ok (.iconst 0, 1) := by decide +kernel
theorem dL_law_240 : decode cL_law 240 = .ok (.ireturn, 1) := by decide +kernel
theorem dL_law_241 : decode cL_law 241 = .ok (.goto 2123, 3) := by decide +kernel
theorem dL_law_244 : decode cL_law 244 = .ok (.aload_n 1, 1) := by decide +kernel
theorem dL_law_245 : decode cL_law 245 = .ok (.aload_n 0, 1) := by decide +kernel
theorem dL_law_246 : decode cL_law 246 = .ok (.iload 5, 2) := by decide +kernel
theorem dL_law_248 : decode cL_law 248 = .ok (.iconst 1, 1) := by decide +kernel
theorem dL_law_249 : decode cL_law 249 = .ok (.iadd, 1) := by decide +kernel
theorem dL_law_250 : decode cL_law 250 = .ok (.iaload, 1) := by decide +kernel
theorem dL_law_251 : decode cL_law 251 = .ok (.aload_n 0, 1) := by decide +kernel
theorem dL_law_252 : decode cL_law 252 = .ok (.iload 5, 2) := by decide +kernel
theorem dL_law_254 : decode cL_law 254 = .ok (.iconst 2, 1) := by decide +kernel
theorem dL_law_255 : decode cL_law 255 = .ok (.iadd, 1) := by decide +kernel
theorem dL_law_256 : decode cL_law 256 = .ok (.iaload, 1) := by decide +kernel
theorem dL_law_257 : decode cL_law 257 = .ok (.aload_n 0, 1) := by decide +kernel
theorem dL_law_258 : decode cL_law 258 = .ok (.iload 5, 2) := by decide +kernel
theorem dL_law_260 : decode cL_law 260 = .ok (.iconst 3, 1) := by decide +kernel
theorem dL_law_261 : decode cL_law 261 = .ok (.iadd, 1) := by decide +kernel
theorem dL_law_262 : decode cL_law 262 = .ok (.iaload, 1) := by decide +kernel
theorem dL_law_263 : decode cL_law 263 = .ok (.aload_n 3, 1) := by decide +kernel
theorem dL_law_264 : decode cL_law 264 = .ok (.invokestatic 134, 3) := by decide +kernel
theorem dL_law_267 : decode cL_law 267 = .ok (.istore 6, 2) := by decide +kernel
theorem dL_law_269 : decode cL_law 269 = .ok (.aload_n 2, 1) := by decide +kernel
theorem dL_law_270 : decode cL_law 270 = .ok (.aload_n 0, 1) := by decide +kernel
theorem dL_law_271 : decode cL_law 271 = .ok (.iload 5, 2) := by decide +kernel
theorem dL_law_273 : decode cL_law 273 = .ok (.iconst 1, 1) := by decide +kernel
theorem dL_law_274 : decode cL_law 274 = .ok (.iadd, 1) := by decide +kernel
theorem dL_law_275 : decode cL_law 275 = .ok (.iaload, 1) := by decide +kernel
theorem dL_law_276 : decode cL_law 276 = .ok (.aload_n 0, 1) := by decide +kernel
theorem dL_law_277 : decode cL_law 277 = .ok (.iload 5, 2) := by decide +kernel
theorem dL_law_279 : decode cL_law 279 = .ok (.iconst 2, 1) := by decide +kernel
theorem dL_law_280 : decode cL_law 280 = .ok (.iadd, 1) := by decide +kernel
theorem dL_law_281 : decode cL_law 281 = .ok (.iaload, 1) := by decide +kernel
theorem dL_law_282 : decode cL_law 282 = .ok (.aload_n 0, 1) := by decide +kernel
theorem dL_law_283 : decode cL_law 283 = .ok (.iload 5, 2) := by decide +kernel
theorem dL_law_285 : decode cL_law 285 = .ok (.iconst 3, 1) := by decide +kernel
theorem dL_law_286 : decode cL_law 286 = .ok (.iadd, 1) := by decide +kernel
theorem dL_law_287 : decode cL_law 287 = .ok (.iaload, 1) := by decide +kernel
theorem dL_law_288 : decode cL_law 288 = .ok (.invokevirtual 137, 3) := by decide +kernel
theorem dL_law_291 : decode cL_law 291 = .ok (.istore 7, 2) := by decide +kernel
theorem dL_law_293 : decode cL_law 293 = .ok (.aload_n 2, 1) := by decide +kernel
theorem dL_law_294 : decode cL_law 294 = .ok (.invokevirtual 131, 3) := by decide +kernel
theorem dL_law_297 : decode cL_law 297 = .ok (.iload 6, 2) := by decide +kernel
theorem dL_law_299 : decode cL_law 299 = .ok (.if_icmp .eq 5, 3) := by decide +kernel
theorem dL_law_302 : decode cL_law 302 = .ok (.iconst 0, 1) := by decide +kernel
theorem dL_law_303 : decode cL_law 303 = .ok (.ireturn, 1) := by decide +kernel
theorem dL_law_304 : decode cL_law 304 = .ok (.iload 6, 2) := by decide +kernel
theorem dL_law_306 : decode cL_law 306 = .ok (.ifCond .ne 15, 3) := by decide +kernel
theorem dL_law_309 : decode cL_law 309 = .ok (.aload_n 3, 1) := by decide +kernel
theorem dL_law_310 : decode cL_law 310 = .ok (.iconst 0, 1) := by decide +kernel
theorem dL_law_311 : decode cL_law 311 = .ok (.laload, 1) := by decide +kernel
theorem dL_law_312 : decode cL_law 312 = .ok (.iload 7, 2) := by decide +kernel
theorem dL_law_314 : decode cL_law 314 = .ok (.i2l, 1) := by decide +kernel
theorem dL_law_315 : decode cL_law 315 = .ok (.lcmp, 1) := by decide +kernel
theorem dL_law_316 : decode cL_law 316 = .ok (.ifCond .eq 5, 3) := by decide +kernel
theorem dL_law_319 : decode cL_law 319 = .ok (.iconst 0, 1) := by decide +kernel
theorem dL_law_320 : decode cL_law 320 = .ok (.ireturn, 1) := by decide +kernel
theorem dL_law_321 : decode cL_law 321 = .ok (.goto 2043, 3) := by decide +kernel
theorem dL_law_324 : decode cL_law 324 = .ok (.aload_n 1, 1) := by decide +kernel
theorem dL_law_325 : decode cL_law 325 = .ok (.aload_n 0, 1) := by decide +kernel
theorem dL_law_326 : decode cL_law 326 = .ok (.iload 5, 2) := by decide +kernel
theorem dL_law_328 : decode cL_law 328 = .ok (.iconst 1, 1) := by decide +kernel
theorem dL_law_329 : decode cL_law 329 = .ok (.iadd, 1) := by decide +kernel
theorem dL_law_330 : decode cL_law 330 = .ok (.iaload, 1) := by decide +kernel
theorem dL_law_331 : decode cL_law 331 = .ok (.aload_n 0, 1) := by decide +kernel
theorem dL_law_332 : decode cL_law 332 = .ok (.iload 5, 2) := by decide +kernel
theorem dL_law_334 : decode cL_law 334 = .ok (.iconst 2, 1) := by decide +kernel
theorem dL_law_335 : decode cL_law 335 = .ok (.iadd, 1) := by decide +kernel
theorem dL_law_336 : decode cL_law 336 = .ok (.iaload, 1) := by decide +kernel
theorem dL_law_337 : decode cL_law 337 = .ok (.aload_n 3, 1) := by decide +kernel
theorem dL_law_338 : decode cL_law 338 = .ok (.invokestatic 138, 3) := by decide +kernel
theorem dL_law_341 : decode cL_law 341 = .ok (.istore 6, 2) := by decide +kernel
theorem dL_law_343 : decode cL_law 343 = .ok (.aload_n 2, 1) := by decide +kernel
theorem dL_law_344 : decode cL_law 344 = .ok (.aload_n 0, 1) := by decide +kernel
theorem dL_law_345 : decode cL_law 345 = .ok (.iload 5, 2) := by decide +kernel
theorem dL_law_347 : decode cL_law 347 = .ok (.iconst 1, 1) := by decide +kernel
theorem dL_law_348 : decode cL_law 348 = .ok (.iadd, 1) := by decide +kernel
theorem dL_law_349 : decode cL_law 349 = .ok (.iaload, 1) := by decide +kernel
theorem dL_law_350 : decode cL_law 350 = .ok (.aload_n 0, 1) := by decide +kernel
theorem dL_law_351 : decode cL_law 351 = .ok (.iload 5, 2) := by decide +kernel
theorem dL_law_353 : decode cL_law 353 = .ok (.iconst 2, 1) := by decide +kernel
theorem dL_law_354 : decode cL_law 354 = .ok (.iadd, 1) := by decide +kernel
theorem dL_law_355 : decode cL_law 355 = .ok (.iaload, 1) := by decide +kernel
theorem dL_law_356 : decode cL_law 356 = .ok (.invokevirtual 141, 3) := by decide +kernel
theorem dL_law_359 : decode cL_law 359 = .ok (.istore 7, 2) := by decide +kernel
theorem dL_law_361 : decode cL_law 361 = .ok (.aload_n 2, 1) := by decide +kernel
theorem dL_law_362 : decode cL_law 362 = .ok (.invokevirtual 131, 3) := by decide +kernel
theorem dL_law_365 : decode cL_law 365 = .ok (.iload 6, 2) := by decide +kernel
theorem dL_law_367 : decode cL_law 367 = .ok (.if_icmp .eq 5, 3) := by decide +kernel
theorem dL_law_370 : decode cL_law 370 = .ok (.iconst 0, 1) := by decide +kernel
theorem dL_law_371 : decode cL_law 371 = .ok (.ireturn, 1) := by decide +kernel
theorem dL_law_372 : decode cL_law 372 = .ok (.iload 6, 2) := by decide +kernel
theorem dL_law_374 : decode cL_law 374 = .ok (.ifCond .ne 15, 3) := by decide +kernel
theorem dL_law_377 : decode cL_law 377 = .ok (.aload_n 3, 1) := by decide +kernel
theorem dL_law_378 : decode cL_law 378 = .ok (.iconst 0, 1) := by decide +kernel
theorem dL_law_379 : decode cL_law 379 = .ok (.laload, 1) := by decide +kernel
theorem dL_law_380 : decode cL_law 380 = .ok (.iload 7, 2) := by decide +kernel
theorem dL_law_382 : decode cL_law 382 = .ok (.i2l, 1) := by decide +kernel
theorem dL_law_383 : decode cL_law 383 = .ok (.lcmp, 1) := by decide +kernel
theorem dL_law_384 : decode cL_law 384 = .ok (.ifCond .eq 5, 3) := by decide +kernel
theorem dL_law_387 : decode cL_law 387 = .ok (.iconst 0, 1) := by decide +kernel
theorem dL_law_388 : decode cL_law 388 = .ok (.ireturn, 1) := by decide +kernel
theorem dL_law_389 : decode cL_law 389 = .ok (.goto 1975, 3) := by decide +kernel
theorem dL_law_392 : decode cL_law 392 = .ok (.aload_n 1, 1) := by decide +kernel
theorem dL_law_393 : decode cL_law 393 = .ok (.aload_n 0, 1) := by decide +kernel
theorem dL_law_394 : decode cL_law 394 = .ok (.iload 5, 2) := by decide +kernel
theorem dL_law_396 : decode cL_law 396 = .ok (.iconst 1, 1) := by decide +kernel
theorem dL_law_397 : decode cL_law 397 = .ok (.iadd, 1) := by decide +kernel
theorem dL_law_398 : decode cL_law 398 = .ok (.iaload, 1) := by decide +kernel
theorem dL_law_399 : decode cL_law 399 = .ok (.aload_n 0, 1) := by decide +kernel
theorem dL_law_400 : decode cL_law 400 = .ok (.iload 5, 2) := by decide +kernel
theorem dL_law_402 : decode cL_law 402 = .ok (.iconst 2, 1) := by decide +kernel
theorem dL_law_403 : decode cL_law 403 = .ok (.iadd, 1) := by decide +kernel
theorem dL_law_404 : decode cL_law 404 = .ok (.iaload, 1) := by decide +kernel
theorem dL_law_405 : decode cL_law 405 = .ok (.aload_n 0, 1) := by decide +kernel
theorem dL_law_406 : decode cL_law 406 = .ok (.iload 5, 2) := by decide +kernel
theorem dL_law_408 : decode cL_law 408 = .ok (.iconst 3, 1) := by decide +kernel
theorem dL_law_409 : decode cL_law 409 = .ok (.iadd, 1) := by decide +kernel
theorem dL_law_410 : decode cL_law 410 = .ok (.iaload, 1) := by decide +kernel
theorem dL_law_411 : decode cL_law 411 = .ok (.invokestatic 142, 3) := by decide +kernel
theorem dL_law_414 : decode cL_law 414 = .ok (.istore 6, 2) := by decide +kernel
theorem dL_law_416 : decode cL_law 416 = .ok (.aload_n 2, 1) := by decide +kernel
theorem dL_law_417 : decode cL_law 417 = .ok (.aload_n 0, 1) := by decide +kernel
theorem dL_law_418 : decode cL_law 418 = .ok (.iload 5, 2) := by decide +kernel
theorem dL_law_420 : decode cL_law 420 = .ok (.iconst 1, 1) := by decide +kernel
theorem dL_law_421 : decode cL_law 421 = .ok (.iadd, 1) := by decide +kernel
theorem dL_law_422 : decode cL_law 422 = .ok (.iaload, 1) := by decide +kernel
theorem dL_law_423 : decode cL_law 423 = .ok (.aload_n 0, 1) := by decide +kernel
theorem dL_law_424 : decode cL_law 424 = .ok (.iload 5, 2) := by decide +kernel
theorem dL_law_426 : decode cL_law 426 = .ok (.iconst 2, 1) := by decide +kernel
theorem dL_law_427 : decode cL_law 427 = .ok (.iadd, 1) := by decide +kernel
theorem dL_law_428 : decode cL_law 428 = .ok (.iaload, 1) := by decide +kernel
theorem dL_law_429 : decode cL_law 429 = .ok (.aload_n 0, 1) := by decide +kernel
theorem dL_law_430 : decode cL_law 430 = .ok (.iload 5, 2) := by decide +kernel
theorem dL_law_432 : decode cL_law 432 = .ok (.iconst 3, 1) := by decide +kernel
theorem dL_law_433 : decode cL_law 433 = .ok (.iadd, 1) := by decide +kernel
theorem dL_law_434 : decode cL_law 434 = .ok (.iaload, 1) := by decide +kernel
theorem dL_law_435 : decode cL_law 435 = .ok (.invokevirtual 145, 3) := by decide +kernel
theorem dL_law_438 : decode cL_law 438 = .ok (.aload_n 2, 1) := by decide +kernel
theorem dL_law_439 : decode cL_law 439 = .ok (.invokevirtual 131, 3) := by decide +kernel
theorem dL_law_442 : decode cL_law 442 = .ok (.iload 6, 2) := by decide +kernel
theorem dL_law_444 : decode cL_law 444 = .ok (.if_icmp .eq 5, 3) := by decide +kernel
theorem dL_law_447 : decode cL_law 447 = .ok (.iconst 0, 1) := by decide +kernel
theorem dL_law_448 : decode cL_law 448 = .ok (.ireturn, 1) := by decide +kernel
theorem dL_law_449 : decode cL_law 449 = .ok (.goto 1915, 3) := by decide +kernel
theorem dL_law_452 : decode cL_law 452 = .ok (.aload_n 1, 1) := by decide +kernel
theorem dL_law_453 : decode cL_law 453 = .ok (.aload_n 0, 1) := by decide +kernel
theorem dL_law_454 : decode cL_law 454 = .ok (.iload 5, 2) := by decide +kernel
theorem dL_law_456 : decode cL_law 456 = .ok (.iconst 1, 1) := by decide +kernel
theorem dL_law_457 : decode cL_law 457 = .ok (.iadd, 1) := by decide +kernel
theorem dL_law_458 : decode cL_law 458 = .ok (.iaload, 1) := by decide +kernel
theorem dL_law_459 : decode cL_law 459 = .ok (.aload_n 3, 1) := by decide +kernel
theorem dL_law_460 : decode cL_law 460 = .ok (.invokestatic 146, 3) := by decide +kernel
theorem dL_law_463 : decode cL_law 463 = .ok (.istore 6, 2) := by decide +kernel
theorem dL_law_465 : decode cL_law 465 = .ok (.aload_n 2, 1) := by decide +kernel
theorem dL_law_466 : decode cL_law 466 = .ok (.aload_n 0, 1) := by decide +kernel
theorem dL_law_467 : decode cL_law 467 = .ok (.iload 5, 2) := by decide +kernel
theorem dL_law_469 : decode cL_law 469 = .ok (.iconst 1, 1) := by decide +kernel
theorem dL_law_470 : decode cL_law 470 = .ok (.iadd, 1) := by decide +kernel
theorem dL_law_471 : decode cL_law 471 = .ok (.iaload, 1) := by decide +kernel
theorem dL_law_472 : decode cL_law 472 = .ok (.invokevirtual 149, 3) := by decide +kernel
theorem dL_law_475 : decode cL_law 475 = .ok (.istore 7, 2) := by decide +kernel
theorem dL_law_477 : decode cL_law 477 = .ok (.aload_n 2, 1) := by decide +kernel
theorem dL_law_478 : decode cL_law 478 = .ok (.invokevirtual 131, 3) := by decide +kernel
theorem dL_law_481 : decode cL_law 481 = .ok (.iload 6, 2) := by decide +kernel
theorem dL_law_483 : decode cL_law 483 = .ok (.if_icmp .eq 5, 3) := by decide +kernel
theorem dL_law_486 : decode cL_law 486 = .ok (.iconst 0, 1) := by decide +kernel
theorem dL_law_487 : decode cL_law 487 = .ok (.ireturn, 1) := by decide +kernel
theorem dL_law_488 : decode cL_law 488 = .ok (.iload 6, 2) := by decide +kernel
theorem dL_law_490 : decode cL_law 490 = .ok (.ifCond .ne 15, 3) := by decide +kernel
theorem dL_law_493 : decode cL_law 493 = .ok (.aload_n 3, 1) := by decide +kernel
theorem dL_law_494 : decode cL_law 494 = .ok (.iconst 0, 1) := by decide +kernel
theorem dL_law_495 : decode cL_law 495 = .ok (.laload, 1) := by decide +kernel
theorem dL_law_496 : decode cL_law 496 = .ok (.iload 7, 2) := by decide +kernel
theorem dL_law_498 : decode cL_law 498 = .ok (.i2l, 1) := by decide +kernel
theorem dL_law_499 : decode cL_law 499 = .ok (.lcmp, 1) := by decide +kernel
theorem dL_law_500 : decode cL_law 500 = .ok (.ifCond .eq 5, 3) := by decide +kernel
theorem dL_law_503 : decode cL_law 503 = .ok (.iconst 0, 1) := by decide +kernel
theorem dL_law_504 : decode cL_law 504 = .ok (.ireturn, 1) := by decide +kernel
theorem dL_law_505 : decode cL_law 505 = .ok (.goto 1859, 3) := by decide +kernel
theorem dL_law_508 : decode cL_law 508 = .ok (.aload_n 1, 1) := by decide +kernel
theorem dL_law_509 : decode cL_law 509 = .ok (.aload_n 0, 1) := by decide +kernel
theorem dL_law_510 : decode cL_law 510 = .ok (.iload 5, 2) := by decide +kernel
theorem dL_law_512 : decode cL_law 512 = .ok (.iconst 1, 1) := by decide +kernel
theorem dL_law_513 : decode cL_law 513 = .ok (.iadd, 1) := by decide +kernel
theorem dL_law_514 : decode cL_law 514 = .ok (.iaload, 1) := by decide +kernel
theorem dL_law_515 : decode cL_law 515 = .ok (.aload_n 0, 1) := by decide +kernel
theorem dL_law_516 : decode cL_law 516 = .ok (.iload 5, 2) := by decide +kernel
theorem dL_law_518 : decode cL_law 518 = .ok (.iconst 2, 1) := by decide +kernel
theorem dL_law_519 : decode cL_law 519 = .ok (.iadd, 1) := by decide +kernel
theorem dL_law_520 : decode cL_law 520 = .ok (.iaload, 1) := by decide +kernel
theorem dL_law_521 : decode cL_law 521 = .ok (.aload_n 0, 1) := by decide +kernel
theorem dL_law_522 : decode cL_law 522 = .ok (.iload 5, 2) := by decide +kernel
theorem dL_law_524 : decode cL_law 524 = .ok (.iconst 3, 1) := by decide +kernel
theorem dL_law_525 : decode cL_law 525 = .ok (.iadd, 1) := by decide +kernel
theorem dL_law_526 : decode cL_law 526 = .ok (.iaload, 1) := by decide +kernel
theorem dL_law_527 : decode cL_law 527 = .ok (.aload_n 3, 1) := by decide +kernel
theorem dL_law_528 : decode cL_law 528 = .ok (.invokestatic 150, 3) := by decide +kernel
theorem dL_law_531 : decode cL_law 531 = .ok (.istore 6, 2) := by decide +kernel
theorem dL_law_533 : decode cL_law 533 = .ok (.aload_n 2, 1) := by decide +kernel
theorem dL_law_534 : decode cL_law 534 = .ok (.aload_n 0, 1) := by decide +kernel
theorem dL_law_535 : decode cL_law 535 = .ok (.iload 5, 2) := by decide +kernel
theorem dL_law_537 : decode cL_law 537 = .ok (.iconst 1, 1) := by decide +kernel
theorem dL_law_538 : decode cL_law 538 = .ok (.iadd, 1) := by decide +kernel
theorem dL_law_539 : decode cL_law 539 = .ok (.iaload, 1) := by decide +kernel
theorem dL_law_540 : decode cL_law 540 = .ok (.aload_n 0, 1) := by decide +kernel
theorem dL_law_541 : decode cL_law 541 = .ok (.iload 5, 2) := by decide +kernel
theorem dL_law_543 : decode cL_law 543 = .ok (.iconst 2, 1) := by decide +kernel
theorem dL_law_544 : decode cL_law 544 = .ok (.iadd, 1) := by decide +kernel
theorem dL_law_545 : decode cL_law 545 = .ok (.iaload, 1) := by decide +kernel
theorem dL_law_546 : decode cL_law 546 = .ok (.aload_n 0, 1) := by decide +kernel
theorem dL_law_547 : decode cL_law 547 = .ok (.iload 5, 2) := by decide +kernel
theorem dL_law_549 : decode cL_law 549 = .ok (.iconst 3, 1) := by decide +kernel
theorem dL_law_550 : decode cL_law 550 = .ok (.iadd, 1) := by decide +kernel
theorem dL_law_551 : decode cL_law 551 = .ok (.iaload, 1) := by decide +kernel
theorem dL_law_552 : decode cL_law 552 = .ok (.invokevirtual 152, 3) := by decide +kernel
theorem dL_law_555 : decode cL_law 555 = .ok (.istore 7, 2) := by decide +kernel
theorem dL_law_557 : decode cL_law 557 = .ok (.aload_n 2, 1) := by decide +kernel
theorem dL_law_558 : decode cL_law 558 = .ok (.invokevirtual 131, 3) := by decide +kernel
theorem dL_law_561 : decode cL_law 561 = .ok (.iload 6, 2) := by decide +kernel
theorem dL_law_563 : decode cL_law 563 = .ok (.if_icmp .eq 5, 3) := by decide +kernel
theorem dL_law_566 : decode cL_law 566 = .ok (.iconst 0, 1) := by decide +kernel
theorem dL_law_567 : decode cL_law 567 = .ok (.ireturn, 1) := by decide +kernel
theorem dL_law_568 : decode cL_law 568 = .ok (.iload 6, 2) := by decide +kernel
theorem dL_law_570 : decode cL_law 570 = .ok (.ifCond .ne 15, 3) := by decide +kernel
theorem dL_law_573 : decode cL_law 573 = .ok (.aload_n 3, 1) := by decide +kernel
theorem dL_law_574 : decode cL_law 574 = .ok (.iconst 0, 1) := by decide +kernel
theorem dL_law_575 : decode cL_law 575 = .ok (.laload, 1) := by decide +kernel
theorem dL_law_576 : decode cL_law 576 = .ok (.iload 7, 2) := by decide +kernel
theorem dL_law_578 : decode cL_law 578 = .ok (.i2l, 1) := by decide +kernel
theorem dL_law_579 : decode cL_law 579 = .ok (.lcmp, 1) := by decide +kernel
theorem dL_law_580 : decode cL_law 580 = .ok (.ifCond .eq 5, 3) := by decide +kernel
theorem dL_law_583 : decode cL_law 583 = .ok (.iconst 0, 1) := by decide +kernel
theorem dL_law_584 : decode cL_law 584 = .ok (.ireturn, 1) := by decide +kernel
theorem dL_law_585 : decode cL_law 585 = .ok (.goto 1779, 3) := by decide +kernel
theorem dL_law_588 : decode cL_law 588 = .ok (.aload_n 1, 1) := by decide +kernel
theorem dL_law_589 : decode cL_law 589 = .ok (.aload_n 0, 1) := by decide +kernel
theorem dL_law_590 : decode cL_law 590 = .ok (.iload 5, 2) := by decide +kernel
theorem dL_law_592 : decode cL_law 592 = .ok (.iconst 1, 1) := by decide +kernel
theorem dL_law_593 : decode cL_law 593 = .ok (.iadd, 1) := by decide +kernel
theorem dL_law_594 : decode cL_law 594 = .ok (.iaload, 1) := by decide +kernel
theorem dL_law_595 : decode cL_law 595 = .ok (.aload_n 0, 1) := by decide +kernel
theorem dL_law_596 : decode cL_law 596 = .ok (.iload 5, 2) := by decide +kernel
theorem dL_law_598 : decode cL_law 598 = .ok (.iconst 2, 1) := by decide +kernel
theorem dL_law_599 : decode cL_law 599 = .ok (.iadd, 1) := by decide +kernel
theorem dL_law_600 : decode cL_law 600 = .ok (.iaload, 1) := by decide +kernel
theorem dL_law_601 : decode cL_law 601 = .ok (.aload_n 0, 1) := by decide +kernel
theorem dL_law_602 : decode cL_law 602 = .ok (.iload 5, 2) := by decide +kernel
theorem dL_law_604 : decode cL_law 604 = .ok (.iconst 3, 1) := by decide +kernel
theorem dL_law_605 : decode cL_law 605 = .ok (.iadd, 1) := by decide +kernel
theorem dL_law_606 : decode cL_law 606 = .ok (.iaload, 1) := by decide +kernel
theorem dL_law_607 : decode cL_law 607 = .ok (.aload_n 3, 1) := by decide +kernel
theorem dL_law_608 : decode cL_law 608 = .ok (.invokestatic 153, 3) := by decide +kernel
theorem dL_law_611 : decode cL_law 611 = .ok (.istore 6, 2) := by decide +kernel
theorem dL_law_613 : decode cL_law 613 = .ok (.aload_n 2, 1) := by decide +kernel
theorem dL_law_614 : decode cL_law 614 = .ok (.aload_n 0, 1) := by decide +kernel
theorem dL_law_615 : decode cL_law 615 = .ok (.iload 5, 2) := by decide +kernel
theorem dL_law_617 : decode cL_law 617 = .ok (.iconst 1, 1) := by decide +kernel
theorem dL_law_618 : decode cL_law 618 = .ok (.iadd, 1) := by decide +kernel
theorem dL_law_619 : decode cL_law 619 = .ok (.iaload, 1) := by decide +kernel
theorem dL_law_620 : decode cL_law 620 = .ok (.aload_n 0, 1) := by decide +kernel
theorem dL_law_621 : decode cL_law 621 = .ok (.iload 5, 2) := by decide +kernel
theorem dL_law_623 : decode cL_law 623 = .ok (.iconst 2, 1) := by decide +kernel
theorem dL_law_624 : decode cL_law 624 = .ok (.iadd, 1) := by decide +kernel
theorem dL_law_625 : decode cL_law 625 = .ok (.iaload, 1) := by decide +kernel
theorem dL_law_626 : decode cL_law 626 = .ok (.aload_n 0, 1) := by decide +kernel
theorem dL_law_627 : decode cL_law 627 = .ok (.iload 5, 2) := by decide +kernel
theorem dL_law_629 : decode cL_law 629 = .ok (.iconst 3, 1) := by decide +kernel
theorem dL_law_630 : decode cL_law 630 = .ok (.iadd, 1) := by decide +kernel
theorem dL_law_631 : decode cL_law 631 = .ok (.iaload, 1) := by decide +kernel
theorem dL_law_632 : decode cL_law 632 = .ok (.invokevirtual 155, 3) := by decide +kernel
theorem dL_law_635 : decode cL_law 635 = .ok (.istore 7, 2) := by decide +kernel
theorem dL_law_637 : decode cL_law 637 = .ok (.aload_n 2, 1) := by decide +kernel
theorem dL_law_638 : decode cL_law 638 = .ok (.invokevirtual 131, 3) := by decide +kernel
theorem dL_law_641 : decode cL_law 641 = .ok (.iload 6, 2) := by decide +kernel
theorem dL_law_643 : decode cL_law 643 = .ok (.if_icmp .eq 5, 3) := by decide +kernel
theorem dL_law_646 : decode cL_law 646 = .ok (.iconst 0, 1) := by decide +kernel
theorem dL_law_647 : decode cL_law 647 = .ok (.ireturn, 1) := by decide +kernel
theorem dL_law_648 : decode cL_law 648 = .ok (.iload 6, 2) := by decide +kernel
theorem dL_law_650 : decode cL_law 650 = .ok (.ifCond .ne 15, 3) := by decide +kernel
theorem dL_law_653 : decode cL_law 653 = .ok (.aload_n 3, 1) := by decide +kernel
theorem dL_law_654 : decode cL_law 654 = .ok (.iconst 0, 1) := by decide +kernel
theorem dL_law_655 : decode cL_law 655 = .ok (.laload, 1) := by decide +kernel
theorem dL_law_656 : decode cL_law 656 = .ok (.iload 7, 2) := by decide +kernel
theorem dL_law_658 : decode cL_law 658 = .ok (.i2l, 1) := by decide +kernel
theorem dL_law_659 : decode cL_law 659 = .ok (.lcmp, 1) := by decide +kernel
theorem dL_law_660 : decode cL_law 660 = .ok (.ifCond .eq 5, 3) := by decide +kernel
theorem dL_law_663 : decode cL_law 663 = .ok (.iconst 0, 1) := by decide +kernel
theorem dL_law_664 : decode cL_law 664 = .ok (.ireturn, 1) := by decide +kernel
theorem dL_law_665 : decode cL_law 665 = .ok (.goto 1699, 3) := by decide +kernel
theorem dL_law_668 : decode cL_law 668 = .ok (.aload_n 1, 1) := by decide +kernel
theorem dL_law_669 : decode cL_law 669 = .ok (.aload_n 0, 1) := by decide +kernel
theorem dL_law_670 : decode cL_law 670 = .ok (.iload 5, 2) := by decide +kernel
theorem dL_law_672 : decode cL_law 672 = .ok (.iconst 1, 1) := by decide +kernel
theorem dL_law_673 : decode cL_law 673 = .ok (.iadd, 1) := by decide +kernel
theorem dL_law_674 : decode cL_law 674 = .ok (.iaload, 1) := by decide +kernel
theorem dL_law_675 : decode cL_law 675 = .ok (.aload_n 0, 1) := by decide +kernel
theorem dL_law_676 : decode cL_law 676 = .ok (.iload 5, 2) := by decide +kernel
theorem dL_law_678 : decode cL_law 678 = .ok (.iconst 2, 1) := by decide +kernel
theorem dL_law_679 : decode cL_law 679 = .ok (.iadd, 1) := by decide +kernel
theorem dL_law_680 : decode cL_law 680 = .ok (.iaload, 1) := by decide +kernel
theorem dL_law_681 : decode cL_law 681 = .ok (.aload_n 0, 1) := by decide +kernel
theorem dL_law_682 : decode cL_law 682 = .ok (.iload 5, 2) := by decide +kernel
theorem dL_law_684 : decode cL_law 684 = .ok (.iconst 3, 1) := by decide +kernel
theorem dL_law_685 : decode cL_law 685 = .ok (.iadd, 1) := by decide +kernel
theorem dL_law_686 : decode cL_law 686 = .ok (.iaload, 1) := by decide +kernel
theorem dL_law_687 : decode cL_law 687 = .ok (.aload_n 3, 1) := by decide +kernel
theorem dL_law_688 : decode cL_law 688 = .ok (.invokestatic 156, 3) := by decide +kernel
theorem dL_law_691 : decode cL_law 691 = .ok (.istore 6, 2) := by decide +kernel
theorem dL_law_693 : decode cL_law 693 = .ok (.aload_n 2, 1) := by decide +kernel
theorem dL_law_694 : decode cL_law 694 = .ok (.aload_n 0, 1) := by decide +kernel
theorem dL_law_695 : decode cL_law 695 = .ok (.iload 5, 2) := by decide +kernel
theorem dL_law_697 : decode cL_law 697 = .ok (.iconst 1, 1) := by decide +kernel
theorem dL_law_698 : decode cL_law 698 = .ok (.iadd, 1) := by decide +kernel
theorem dL_law_699 : decode cL_law 699 = .ok (.iaload, 1) := by decide +kernel
theorem dL_law_700 : decode cL_law 700 = .ok (.aload_n 0, 1) := by decide +kernel
theorem dL_law_701 : decode cL_law 701 = .ok (.iload 5, 2) := by decide +kernel
theorem dL_law_703 : decode cL_law 703 = .ok (.iconst 2, 1) := by decide +kernel
theorem dL_law_704 : decode cL_law 704 = .ok (.iadd, 1) := by decide +kernel
theorem dL_law_705 : decode cL_law 705 = .ok (.iaload, 1) := by decide +kernel
theorem dL_law_706 : decode cL_law 706 = .ok (.aload_n 0, 1) := by decide +kernel
theorem dL_law_707 : decode cL_law 707 = .ok (.iload 5, 2) := by decide +kernel
theorem dL_law_709 : decode cL_law 709 = .ok (.iconst 3, 1) := by decide +kernel
theorem dL_law_710 : decode cL_law 710 = .ok (.iadd, 1) := by decide +kernel
theorem dL_law_711 : decode cL_law 711 = .ok (.iaload, 1) := by decide +kernel
theorem dL_law_712 : decode cL_law 712 = .ok (.invokevirtual 158, 3) := by decide +kernel
theorem dL_law_715 : decode cL_law 715 = .ok (.istore 7, 2) := by decide +kernel
theorem dL_law_717 : decode cL_law 717 = .ok (.aload_n 2, 1) := by decide +kernel
theorem dL_law_718 : decode cL_law 718 = .ok (.invokevirtual 131, 3) := by decide +kernel
theorem dL_law_721 : decode cL_law 721 = .ok (.iload 6, 2) := by decide +kernel
theorem dL_law_723 : decode cL_law 723 = .ok (.if_icmp .eq 5, 3) := by decide +kernel
theorem dL_law_726 : decode cL_law 726 = .ok (.iconst 0, 1) := by decide +kernel
theorem dL_law_727 : decode cL_law 727 = .ok (.ireturn, 1) := by decide +kernel
theorem dL_law_728 : decode cL_law 728 = .ok (.iload 6, 2) := by decide +kernel
theorem dL_law_730 : decode cL_law 730 = .ok (.ifCond .ne 15, 3) := by decide +kernel
theorem dL_law_733 : decode cL_law 733 = .ok (.aload_n 3, 1) := by decide +kernel
theorem dL_law_734 : decode cL_law 734 = .ok (.iconst 0, 1) := by decide +kernel
theorem dL_law_735 : decode cL_law 735 = .ok (.laload, 1) := by decide +kernel
theorem dL_law_736 : decode cL_law 736 = .ok (.iload 7, 2) := by decide +kernel
theorem dL_law_738 : decode cL_law 738 = .ok (.i2l, 1) := by decide +kernel
theorem dL_law_739 : decode cL_law 739 = .ok (.lcmp, 1) := by decide +kernel
theorem dL_law_740 : decode cL_law 740 = .ok (.ifCond .eq 5, 3) := by decide +kernel
theorem dL_law_743 : decode cL_law 743 = .ok (.iconst 0, 1) := by decide +kernel
theorem dL_law_744 : decode cL_law 744 = .ok (.ireturn, 1) := by decide +kernel
theorem dL_law_745 : decode cL_law 745 = .ok (.goto 1619, 3) := by decide +kernel
theorem dL_law_748 : decode cL_law 748 = .ok (.aload_n 1, 1) := by decide +kernel
theorem dL_law_749 : decode cL_law 749 = .ok (.aload_n 0, 1) := by decide +kernel
theorem dL_law_750 : decode cL_law 750 = .ok (.iload 5, 2) := by decide +kernel
theorem dL_law_752 : decode cL_law 752 = .ok (.iconst 1, 1) := by decide +kernel
theorem dL_law_753 : decode cL_law 753 = .ok (.iadd, 1) := by decide +kernel
theorem dL_law_754 : decode cL_law 754 = .ok (.iaload, 1) := by decide +kernel
theorem dL_law_755 : decode cL_law 755 = .ok (.aload_n 3, 1) := by decide +kernel
theorem dL_law_756 : decode cL_law 756 = .ok (.invokestatic 159, 3) := by decide +kernel
theorem dL_law_759 : decode cL_law 759 = .ok (.istore 6, 2) := by decide +kernel
theorem dL_law_761 : decode cL_law 761 = .ok (.aload_n 2, 1) := by decide +kernel
theorem dL_law_762 : decode cL_law 762 = .ok (.aload_n 0, 1) := by decide +kernel
theorem dL_law_763 : decode cL_law 763 = .ok (.iload 5, 2) := by decide +kernel
theorem dL_law_765 : decode cL_law 765 = .ok (.iconst 1, 1) := by decide +kernel
theorem dL_law_766 : decode cL_law 766 = .ok (.iadd, 1) := by decide +kernel
theorem dL_law_767 : decode cL_law 767 = .ok (.iaload, 1) := by decide +kernel
theorem dL_law_768 : decode cL_law 768 = .ok (.invokevirtual 161, 3) := by decide +kernel
theorem dL_law_771 : decode cL_law 771 = .ok (.istore 7, 2) := by decide +kernel
theorem dL_law_773 : decode cL_law 773 = .ok (.aload_n 2, 1) := by decide +kernel
theorem dL_law_774 : decode cL_law 774 = .ok (.invokevirtual 131, 3) := by decide +kernel
theorem dL_law_777 : decode cL_law 777 = .ok (.iload 6, 2) := by decide +kernel
theorem dL_law_779 : decode cL_law 779 = .ok (.if_icmp .eq 5, 3) := by decide +kernel
theorem dL_law_782 : decode cL_law 782 = .ok (.iconst 0, 1) := by decide +kernel
theorem dL_law_783 : decode cL_law 783 = .ok (.ireturn, 1) := by decide +kernel
theorem dL_law_784 : decode cL_law 784 = .ok (.iload 6, 2) := by decide +kernel
theorem dL_law_786 : decode cL_law 786 = .ok (.ifCond .ne 15, 3) := by decide +kernel
theorem dL_law_789 : decode cL_law 789 = .ok (.aload_n 3, 1) := by decide +kernel
theorem dL_law_790 : decode cL_law 790 = .ok (.iconst 0, 1) := by decide +kernel
theorem dL_law_791 : decode cL_law 791 = .ok (.laload, 1) := by decide +kernel
theorem dL_law_792 : decode cL_law 792 = .ok (.iload 7, 2) := by decide +kernel
theorem dL_law_794 : decode cL_law 794 = .ok (.i2l, 1) := by decide +kernel
theorem dL_law_795 : decode cL_law 795 = .ok (.lcmp, 1) := by decide +kernel
theorem dL_law_796 : decode cL_law 796 = .ok (.ifCond .eq 5, 3) := by decide +kernel
theorem dL_law_799 : decode cL_law 799 = .ok (.iconst 0, 1) := by decide +kernel
theorem dL_law_800 : decode cL_law 800 = .ok (.ireturn, 1) := by decide +kernel
theorem dL_law_801 : decode cL_law 801 = .ok (.goto 1563, 3) := by decide +kernel
theorem dL_law_804 : decode cL_law 804 = .ok (.aload_n 1, 1) := by decide +kernel
theorem dL_law_805 : decode cL_law 805 = .ok (.aload_n 0, 1) := by decide +kernel
theorem dL_law_806 : decode cL_law 806 = .ok (.iload 5, 2) := by decide +kernel
theorem dL_law_808 : decode cL_law 808 = .ok (.iconst 1, 1) := by decide +kernel
theorem dL_law_809 : decode cL_law 809 = .ok (.iadd, 1) := by decide +kernel
theorem dL_law_810 : decode cL_law 810 = .ok (.iaload, 1) := by decide +kernel
theorem dL_law_811 : decode cL_law 811 = .ok (.aload_n 0, 1) := by decide +kernel
theorem dL_law_812 : decode cL_law 812 = .ok (.iload 5, 2) := by decide +kernel
theorem dL_law_814 : decode cL_law 814 = .ok (.iconst 2, 1) := by decide +kernel
theorem dL_law_815 : decode cL_law 815 = .ok (.iadd, 1) := by decide +kernel
theorem dL_law_816 : decode cL_law 816 = .ok (.iaload, 1) := by decide +kernel
theorem dL_law_817 : decode cL_law 817 = .ok (.aload_n 0, 1) := by decide +kernel
theorem dL_law_818 : decode cL_law 818 = .ok (.iload 5, 2) := by decide +kernel
theorem dL_law_820 : decode cL_law 820 = .ok (.iconst 3, 1) := by decide +kernel
theorem dL_law_821 : decode cL_law 821 = .ok (.iadd, 1) := by decide +kernel
theorem dL_law_822 : decode cL_law 822 = .ok (.iaload, 1) := by decide +kernel
theorem dL_law_823 : decode cL_law 823 = .ok (.aload_n 0, 1) := by decide +kernel
theorem dL_law_824 : decode cL_law 824 = .ok (.iload 5, 2) := by decide +kernel
theorem dL_law_826 : decode cL_law 826 = .ok (.iconst 4, 1) := by decide +kernel
theorem dL_law_827 : decode cL_law 827 = .ok (.iadd, 1) := by decide +kernel
theorem dL_law_828 : decode cL_law 828 = .ok (.iaload, 1) := by decide +kernel
theorem dL_law_829 : decode cL_law 829 = .ok (.aload_n 0, 1) := by decide +kernel
theorem dL_law_830 : decode cL_law 830 = .ok (.iload 5, 2) := by decide +kernel
theorem dL_law_832 : decode cL_law 832 = .ok (.iconst 5, 1) := by decide +kernel
theorem dL_law_833 : decode cL_law 833 = .ok (.iadd, 1) := by decide +kernel
theorem dL_law_834 : decode cL_law 834 = .ok (.iaload, 1) := by decide +kernel
theorem dL_law_835 : decode cL_law 835 = .ok (.aload_n 3, 1) := by decide +kernel
theorem dL_law_836 : decode cL_law 836 = .ok (.invokestatic 162, 3) := by decide +kernel
theorem dL_law_839 : decode cL_law 839 = .ok (.istore 6, 2) := by decide +kernel
theorem dL_law_841 : decode cL_law 841 = .ok (.aload_n 2, 1) := by decide +kernel
theorem dL_law_842 : decode cL_law 842 = .ok (.aload_n 0, 1) := by decide +kernel
theorem dL_law_843 : decode cL_law 843 = .ok (.iload 5, 2) := by decide +kernel
theorem dL_law_845 : decode cL_law 845 = .ok (.iconst 1, 1) := by decide +kernel
theorem dL_law_846 : decode cL_law 846 = .ok (.iadd, 1) := by decide +kernel
theorem dL_law_847 : decode cL_law 847 = .ok (.iaload, 1) := by decide +kernel
theorem dL_law_848 : decode cL_law 848 = .ok (.aload_n 0, 1) := by decide +kernel
theorem dL_law_849 : decode cL_law 849 = .ok (.iload 5, 2) := by decide +kernel
theorem dL_law_851 : decode cL_law 851 = .ok (.iconst 2, 1) := by decide +kernel
theorem dL_law_852 : decode cL_law 852 = .ok (.iadd, 1) := by decide +kernel
theorem dL_law_853 : decode cL_law 853 = .ok (.iaload, 1) := by decide +kernel
theorem dL_law_854 : decode cL_law 854 = .ok (.aload_n 0, 1) := by decide +kernel
theorem dL_law_855 : decode cL_law 855 = .ok (.iload 5, 2) := by decide +kernel
theorem dL_law_857 : decode cL_law 857 = .ok (.iconst 3, 1) := by decide +kernel
theorem dL_law_858 : decode cL_law 858 = .ok (.iadd, 1) := by decide +kernel
theorem dL_law_859 : decode cL_law 859 = .ok (.iaload, 1) := by decide +kernel
theorem dL_law_860 : decode cL_law 860 = .ok (.aload_n 0, 1) := by decide +kernel
theorem dL_law_861 : decode cL_law 861 = .ok (.iload 5, 2) := by decide +kernel
theorem dL_law_863 : decode cL_law 863 = .ok (.iconst 4, 1) := by decide +kernel
theorem dL_law_864 : decode cL_law 864 = .ok (.iadd, 1) := by decide +kernel
theorem dL_law_865 : decode cL_law 865 = .ok (.iaload, 1) := by decide +kernel
theorem dL_law_866 : decode cL_law 866 = .ok (.aload_n 0, 1) := by decide +kernel
theorem dL_law_867 : decode cL_law 867 = .ok (.iload 5, 2) := by decide +kernel
theorem dL_law_869 : decode cL_law 869 = .ok (.iconst 5, 1) := by decide +kernel
theorem dL_law_870 : decode cL_law 870 = .ok (.iadd, 1) := by decide +kernel
theorem dL_law_871 : decode cL_law 871 = .ok (.iaload, 1) := by decide +kernel
theorem dL_law_872 : decode cL_law 872 = .ok (.invokevirtual 165, 3) := by decide +kernel
theorem dL_law_875 : decode cL_law 875 = .ok (.istore 7, 2) := by decide +kernel
theorem dL_law_877 : decode cL_law 877 = .ok (.aload_n 2, 1) := by decide +kernel
theorem dL_law_878 : decode cL_law 878 = .ok (.invokevirtual 131, 3) := by decide +kernel
theorem dL_law_881 : decode cL_law 881 = .ok (.iload 6, 2) := by decide +kernel
theorem dL_law_883 : decode cL_law 883 = .ok (.if_icmp .eq 5, 3) := by decide +kernel
theorem dL_law_886 : decode cL_law 886 = .ok (.iconst 0, 1) := by decide +kernel
theorem dL_law_887 : decode cL_law 887 = .ok (.ireturn, 1) := by decide +kernel
theorem dL_law_888 : decode cL_law 888 = .ok (.iload 6, 2) := by decide +kernel
theorem dL_law_890 : decode cL_law 890 = .ok (.ifCond .ne 15, 3) := by decide +kernel
theorem dL_law_893 : decode cL_law 893 = .ok (.aload_n 3, 1) := by decide +kernel
theorem dL_law_894 : decode cL_law 894 = .ok (.iconst 0, 1) := by decide +kernel
theorem dL_law_895 : decode cL_law 895 = .ok (.laload, 1) := by decide +kernel
theorem dL_law_896 : decode cL_law 896 = .ok (.iload 7, 2) := by decide +kernel
theorem dL_law_898 : decode cL_law 898 = .ok (.i2l, 1) := by decide +kernel
theorem dL_law_899 : decode cL_law 899 = .ok (.lcmp, 1) := by decide +kernel
theorem dL_law_900 : decode cL_law 900 = .ok (.ifCond .eq 5, 3) := by decide +kernel
theorem dL_law_903 : decode cL_law 903 = .ok (.iconst 0, 1) := by decide +kernel
theorem dL_law_904 : decode cL_law 904 = .ok (.ireturn, 1) := by decide +kernel
theorem dL_law_905 : decode cL_law 905 = .ok (.goto 1459, 3) := by decide +kernel
theorem dL_law_908 : decode cL_law 908 = .ok (.aload_n 1, 1) := by decide +kernel
theorem dL_law_909 : decode cL_law 909 = .ok (.aload_n 0, 1) := by decide +kernel
theorem dL_law_910 : decode cL_law 910 = .ok (.iload 5, 2) := by decide +kernel
theorem dL_law_912 : decode cL_law 912 = .ok (.iconst 1, 1) := by decide +kernel
theorem dL_law_913 : decode cL_law 913 = .ok (.iadd, 1) := by decide +kernel
theorem dL_law_914 : decode cL_law 914 = .ok (.iaload, 1) := by decide +kernel
theorem dL_law_915 : decode cL_law 915 = .ok (.aload_n 3, 1) := by decide +kernel
theorem dL_law_916 : decode cL_law 916 = .ok (.invokestatic 166, 3) := by decide +kernel
theorem dL_law_919 : decode cL_law 919 = .ok (.istore 6, 2) := by decide +kernel
theorem dL_law_921 : decode cL_law 921 = .ok (.aload_n 2, 1) := by decide +kernel
theorem dL_law_922 : decode cL_law 922 = .ok (.aload_n 0, 1) := by decide +kernel
theorem dL_law_923 : decode cL_law 923 = .ok (.iload 5, 2) := by decide +kernel
theorem dL_law_925 : decode cL_law 925 = .ok (.iconst 1, 1) := by decide +kernel
theorem dL_law_926 : decode cL_law 926 = .ok (.iadd, 1) := by decide +kernel
theorem dL_law_927 : decode cL_law 927 = .ok (.iaload, 1) := by decide +kernel
theorem dL_law_928 : decode cL_law 928 = .ok (.invokevirtual 168, 3) := by decide +kernel
theorem dL_law_931 : decode cL_law 931 = .ok (.istore 7, 2) := by decide +kernel
theorem dL_law_933 : decode cL_law 933 = .ok (.aload_n 2, 1) := by decide +kernel
theorem dL_law_934 : decode cL_law 934 = .ok (.invokevirtual 131, 3) := by decide +kernel
theorem dL_law_937 : decode cL_law 937 = .ok (.iload 6, 2) := by decide +kernel
theorem dL_law_939 : decode cL_law 939 = .ok (.if_icmp .eq 5, 3) := by decide +kernel
theorem dL_law_942 : decode cL_law 942 = .ok (.iconst 0, 1) := by decide +kernel
theorem dL_law_943 : decode cL_law 943 = .ok (.ireturn, 1) := by decide +kernel
theorem dL_law_944 : decode cL_law 944 = .ok (.iload 6, 2) := by decide +kernel
theorem dL_law_946 : decode cL_law 946 = .ok (.ifCond .ne 15, 3) := by decide +kernel
theorem dL_law_949 : decode cL_law 949 = .ok (.aload_n 3, 1) := by decide +kernel
theorem dL_law_950 : decode cL_law 950 = .ok (.iconst 0, 1) := by decide +kernel
theorem dL_law_951 : decode cL_law 951 = .ok (.laload, 1) := by decide +kernel
theorem dL_law_952 : decode cL_law 952 = .ok (.iload 7, 2) := by decide +kernel
theorem dL_law_954 : decode cL_law 954 = .ok (.i2l, 1) := by decide +kernel
theorem dL_law_955 : decode cL_law 955 = .ok (.lcmp, 1) := by decide +kernel
theorem dL_law_956 : decode cL_law 956 = .ok (.ifCond .eq 5, 3) := by decide +kernel
theorem dL_law_959 : decode cL_law 959 = .ok (.iconst 0, 1) := by decide +kernel
theorem dL_law_960 : decode cL_law 960 = .ok (.ireturn, 1) := by decide +kernel
theorem dL_law_961 : decode cL_law 961 = .ok (.goto 1403, 3) := by decide +kernel
theorem dL_law_964 : decode cL_law 964 = .ok (.aload_n 1, 1) := by decide +kernel
theorem dL_law_965 : decode cL_law 965 = .ok (.aload_n 0, 1) := by decide +kernel
theorem dL_law_966 : decode cL_law 966 = .ok (.iload 5, 2) := by decide +kernel
theorem dL_law_968 : decode cL_law 968 = .ok (.iconst 1, 1) := by decide +kernel
theorem dL_law_969 : decode cL_law 969 = .ok (.iadd, 1) := by decide +kernel
theorem dL_law_970 : decode cL_law 970 = .ok (.iaload, 1) := by decide +kernel
theorem dL_law_971 : decode cL_law 971 = .ok (.aload_n 3, 1) := by decide +kernel
theorem dL_law_972 : decode cL_law 972 = .ok (.invokestatic 169, 3) := by decide +kernel
theorem dL_law_975 : decode cL_law 975 = .ok (.istore 6, 2) := by decide +kernel
theorem dL_law_977 : decode cL_law 977 = .ok (.aload_n 2, 1) := by decide +kernel
theorem dL_law_978 : decode cL_law 978 = .ok (.aload_n 0, 1) := by decide +kernel
theorem dL_law_979 : decode cL_law 979 = .ok (.iload 5, 2) := by decide +kernel
theorem dL_law_981 : decode cL_law 981 = .ok (.iconst 1, 1) := by decide +kernel
theorem dL_law_982 : decode cL_law 982 = .ok (.iadd, 1) := by decide +kernel
theorem dL_law_983 : decode cL_law 983 = .ok (.iaload, 1) := by decide +kernel
theorem dL_law_984 : decode cL_law 984 = .ok (.invokevirtual 171, 3) := by decide +kernel
theorem dL_law_987 : decode cL_law 987 = .ok (.istore 7, 2) := by decide +kernel
theorem dL_law_989 : decode cL_law 989 = .ok (.aload_n 2, 1) := by decide +kernel
theorem dL_law_990 : decode cL_law 990 = .ok (.invokevirtual 131, 3) := by decide +kernel
theorem dL_law_993 : decode cL_law 993 = .ok (.iload 6, 2) := by decide +kernel
theorem dL_law_995 : decode cL_law 995 = .ok (.if_icmp .eq 5, 3) := by decide +kernel
theorem dL_law_998 : decode cL_law 998 = .ok (.iconst 0, 1) := by decide +kernel
theorem dL_law_999 : decode cL_law 999 = .ok (.ireturn, 1) := by decide +kernel
theorem dL_law_1000 : decode cL_law 1000 = .ok (.iload 6, 2) := by decide +kernel
theorem dL_law_1002 : decode cL_law 1002 = .ok (.ifCond .ne 15, 3) := by decide +kernel
theorem dL_law_1005 : decode cL_law 1005 = .ok (.aload_n 3, 1) := by decide +kernel
theorem dL_law_1006 : decode cL_law 1006 = .ok (.iconst 0, 1) := by decide +kernel
theorem dL_law_1007 : decode cL_law 1007 = .ok (.laload, 1) := by decide +kernel
theorem dL_law_1008 : decode cL_law 1008 = .ok (.iload 7, 2) := by decide +kernel
theorem dL_law_1010 : decode cL_law 1010 = .ok (.i2l, 1) := by decide +kernel
theorem dL_law_1011 : decode cL_law 1011 = .ok (.lcmp, 1) := by decide +kernel
theorem dL_law_1012 : decode cL_law 1012 = .ok (.ifCond .eq 5, 3) := by decide +kernel
theorem dL_law_1015 : decode cL_law 1015 = .ok (.iconst 0, 1) := by decide +kernel
theorem dL_law_1016 : decode cL_law 1016 = .ok (.ireturn, 1) := by decide +kernel
theorem dL_law_1017 : decode cL_law 1017 = .ok (.goto 1347, 3) := by decide +kernel
theorem dL_law_1020 : decode cL_law 1020 = .ok (.aload_n 1, 1) := by decide +kernel
theorem dL_law_1021 : decode cL_law 1021 = .ok (.aload_n 0, 1) := by decide +kernel
theorem dL_law_1022 : decode cL_law 1022 = .ok (.iload 5, 2) := by decide +kernel
theorem dL_law_1024 : decode cL_law 1024 = .ok (.iconst 1, 1) := by decide +kernel
theorem dL_law_1025 : decode cL_law 1025 = .ok (.iadd, 1) := by decide +kernel
theorem dL_law_1026 : decode cL_law 1026 = .ok (.iaload, 1) := by decide +kernel
theorem dL_law_1027 : decode cL_law 1027 = .ok (.aload_n 3, 1) := by decide +kernel
theorem dL_law_1028 : decode cL_law 1028 = .ok (.invokestatic 172, 3) := by decide +kernel
theorem dL_law_1031 : decode cL_law 1031 = .ok (.istore 6, 2) := by decide +kernel
theorem dL_law_1033 : decode cL_law 1033 = .ok (.aload_n 2, 1) := by decide +kernel
theorem dL_law_1034 : decode cL_law 1034 = .ok (.aload_n 0, 1) := by decide +kernel
theorem dL_law_1035 : decode cL_law 1035 = .ok (.iload 5, 2) := by decide +kernel
theorem dL_law_1037 : decode cL_law 1037 = .ok (.iconst 1, 1) := by decide +kernel
theorem dL_law_1038 : decode cL_law 1038 = .ok (.iadd, 1) := by decide +kernel
theorem dL_law_1039 : decode cL_law 1039 = .ok (.iaload, 1) := by decide +kernel
theorem dL_law_1040 : decode cL_law 1040 = .ok (.invokevirtual 174, 3) := by decide +kernel
theorem dL_law_1043 : decode cL_law 1043 = .ok (.istore 7, 2) := by decide +kernel
theorem dL_law_1045 : decode cL_law 1045 = .ok (.aload_n 2, 1) := by decide +kernel
theorem dL_law_1046 : decode cL_law 1046 = .ok (.invokevirtual 131, 3) := by decide +kernel
theorem dL_law_1049 : decode cL_law 1049 = .ok (.iload 6, 2) := by decide +kernel
theorem dL_law_1051 : decode cL_law 1051 = .ok (.if_icmp .eq 5, 3) := by decide +kernel
theorem dL_law_1054 : decode cL_law 1054 = .ok (.iconst 0, 1) := by decide +kernel
theorem dL_law_1055 : decode cL_law 1055 = .ok (.ireturn, 1) := by decide +kernel
theorem dL_law_1056 : decode cL_law 1056 = .ok (.iload 6, 2) := by decide +kernel
theorem dL_law_1058 : decode cL_law 1058 = .ok (.ifCond .ne 15, 3) := by decide +kernel
theorem dL_law_1061 : decode cL_law 1061 = .ok (.aload_n 3, 1) := by decide +kernel
theorem dL_law_1062 : decode cL_law 1062 = .ok (.iconst 0, 1) := by decide +kernel
theorem dL_law_1063 : decode cL_law 1063 = .ok (.laload, 1) := by decide +kernel
theorem dL_law_1064 : decode cL_law 1064 = .ok (.iload 7, 2) := by decide +kernel
theorem dL_law_1066 : decode cL_law 1066 = .ok (.i2l, 1) := by decide +kernel
theorem dL_law_1067 : decode cL_law 1067 = .ok (.lcmp, 1) := by decide +kernel
theorem dL_law_1068 : decode cL_law 1068 = .ok (.ifCond .eq 5, 3) := by decide +kernel
theorem dL_law_1071 : decode cL_law 1071 = .ok (.iconst 0, 1) := by decide +kernel
theorem dL_law_1072 : decode cL_law 1072 = .ok (.ireturn, 1) := by decide +kernel
theorem dL_law_1073 : decode cL_law 1073 = .ok (.goto 1291, 3) := by decide +kernel
theorem dL_law_1076 : decode cL_law 1076 = .ok (.aload_n 1, 1) := by decide +kernel
theorem dL_law_1077 : decode cL_law 1077 = .ok (.aload_n 0, 1) := by decide +kernel
theorem dL_law_1078 : decode cL_law 1078 = .ok (.iload 5, 2) := by decide +kernel
theorem dL_law_1080 : decode cL_law 1080 = .ok (.iconst 1, 1) := by decide +kernel
theorem dL_law_1081 : decode cL_law 1081 = .ok (.iadd, 1) := by decide +kernel
theorem dL_law_1082 : decode cL_law 1082 = .ok (.iaload, 1) := by decide +kernel
theorem dL_law_1083 : decode cL_law 1083 = .ok (.aload_n 3, 1) := by decide +kernel
theorem dL_law_1084 : decode cL_law 1084 = .ok (.invokestatic 175, 3) := by decide +kernel
theorem dL_law_1087 : decode cL_law 1087 = .ok (.istore 6, 2) := by decide +kernel
theorem dL_law_1089 : decode cL_law 1089 = .ok (.aload_n 2, 1) := by decide +kernel
theorem dL_law_1090 : decode cL_law 1090 = .ok (.aload_n 0, 1) := by decide +kernel
theorem dL_law_1091 : decode cL_law 1091 = .ok (.iload 5, 2) := by decide +kernel
theorem dL_law_1093 : decode cL_law 1093 = .ok (.iconst 1, 1) := by decide +kernel
theorem dL_law_1094 : decode cL_law 1094 = .ok (.iadd, 1) := by decide +kernel
theorem dL_law_1095 : decode cL_law 1095 = .ok (.iaload, 1) := by decide +kernel
theorem dL_law_1096 : decode cL_law 1096 = .ok (.invokevirtual 177, 3) := by decide +kernel
theorem dL_law_1099 : decode cL_law 1099 = .ok (.istore 7, 2) := by decide +kernel
theorem dL_law_1101 : decode cL_law 1101 = .ok (.aload_n 2, 1) := by decide +kernel
theorem dL_law_1102 : decode cL_law 1102 = .ok (.invokevirtual 131, 3) := by decide +kernel
theorem dL_law_1105 : decode cL_law 1105 = .ok (.iload 6, 2) := by decide +kernel
theorem dL_law_1107 : decode cL_law 1107 = .ok (.if_icmp .eq 5, 3) := by decide +kernel
theorem dL_law_1110 : decode cL_law 1110 = .ok (.iconst 0, 1) := by decide +kernel
theorem dL_law_1111 : decode cL_law 1111 = .ok (.ireturn, 1) := by decide +kernel
theorem dL_law_1112 : decode cL_law 1112 = .ok (.iload 6, 2) := by decide +kernel
theorem dL_law_1114 : decode cL_law 1114 = .ok (.ifCond .ne 15, 3) := by decide +kernel
theorem dL_law_1117 : decode cL_law 1117 = .ok (.aload_n 3, 1) := by decide +kernel
theorem dL_law_1118 : decode cL_law 1118 = .ok (.iconst 0, 1) := by decide +kernel
theorem dL_law_1119 : decode cL_law 1119 = .ok (.laload, 1) := by decide +kernel
theorem dL_law_1120 : decode cL_law 1120 = .ok (.iload 7, 2) := by decide +kernel
theorem dL_law_1122 : decode cL_law 1122 = .ok (.i2l, 1) := by decide +kernel
theorem dL_law_1123 : decode cL_law 1123 = .ok (.lcmp, 1) := by decide +kernel
theorem dL_law_1124 : decode cL_law 1124 = .ok (.ifCond .eq 5, 3) := by decide +kernel
theorem dL_law_1127 : decode cL_law 1127 = .ok (.iconst 0, 1) := by decide +kernel
theorem dL_law_1128 : decode cL_law 1128 = .ok (.ireturn, 1) := by decide +kernel
theorem dL_law_1129 : decode cL_law 1129 = .ok (.goto 1235, 3) := by decide +kernel
theorem dL_law_1132 : decode cL_law 1132 = .ok (.aload_n 1, 1) := by decide +kernel
theorem dL_law_1133 : decode cL_law 1133 = .ok (.aload_n 0, 1) := by decide +kernel
theorem dL_law_1134 : decode cL_law 1134 = .ok (.iload 5, 2) := by decide +kernel
theorem dL_law_1136 : decode cL_law 1136 = .ok (.iconst 1, 1) := by decide +kernel
theorem dL_law_1137 : decode cL_law 1137 = .ok (.iadd, 1) := by decide +kernel
theorem dL_law_1138 : decode cL_law 1138 = .ok (.iaload, 1) := by decide +kernel
theorem dL_law_1139 : decode cL_law 1139 = .ok (.aload_n 3, 1) := by decide +kernel
theorem dL_law_1140 : decode cL_law 1140 = .ok (.invokestatic 178, 3) := by decide +kernel
theorem dL_law_1143 : decode cL_law 1143 = .ok (.istore 6, 2) := by decide +kernel
theorem dL_law_1145 : decode cL_law 1145 = .ok (.aload_n 2, 1) := by decide +kernel
theorem dL_law_1146 : decode cL_law 1146 = .ok (.aload_n 0, 1) := by decide +kernel
theorem dL_law_1147 : decode cL_law 1147 = .ok (.iload 5, 2) := by decide +kernel
theorem dL_law_1149 : decode cL_law 1149 = .ok (.iconst 1, 1) := by decide +kernel
theorem dL_law_1150 : decode cL_law 1150 = .ok (.iadd, 1) := by decide +kernel
theorem dL_law_1151 : decode cL_law 1151 = .ok (.iaload, 1) := by decide +kernel
theorem dL_law_1152 : decode cL_law 1152 = .ok (.invokevirtual 180, 3) := by decide +kernel
theorem dL_law_1155 : decode cL_law 1155 = .ok (.istore 7, 2) := by decide +kernel
theorem dL_law_1157 : decode cL_law 1157 = .ok (.aload_n 2, 1) := by decide +kernel
theorem dL_law_1158 : decode cL_law 1158 = .ok (.invokevirtual 131, 3) := by decide +kernel
theorem dL_law_1161 : decode cL_law 1161 = .ok (.iload 6, 2) := by decide +kernel
theorem dL_law_1163 : decode cL_law 1163 = .ok (.if_icmp .eq 5, 3) := by decide +kernel
theorem dL_law_1166 : decode cL_law 1166 = .ok (.iconst 0, 1) := by decide +kernel
theorem dL_law_1167 : decode cL_law 1167 = .ok (.ireturn, 1) := by decide +kernel
theorem dL_law_1168 : decode cL_law 1168 = .ok (.iload 6, 2) := by decide +kernel
theorem dL_law_1170 : decode cL_law 1170 = .ok (.ifCond .ne 15, 3) := by decide +kernel
theorem dL_law_1173 : decode cL_law 1173 = .ok (.aload_n 3, 1) := by decide +kernel
theorem dL_law_1174 : decode cL_law 1174 = .ok (.iconst 0, 1) := by decide +kernel
theorem dL_law_1175 : decode cL_law 1175 = .ok (.laload, 1) := by decide +kernel
theorem dL_law_1176 : decode cL_law 1176 = .ok (.iload 7, 2) := by decide +kernel
theorem dL_law_1178 : decode cL_law 1178 = .ok (.i2l, 1) := by decide +kernel
theorem dL_law_1179 : decode cL_law 1179 = .ok (.lcmp, 1) := by decide +kernel
theorem dL_law_1180 : decode cL_law 1180 = .ok (.ifCond .eq 5, 3) := by decide +kernel
theorem dL_law_1183 : decode cL_law 1183 = .ok (.iconst 0, 1) := by decide +kernel
theorem dL_law_1184 : decode cL_law 1184 = .ok (.ireturn, 1) := by decide +kernel
theorem dL_law_1185 : decode cL_law 1185 = .ok (.goto 1179, 3) := by decide +kernel
theorem dL_law_1188 : decode cL_law 1188 = .ok (.aload_n 1, 1) := by decide +kernel
theorem dL_law_1189 : decode cL_law 1189 = .ok (.invokevirtual 181, 3) := by decide +kernel
theorem dL_law_1192 : decode cL_law 1192 = .ok (.aload_n 2, 1) := by decide +kernel
theorem dL_law_1193 : decode cL_law 1193 = .ok (.invokevirtual 184, 3) := by decide +kernel
theorem dL_law_1196 : decode cL_law 1196 = .ok (.if_icmp .eq 1168, 3) := by decide +kernel
theorem dL_law_1199 : decode cL_law 1199 = .ok (.iconst 0, 1) := by decide +kernel
theorem dL_law_1200 : decode cL_law 1200 = .ok (.ireturn, 1) := by decide +kernel
theorem dL_law_1201 : decode cL_law 1201 = .ok (.aload_n 1, 1) := by decide +kernel
theorem dL_law_1202 : decode cL_law 1202 = .ok (.aload_n 0, 1) := by decide +kernel
theorem dL_law_1203 : decode cL_law 1203 = .ok (.iload 5, 2) := by decide +kernel
theorem dL_law_1205 : decode cL_law 1205 = .ok (.iconst 1, 1) := by decide +kernel
theorem dL_law_1206 : decode cL_law 1206 = .ok (.iadd, 1) := by decide +kernel
theorem dL_law_1207 : decode cL_law 1207 = .ok (.iaload, 1) := by decide +kernel
theorem dL_law_1208 : decode cL_law 1208 = .ok (.aload_n 3, 1) := by decide +kernel
theorem dL_law_1209 : decode cL_law 1209 = .ok (.invokestatic 185, 3) := by decide +kernel
theorem dL_law_1212 : decode cL_law 1212 = .ok (.istore 6, 2) := by decide +kernel
theorem dL_law_1214 : decode cL_law 1214 = .ok (.aload_n 2, 1) := by decide +kernel
theorem dL_law_1215 : decode cL_law 1215 = .ok (.aload_n 0, 1) := by decide +kernel
theorem dL_law_1216 : decode cL_law 1216 = .ok (.iload 5, 2) := by decide +kernel
theorem dL_law_1218 : decode cL_law 1218 = .ok (.iconst 1, 1) := by decide +kernel
theorem dL_law_1219 : decode cL_law 1219 = .ok (.iadd, 1) := by decide +kernel
theorem dL_law_1220 : decode cL_law 1220 = .ok (.iaload, 1) := by decide +kernel
theorem dL_law_1221 : decode cL_law 1221 = .ok (.invokevirtual 187, 3) := by decide +kernel
theorem dL_law_1224 : decode cL_law 1224 = .ok (.istore 7, 2) := by decide +kernel
theorem dL_law_1226 : decode cL_law 1226 = .ok (.aload_n 2, 1) := by decide +kernel
theorem dL_law_1227 : decode cL_law 1227 = .ok (.invokevirtual 131, 3) := by decide +kernel
theorem dL_law_1230 : decode cL_law 1230 = .ok (.iload 6, 2) := by decide +kernel
theorem dL_law_1232 : decode cL_law 1232 = .ok (.if_icmp .eq 5, 3) := by decide +kernel
theorem dL_law_1235 : decode cL_law 1235 = .ok (.iconst 0, 1) := by decide +kernel
theorem dL_law_1236 : decode cL_law 1236 = .ok (.ireturn, 1) := by decide +kernel
theorem dL_law_1237 : decode cL_law 1237 = .ok (.iload 6, 2) := by decide +kernel
theorem dL_law_1239 : decode cL_law 1239 = .ok (.ifCond .ne 15, 3) := by decide +kernel
theorem dL_law_1242 : decode cL_law 1242 = .ok (.aload_n 3, 1) := by decide +kernel
theorem dL_law_1243 : decode cL_law 1243 = .ok (.iconst 0, 1) := by decide +kernel
theorem dL_law_1244 : decode cL_law 1244 = .ok (.laload, 1) := by decide +kernel
theorem dL_law_1245 : decode cL_law 1245 = .ok (.iload 7, 2) := by decide +kernel
theorem dL_law_1247 : decode cL_law 1247 = .ok (.i2l, 1) := by decide +kernel
theorem dL_law_1248 : decode cL_law 1248 = .ok (.lcmp, 1) := by decide +kernel
theorem dL_law_1249 : decode cL_law 1249 = .ok (.ifCond .eq 5, 3) := by decide +kernel
theorem dL_law_1252 : decode cL_law 1252 = .ok (.iconst 0, 1) := by decide +kernel
theorem dL_law_1253 : decode cL_law 1253 = .ok (.ireturn, 1) := by decide +kernel
theorem dL_law_1254 : decode cL_law 1254 = .ok (.goto 1110, 3) := by decide +kernel
theorem dL_law_1257 : decode cL_law 1257 = .ok (.aload_n 1, 1) := by decide +kernel
theorem dL_law_1258 : decode cL_law 1258 = .ok (.invokevirtual 188, 3) := by decide +kernel
theorem dL_law_1261 : decode cL_law 1261 = .ok (.aload_n 2, 1) := by decide +kernel
theorem dL_law_1262 : decode cL_law 1262 = .ok (.invokevirtual 191, 3) := by decide +kernel
theorem dL_law_1265 : decode cL_law 1265 = .ok (.if_icmp .eq 1099, 3) := by decide +kernel
theorem dL_law_1268 : decode cL_law 1268 = .ok (.iconst 0, 1) := by decide +kernel
theorem dL_law_1269 : decode cL_law 1269 = .ok (.ireturn, 1) := by decide +kernel
theorem dL_law_1270 : decode cL_law 1270 = .ok (.aload_n 1, 1) := by decide +kernel
theorem dL_law_1271 : decode cL_law 1271 = .ok (.aload_n 0, 1) := by decide +kernel
theorem dL_law_1272 : decode cL_law 1272 = .ok (.iload 5, 2) := by decide +kernel
theorem dL_law_1274 : decode cL_law 1274 = .ok (.iconst 1, 1) := by decide +kernel
theorem dL_law_1275 : decode cL_law 1275 = .ok (.iadd, 1) := by decide +kernel
theorem dL_law_1276 : decode cL_law 1276 = .ok (.iaload, 1) := by decide +kernel
theorem dL_law_1277 : decode cL_law 1277 = .ok (.aload_n 3, 1) := by decide +kernel
theorem dL_law_1278 : decode cL_law 1278 = .ok (.invokestatic 192, 3) := by decide +kernel
theorem dL_law_1281 : decode cL_law 1281 = .ok (.istore 6, 2) := by decide +kernel
theorem dL_law_1283 : decode cL_law 1283 = .ok (.aload_n 2, 1) := by decide +kernel
theorem dL_law_1284 : decode cL_law 1284 = .ok (.aload_n 0, 1) := by decide +kernel
theorem dL_law_1285 : decode cL_law 1285 = .ok (.iload 5, 2) := by decide +kernel
theorem dL_law_1287 : decode cL_law 1287 = .ok (.iconst 1, 1) := by decide +kernel
theorem dL_law_1288 : decode cL_law 1288 = .ok (.iadd, 1) := by decide +kernel
theorem dL_law_1289 : decode cL_law 1289 = .ok (.iaload, 1) := by decide +kernel
theorem dL_law_1290 : decode cL_law 1290 = .ok (.invokevirtual 194, 3) := by decide +kernel
theorem dL_law_1293 : decode cL_law 1293 = .ok (.istore 7, 2) := by decide +kernel
theorem dL_law_1295 : decode cL_law 1295 = .ok (.aload_n 2, 1) := by decide +kernel
theorem dL_law_1296 : decode cL_law 1296 = .ok (.invokevirtual 131, 3) := by decide +kernel
theorem dL_law_1299 : decode cL_law 1299 = .ok (.iload 6, 2) := by decide +kernel
theorem dL_law_1301 : decode cL_law 1301 = .ok (.if_icmp .eq 5, 3) := by decide +kernel
theorem dL_law_1304 : decode cL_law 1304 = .ok (.iconst 0, 1) := by decide +kernel
theorem dL_law_1305 : decode cL_law 1305 = .ok (.ireturn, 1) := by decide +kernel
theorem dL_law_1306 : decode cL_law 1306 = .ok (.iload 6, 2) := by decide +kernel
theorem dL_law_1308 : decode cL_law 1308 = .ok (.ifCond .ne 15, 3) := by decide +kernel
theorem dL_law_1311 : decode cL_law 1311 = .ok (.aload_n 3, 1) := by decide +kernel
theorem dL_law_1312 : decode cL_law 1312 = .ok (.iconst 0, 1) := by decide +kernel
theorem dL_law_1313 : decode cL_law 1313 = .ok (.laload, 1) := by decide +kernel
theorem dL_law_1314 : decode cL_law 1314 = .ok (.iload 7, 2) := by decide +kernel
theorem dL_law_1316 : decode cL_law 1316 = .ok (.i2l, 1) := by decide +kernel
theorem dL_law_1317 : decode cL_law 1317 = .ok (.lcmp, 1) := by decide +kernel
theorem dL_law_1318 : decode cL_law 1318 = .ok (.ifCond .eq 5, 3) := by decide +kernel
theorem dL_law_1321 : decode cL_law 1321 = .ok (.iconst 0, 1) := by decide +kernel
theorem dL_law_1322 : decode cL_law 1322 = .ok (.ireturn, 1) := by decide +kernel
theorem dL_law_1323 : decode cL_law 1323 = .ok (.goto 1041, 3) := by decide +kernel
theorem dL_law_1326 : decode cL_law 1326 = .ok (.aload_n 1, 1) := by decide +kernel
theorem dL_law_1327 : decode cL_law 1327 = .ok (.aload_n 0, 1) := by decide +kernel
theorem dL_law_1328 : decode cL_law 1328 = .ok (.iload 5, 2) := by decide +kernel
theorem dL_law_1330 : decode cL_law 1330 = .ok (.iconst 1, 1) := by decide +kernel
theorem dL_law_1331 : decode cL_law 1331 = .ok (.iadd, 1) := by decide +kernel
theorem dL_law_1332 : decode cL_law 1332 = .ok (.iaload, 1) := by decide +kernel
theorem dL_law_1333 : decode cL_law 1333 = .ok (.aload_n 3, 1) := by decide +kernel
theorem dL_law_1334 : decode cL_law 1334 = .ok (.invokestatic 195, 3) := by decide +kernel
theorem dL_law_1337 : decode cL_law 1337 = .ok (.istore 6, 2) := by decide +kernel
theorem dL_law_1339 : decode cL_law 1339 = .ok (.aload_n 2, 1) := by decide +kernel
theorem dL_law_1340 : decode cL_law 1340 = .ok (.aload_n 0, 1) := by decide +kernel
theorem dL_law_1341 : decode cL_law 1341 = .ok (.iload 5, 2) := by decide +kernel
theorem dL_law_1343 : decode cL_law 1343 = .ok (.iconst 1, 1) := by decide +kernel
theorem dL_law_1344 : decode cL_law 1344 = .ok (.iadd, 1) := by decide +kernel
theorem dL_law_1345 : decode cL_law 1345 = .ok (.iaload, 1) := by decide +kernel
theorem dL_law_1346 : decode cL_law 1346 = .ok (.invokevirtual 197, 3) := by decide +kernel
theorem dL_law_1349 : decode cL_law 1349 = .ok (.istore 7, 2) := by decide +kernel
theorem dL_law_1351 : decode cL_law 1351 = .ok (.aload_n 2, 1) := by decide +kernel
theorem dL_law_1352 : decode cL_law 1352 = .ok (.invokevirtual 131, 3) := by decide +kernel
theorem dL_law_1355 : decode cL_law 1355 = .ok (.iload 6, 2) := by decide +kernel
theorem dL_law_1357 : decode cL_law 1357 = .ok (.if_icmp .eq 5, 3) := by decide +kernel
theorem dL_law_1360 : decode cL_law 1360 = .ok (.iconst 0, 1) := by decide +kernel
theorem dL_law_1361 : decode cL_law 1361 = .ok (.ireturn, 1) := by decide +kernel
theorem dL_law_1362 : decode cL_law 1362 = .ok (.iload 6, 2) := by decide +kernel
theorem dL_law_1364 : decode cL_law 1364 = .ok (.ifCond .ne 15, 3) := by decide +kernel
theorem dL_law_1367 : decode cL_law 1367 = .ok (.aload_n 3, 1) := by decide +kernel
theorem dL_law_1368 : decode cL_law 1368 = .ok (.iconst 0, 1) := by decide +kernel
theorem dL_law_1369 : decode cL_law 1369 = .ok (.laload, 1) := by decide +kernel
theorem dL_law_1370 : decode cL_law 1370 = .ok (.iload 7, 2) := by decide +kernel
theorem dL_law_1372 : decode cL_law 1372 = .ok (.i2l, 1) := by decide +kernel
theorem dL_law_1373 : decode cL_law 1373 = .ok (.lcmp, 1) := by decide +kernel
theorem dL_law_1374 : decode cL_law 1374 = .ok (.ifCond .eq 5, 3) := by decide +kernel
theorem dL_law_1377 : decode cL_law 1377 = .ok (.iconst 0, 1) := by decide +kernel
theorem dL_law_1378 : decode cL_law 1378 = .ok (.ireturn, 1) := by decide +kernel
theorem dL_law_1379 : decode cL_law 1379 = .ok (.goto 985, 3) := by decide +kernel
theorem dL_law_1382 : decode cL_law 1382 = .ok (.aload_n 1, 1) := by decide +kernel
theorem dL_law_1383 : decode cL_law 1383 = .ok (.aload_n 0, 1) := by decide +kernel
theorem dL_law_1384 : decode cL_law 1384 = .ok (.iload 5, 2) := by decide +kernel
theorem dL_law_1386 : decode cL_law 1386 = .ok (.iconst 1, 1) := by decide +kernel
theorem dL_law_1387 : decode cL_law 1387 = .ok (.iadd, 1) := by decide +kernel
theorem dL_law_1388 : decode cL_law 1388 = .ok (.iaload, 1) := by decide +kernel
theorem dL_law_1389 : decode cL_law 1389 = .ok (.aload_n 0, 1) := by decide +kernel
theorem dL_law_1390 : decode cL_law 1390 = .ok (.iload 5, 2) := by decide +kernel
theorem dL_law_1392 : decode cL_law 1392 = .ok (.iconst 2, 1) := by decide +kernel
theorem dL_law_1393 : decode cL_law 1393 = .ok (.iadd, 1) := by decide +kernel
theorem dL_law_1394 : decode cL_law 1394 = .ok (.iaload, 1) := by decide +kernel
theorem dL_law_1395 : decode cL_law 1395 = .ok (.aload_n 3, 1) := by decide +kernel
theorem dL_law_1396 : decode cL_law 1396 = .ok (.invokestatic 198, 3) := by decide +kernel
theorem dL_law_1399 : decode cL_law 1399 = .ok (.istore 6, 2) := by decide +kernel
theorem dL_law_1401 : decode cL_law 1401 = .ok (.aload_n 2, 1) := by decide +kernel
theorem dL_law_1402 : decode cL_law 1402 = .ok (.aload_n 0, 1) := by decide +kernel
theorem dL_law_1403 : decode cL_law 1403 = .ok (.iload 5, 2) := by decide +kernel
theorem dL_law_1405 : decode cL_law 1405 = .ok (.iconst 1, 1) := by decide +kernel
theorem dL_law_1406 : decode cL_law 1406 = .ok (.iadd, 1) := by decide +kernel
theorem dL_law_1407 : decode cL_law 1407 = .ok (.iaload, 1) := by decide +kernel
theorem dL_law_1408 : decode cL_law 1408 = .ok (.aload_n 0, 1) := by decide +kernel
theorem dL_law_1409 : decode cL_law 1409 = .ok (.iload 5, 2) := by decide +kernel
theorem dL_law_1411 : decode cL_law 1411 = .ok (.iconst 2, 1) := by decide +kernel
theorem dL_law_1412 : decode cL_law 1412 = .ok (.iadd, 1) := by decide +kernel
theorem dL_law_1413 : decode cL_law 1413 = .ok (.iaload, 1) := by decide +kernel
theorem dL_law_1414 : decode cL_law 1414 = .ok (.invokevirtual 200, 3) := by decide +kernel
theorem dL_law_1417 : decode cL_law 1417 = .ok (.istore 7, 2) := by decide +kernel
theorem dL_law_1419 : decode cL_law 1419 = .ok (.aload_n 2, 1) := by decide +kernel
theorem dL_law_1420 : decode cL_law 1420 = .ok (.invokevirtual 131, 3) := by decide +kernel
theorem dL_law_1423 : decode cL_law 1423 = .ok (.iload 6, 2) := by decide +kernel
theorem dL_law_1425 : decode cL_law 1425 = .ok (.if_icmp .eq 5, 3) := by decide +kernel
theorem dL_law_1428 : decode cL_law 1428 = .ok (.iconst 0, 1) := by decide +kernel
theorem dL_law_1429 : decode cL_law 1429 = .ok (.ireturn, 1) := by decide +kernel
theorem dL_law_1430 : decode cL_law 1430 = .ok (.iload 6, 2) := by decide +kernel
theorem dL_law_1432 : decode cL_law 1432 = .ok (.ifCond .ne 15, 3) := by decide +kernel
theorem dL_law_1435 : decode cL_law 1435 = .ok (.aload_n 3, 1) := by decide +kernel
theorem dL_law_1436 : decode cL_law 1436 = .ok (.iconst 0, 1) := by decide +kernel
theorem dL_law_1437 : decode cL_law 1437 = .ok (.laload, 1) := by decide +kernel
theorem dL_law_1438 : decode cL_law 1438 = .ok (.iload 7, 2) := by decide +kernel
theorem dL_law_1440 : decode cL_law 1440 = .ok (.i2l, 1) := by decide +kernel
theorem dL_law_1441 : decode cL_law 1441 = .ok (.lcmp, 1) := by decide +kernel
theorem dL_law_1442 : decode cL_law 1442 = .ok (.ifCond .eq 5, 3) := by decide +kernel
theorem dL_law_1445 : decode cL_law 1445 = .ok (.iconst 0, 1) := by decide +kernel
theorem dL_law_1446 : decode cL_law 1446 = .ok (.ireturn, 1) := by decide +kernel
theorem dL_law_1447 : decode cL_law 1447 = .ok (.goto 917, 3) := by decide +kernel
theorem dL_law_1450 : decode cL_law 1450 = .ok (.aload_n 1, 1) := by decide +kernel
theorem dL_law_1451 : decode cL_law 1451 = .ok (.aload_n 0, 1) := by decide +kernel
theorem dL_law_1452 : decode cL_law 1452 = .ok (.iload 5, 2) := by decide +kernel
theorem dL_law_1454 : decode cL_law 1454 = .ok (.iconst 1, 1) := by decide +kernel
theorem dL_law_1455 : decode cL_law 1455 = .ok (.iadd, 1) := by decide +kernel
theorem dL_law_1456 : decode cL_law 1456 = .ok (.iaload, 1) := by decide +kernel
theorem dL_law_1457 : decode cL_law 1457 = .ok (.aload_n 0, 1) := by decide +kernel
theorem dL_law_1458 : decode cL_law 1458 = .ok (.iload 5, 2) := by decide +kernel
theorem dL_law_1460 : decode cL_law 1460 = .ok (.iconst 2, 1) := by decide +kernel
theorem dL_law_1461 : decode cL_law 1461 = .ok (.iadd, 1) := by decide +kernel
theorem dL_law_1462 : decode cL_law 1462 = .ok (.iaload, 1) := by decide +kernel
theorem dL_law_1463 : decode cL_law 1463 = .ok (.aload_n 3, 1) := by decide +kernel
theorem dL_law_1464 : decode cL_law 1464 = .ok (.invokestatic 201, 3) := by decide +kernel
theorem dL_law_1467 : decode cL_law 1467 = .ok (.istore 6, 2) := by decide +kernel
theorem dL_law_1469 : decode cL_law 1469 = .ok (.aload_n 2, 1) := by decide +kernel
theorem dL_law_1470 : decode cL_law 1470 = .ok (.aload_n 0, 1) := by decide +kernel
theorem dL_law_1471 : decode cL_law 1471 = .ok (.iload 5, 2) := by decide +kernel
theorem dL_law_1473 : decode cL_law 1473 = .ok (.iconst 1, 1) := by decide +kernel
theorem dL_law_1474 : decode cL_law 1474 = .ok (.iadd, 1) := by decide +kernel
theorem dL_law_1475 : decode cL_law 1475 = .ok (.iaload, 1) := by decide +kernel
theorem dL_law_1476 : decode cL_law 1476 = .ok (.aload_n 0, 1) := by decide +kernel
theorem dL_law_1477 : decode cL_law 1477 = .ok (.iload 5, 2) := by decide +kernel
theorem dL_law_1479 : decode cL_law 1479 = .ok (.iconst 2, 1) := by decide +kernel
theorem dL_law_1480 : decode cL_law 1480 = .ok (.iadd, 1) := by decide +kernel
theorem dL_law_1481 : decode cL_law 1481 = .ok (.iaload, 1) := by decide +kernel
theorem dL_law_1482 : decode cL_law 1482 = .ok (.invokevirtual 203, 3) := by decide +kernel
theorem dL_law_1485 : decode cL_law 1485 = .ok (.istore 7, 2) := by decide +kernel
theorem dL_law_1487 : decode cL_law 1487 = .ok (.aload_n 2, 1) := by decide +kernel
theorem dL_law_1488 : decode cL_law 1488 = .ok (.invokevirtual 131, 3) := by decide +kernel
theorem dL_law_1491 : decode cL_law 1491 = .ok (.iload 6, 2) := by decide +kernel
theorem dL_law_1493 : decode cL_law 1493 = .ok (.if_icmp .eq 5, 3) := by decide +kernel
theorem dL_law_1496 : decode cL_law 1496 = .ok (.iconst 0, 1) := by decide +kernel
theorem dL_law_1497 : decode cL_law 1497 = .ok (.ireturn, 1) := by decide +kernel
theorem dL_law_1498 : decode cL_law 1498 = .ok (.iload 6, 2) := by decide +kernel
theorem dL_law_1500 : decode cL_law 1500 = .ok (.ifCond .ne 15, 3) := by decide +kernel
theorem dL_law_1503 : decode cL_law 1503 = .ok (.aload_n 3, 1) := by decide +kernel
theorem dL_law_1504 : decode cL_law 1504 = .ok (.iconst 0, 1) := by decide +kernel
theorem dL_law_1505 : decode cL_law 1505 = .ok (.laload, 1) := by decide +kernel
theorem dL_law_1506 : decode cL_law 1506 = .ok (.iload 7, 2) := by decide +kernel
theorem dL_law_1508 : decode cL_law 1508 = .ok (.i2l, 1) := by decide +kernel
theorem dL_law_1509 : decode cL_law 1509 = .ok (.lcmp, 1) := by decide +kernel
theorem dL_law_1510 : decode cL_law 1510 = .ok (.ifCond .eq 5, 3) := by decide +kernel
theorem dL_law_1513 : decode cL_law 1513 = .ok (.iconst 0, 1) := by decide +kernel
theorem dL_law_1514 : decode cL_law 1514 = .ok (.ireturn, 1) := by decide +kernel
theorem dL_law_1515 : decode cL_law 1515 = .ok (.goto 849, 3) := by decide +kernel
theorem dL_law_1518 : decode cL_law 1518 = .ok (.aload_n 1, 1) := by decide +kernel
theorem dL_law_1519 : decode cL_law 1519 = .ok (.aload_n 0, 1) := by decide +kernel
theorem dL_law_1520 : decode cL_law 1520 = .ok (.iload 5, 2) := by decide +kernel
theorem dL_law_1522 : decode cL_law 1522 = .ok (.iconst 1, 1) := by decide +kernel
theorem dL_law_1523 : decode cL_law 1523 = .ok (.iadd, 1) := by decide +kernel
theorem dL_law_1524 : decode cL_law 1524 = .ok (.iaload, 1) := by decide +kernel
theorem dL_law_1525 : decode cL_law 1525 = .ok (.aload 4, 2) := by decide +kernel
theorem dL_law_1527 : decode cL_law 1527 = .ok (.invokestatic 204, 3) := by decide +kernel
theorem dL_law_1530 : decode cL_law 1530 = .ok (.istore 6, 2) := by decide +kernel
theorem dL_law_1532 : decode cL_law 1532 = .ok (.aload_n 2, 1) := by decide +kernel
theorem dL_law_1533 : decode cL_law 1533 = .ok (.aload_n 0, 1) := by decide +kernel
theorem dL_law_1534 : decode cL_law 1534 = .ok (.iload 5, 2) := by decide +kernel
theorem dL_law_1536 : decode cL_law 1536 = .ok (.iconst 1, 1) := by decide +kernel
theorem dL_law_1537 : decode cL_law 1537 = .ok (.iadd, 1) := by decide +kernel
theorem dL_law_1538 : decode cL_law 1538 = .ok (.iaload, 1) := by decide +kernel
theorem dL_law_1539 : decode cL_law 1539 = .ok (.invokevirtual 207, 3) := by decide +kernel
theorem dL_law_1542 : decode cL_law 1542 = .ok (.fstore 7, 2) := by decide +kernel
theorem dL_law_1544 : decode cL_law 1544 = .ok (.aload_n 2, 1) := by decide +kernel
theorem dL_law_1545 : decode cL_law 1545 = .ok (.invokevirtual 131, 3) := by decide +kernel
theorem dL_law_1548 : decode cL_law 1548 = .ok (.iload 6, 2) := by decide +kernel
theorem dL_law_1550 : decode cL_law 1550 = .ok (.if_icmp .eq 5, 3) := by decide +kernel
theorem dL_law_1553 : decode cL_law 1553 = .ok (.iconst 0, 1) := by decide +kernel
theorem dL_law_1554 : decode cL_law 1554 = .ok (.ireturn, 1) := by decide +kernel
theorem dL_law_1555 : decode cL_law 1555 = .ok (.iload 6, 2) := by decide +kernel
theorem dL_law_1557 : decode cL_law 1557 = .ok (.ifCond .ne 36, 3) := by decide +kernel
theorem dL_law_1560 : decode cL_law 1560 = .ok (.aload 4, 2) := by decide +kernel
theorem dL_law_1562 : decode cL_law 1562 = .ok (.iconst 0, 1) := by decide +kernel
theorem dL_law_1563 : decode cL_law 1563 = .ok (.daload, 1) := by decide +kernel
theorem dL_law_1564 : decode cL_law 1564 = .ok (.fload 7, 2) := by decide +kernel
theorem dL_law_1566 : decode cL_law 1566 = .ok (.f2d, 1) := by decide +kernel
theorem dL_law_1567 : decode cL_law 1567 = .ok (.dcmp .l, 1) := by decide +kernel
theorem dL_law_1568 : decode cL_law 1568 = .ok (.ifCond .eq 25, 3) := by decide +kernel
theorem dL_law_1571 : decode cL_law 1571 = .ok (.aload 4, 2) := by decide +kernel
theorem dL_law_1573 : decode cL_law 1573 = .ok (.iconst 0, 1) := by decide +kernel
theorem dL_law_1574 : decode cL_law 1574 = .ok (.daload, 1) := by decide +kernel
theorem dL_law_1575 : decode cL_law 1575 = .ok (.aload 4, 2) := by decide +kernel
theorem dL_law_1577 : decode cL_law 1577 = .ok (.iconst 0, 1) := by decide +kernel
theorem dL_law_1578 : decode cL_law 1578 = .ok (.daload, 1) := by decide +kernel
theorem dL_law_1579 : decode cL_law 1579 = .ok (.dcmp .l, 1) := by decide +kernel
theorem dL_law_1580 : decode cL_law 1580 = .ok (.ifCond .eq 11, 3) := by decide +kernel
theorem dL_law_1583 : decode cL_law 1583 = .ok (.fload 7, 2) := by decide +kernel
theorem dL_law_1585 : decode cL_law 1585 = .ok (.fload 7, 2) := by decide +kernel
theorem dL_law_1587 : decode cL_law 1587 = .ok (.fcmp .l, 1) := by decide +kernel
theorem dL_law_1588 : decode cL_law 1588 = .ok (.ifCond .ne 5, 3) := by decide +kernel
theorem dL_law_1591 : decode cL_law 1591 = .ok (.iconst 0, 1) := by decide +kernel
theorem dL_law_1592 : decode cL_law 1592 = .ok (.ireturn, 1) := by decide +kernel
theorem dL_law_1593 : decode cL_law 1593 = .ok (.goto 771, 3) := by decide +kernel
theorem dL_law_1596 : decode cL_law 1596 = .ok (.aload_n 1, 1) := by decide +kernel
theorem dL_law_1597 : decode cL_law 1597 = .ok (.aload_n 0, 1) := by decide +kernel
theorem dL_law_1598 : decode cL_law 1598 = .ok (.iload 5, 2) := by decide +kernel
theorem dL_law_1600 : decode cL_law 1600 = .ok (.iconst 1, 1) := by decide +kernel
theorem dL_law_1601 : decode cL_law 1601 = .ok (.iadd, 1) := by decide +kernel
theorem dL_law_1602 : decode cL_law 1602 = .ok (.iaload, 1) := by decide +kernel
theorem dL_law_1603 : decode cL_law 1603 = .ok (.aload_n 0, 1) := by decide +kernel
theorem dL_law_1604 : decode cL_law 1604 = .ok (.iload 5, 2) := by decide +kernel
theorem dL_law_1606 : decode cL_law 1606 = .ok (.iconst 2, 1) := by decide +kernel
theorem dL_law_1607 : decode cL_law 1607 = .ok (.iadd, 1) := by decide +kernel
theorem dL_law_1608 : decode cL_law 1608 = .ok (.iaload, 1) := by decide +kernel
theorem dL_law_1609 : decode cL_law 1609 = .ok (.aload_n 3, 1) := by decide +kernel
theorem dL_law_1610 : decode cL_law 1610 = .ok (.invokestatic 208, 3) := by decide +kernel
theorem dL_law_1613 : decode cL_law 1613 = .ok (.istore 6, 2) := by decide +kernel
theorem dL_law_1615 : decode cL_law 1615 = .ok (.aload_n 2, 1) := by decide +kernel
theorem dL_law_1616 : decode cL_law 1616 = .ok (.aload_n 0, 1) := by decide +kernel
theorem dL_law_1617 : decode cL_law 1617 = .ok (.iload 5, 2) := by decide +kernel
theorem dL_law_1619 : decode cL_law 1619 = .ok (.iconst 1, 1) := by decide +kernel
theorem dL_law_1620 : decode cL_law 1620 = .ok (.iadd, 1) := by decide +kernel
theorem dL_law_1621 : decode cL_law 1621 = .ok (.iaload, 1) := by decide +kernel
theorem dL_law_1622 : decode cL_law 1622 = .ok (.aload_n 0, 1) := by decide +kernel
theorem dL_law_1623 : decode cL_law 1623 = .ok (.iload 5, 2) := by decide +kernel
theorem dL_law_1625 : decode cL_law 1625 = .ok (.iconst 2, 1) := by decide +kernel
theorem dL_law_1626 : decode cL_law 1626 = .ok (.iadd, 1) := by decide +kernel
theorem dL_law_1627 : decode cL_law 1627 = .ok (.iaload, 1) := by decide +kernel
theorem dL_law_1628 : decode cL_law 1628 = .ok (.invokevirtual 210, 3) := by decide +kernel
theorem dL_law_1631 : decode cL_law 1631 = .ok (.istore 7, 2) := by decide +kernel
theorem dL_law_1633 : decode cL_law 1633 = .ok (.aload_n 2, 1) := by decide +kernel
theorem dL_law_1634 : decode cL_law 1634 = .ok (.invokevirtual 131, 3) := by decide +kernel
theorem dL_law_1637 : decode cL_law 1637 = .ok (.iload 6, 2) := by decide +kernel
theorem dL_law_1639 : decode cL_law 1639 = .ok (.if_icmp .eq 5, 3) := by decide +kernel
theorem dL_law_1642 : decode cL_law 1642 = .ok (.iconst 0, 1) := by decide +kernel
theorem dL_law_1643 : decode cL_law 1643 = .ok (.ireturn, 1) := by decide +kernel
theorem dL_law_1644 : decode cL_law 1644 = .ok (.iload 6, 2) := by decide +kernel
theorem dL_law_1646 : decode cL_law 1646 = .ok (.ifCond .ne 15, 3) := by decide +kernel
theorem dL_law_1649 : decode cL_law 1649 = .ok (.aload_n 3, 1) := by decide +kernel
theorem dL_law_1650 : decode cL_law 1650 = .ok (.iconst 0, 1) := by decide +kernel
theorem dL_law_1651 : decode cL_law 1651 = .ok (.laload, 1) := by decide +kernel
theorem dL_law_1652 : decode cL_law 1652 = .ok (.iload 7, 2) := by decide +kernel
theorem dL_law_1654 : decode cL_law 1654 = .ok (.i2l, 1) := by decide +kernel
theorem dL_law_1655 : decode cL_law 1655 = .ok (.lcmp, 1) := by decide +kernel
theorem dL_law_1656 : decode cL_law 1656 = .ok (.ifCond .eq 5, 3) := by decide +kernel
theorem dL_law_1659 : decode cL_law 1659 = .ok (.iconst 0, 1) := by decide +kernel
theorem dL_law_1660 : decode cL_law 1660 = .ok (.ireturn, 1) := by decide +kernel
theorem dL_law_1661 : decode cL_law 1661 = .ok (.goto 703, 3) := by decide +kernel
theorem dL_law_1664 : decode cL_law 1664 = .ok (.aload_n 1, 1) := by decide +kernel
theorem dL_law_1665 : decode cL_law 1665 = .ok (.aload_n 0, 1) := by decide +kernel
theorem dL_law_1666 : decode cL_law 1666 = .ok (.iload 5, 2) := by decide +kernel
theorem dL_law_1668 : decode cL_law 1668 = .ok (.iconst 1, 1) := by decide +kernel
theorem dL_law_1669 : decode cL_law 1669 = .ok (.iadd, 1) := by decide +kernel
theorem dL_law_1670 : decode cL_law 1670 = .ok (.iaload, 1) := by decide +kernel
theorem dL_law_1671 : decode cL_law 1671 = .ok (.aload_n 0, 1) := by decide +kernel
theorem dL_law_1672 : decode cL_law 1672 = .ok (.iload 5, 2) := by decide +kernel
theorem dL_law_1674 : decode cL_law 1674 = .ok (.iconst 2, 1) := by decide +kernel
theorem dL_law_1675 : decode cL_law 1675 = .ok (.iadd, 1) := by decide +kernel
theorem dL_law_1676 : decode cL_law 1676 = .ok (.iaload, 1) := by decide +kernel
theorem dL_law_1677 : decode cL_law 1677 = .ok (.aload_n 3, 1) := by decide +kernel
theorem dL_law_1678 : decode cL_law 1678 = .ok (.invokestatic 211, 3) := by decide +kernel
theorem dL_law_1681 : decode cL_law 1681 = .ok (.istore 6, 2) := by decide +kernel
theorem dL_law_1683 : decode cL_law 1683 = .ok (.aload_n 2, 1) := by decide +kernel
theorem dL_law_1684 : decode cL_law 1684 = .ok (.aload_n 0, 1) := by decide +kernel
theorem dL_law_1685 : decode cL_law 1685 = .ok (.iload 5, 2) := by decide +kernel
theorem dL_law_1687 : decode cL_law 1687 = .ok (.iconst 1, 1) := by decide +kernel
theorem dL_law_1688 : decode cL_law 1688 = .ok (.iadd, 1) := by decide +kernel
theorem dL_law_1689 : decode cL_law 1689 = .ok (.iaload, 1) := by decide +kernel
theorem dL_law_1690 : decode cL_law 1690 = .ok (.aload_n 0, 1) := by decide +kernel
theorem dL_law_1691 : decode cL_law 1691 = .ok (.iload 5, 2) := by decide +kernel
theorem dL_law_1693 : decode cL_law 1693 = .ok (.iconst 2, 1) := by decide +kernel
theorem dL_law_1694 : decode cL_law 1694 = .ok (.iadd, 1) := by decide +kernel
theorem dL_law_1695 : decode cL_law 1695 = .ok (.iaload, 1) := by decide +kernel
theorem dL_law_1696 : decode cL_law 1696 = .ok (.invokevirtual 213, 3) := by decide +kernel
theorem dL_law_1699 : decode cL_law 1699 = .ok (.istore 7, 2) := by decide +kernel
theorem dL_law_1701 : decode cL_law 1701 = .ok (.aload_n 2, 1) := by decide +kernel
theorem dL_law_1702 : decode cL_law 1702 = .ok (.invokevirtual 131, 3) := by decide +kernel
theorem dL_law_1705 : decode cL_law 1705 = .ok (.iload 6, 2) := by decide +kernel
theorem dL_law_1707 : decode cL_law 1707 = .ok (.if_icmp .eq 5, 3) := by decide +kernel
theorem dL_law_1710 : decode cL_law 1710 = .ok (.iconst 0, 1) := by decide +kernel
theorem dL_law_1711 : decode cL_law 1711 = .ok (.ireturn, 1) := by decide +kernel
theorem dL_law_1712 : decode cL_law 1712 = .ok (.iload 6, 2) := by decide +kernel
theorem dL_law_1714 : decode cL_law 1714 = .ok (.ifCond .ne 15, 3) := by decide +kernel
theorem dL_law_1717 : decode cL_law 1717 = .ok (.aload_n 3, 1) := by decide +kernel
theorem dL_law_1718 : decode cL_law 1718 = .ok (.iconst 0, 1) := by decide +kernel
theorem dL_law_1719 : decode cL_law 1719 = .ok (.laload, 1) := by decide +kernel
theorem dL_law_1720 : decode cL_law 1720 = .ok (.iload 7, 2) := by decide +kernel
theorem dL_law_1722 : decode cL_law 1722 = .ok (.i2l, 1) := by decide +kernel
theorem dL_law_1723 : decode cL_law 1723 = .ok (.lcmp, 1) := by decide +kernel
theorem dL_law_1724 : decode cL_law 1724 = .ok (.ifCond .eq 5, 3) := by decide +kernel
theorem dL_law_1727 : decode cL_law 1727 = .ok (.iconst 0, 1) := by decide +kernel
theorem dL_law_1728 : decode cL_law 1728 = .ok (.ireturn, 1) := by decide +kernel
theorem dL_law_1729 : decode cL_law 1729 = .ok (.goto 635, 3) := by decide +kernel
theorem dL_law_1732 : decode cL_law 1732 = .ok (.aload_n 1, 1) := by decide +kernel
theorem dL_law_1733 : decode cL_law 1733 = .ok (.aload_n 0, 1) := by decide +kernel
theorem dL_law_1734 : decode cL_law 1734 = .ok (.iload 5, 2) := by decide +kernel
theorem dL_law_1736 : decode cL_law 1736 = .ok (.iconst 1, 1) := by decide +kernel
theorem dL_law_1737 : decode cL_law 1737 = .ok (.iadd, 1) := by decide +kernel
theorem dL_law_1738 : decode cL_law 1738 = .ok (.iaload, 1) := by decide +kernel
theorem dL_law_1739 : decode cL_law 1739 = .ok (.aload_n 3, 1) := by decide +kernel
theorem dL_law_1740 : decode cL_law 1740 = .ok (.invokestatic 214, 3) := by decide +kernel
theorem dL_law_1743 : decode cL_law 1743 = .ok (.istore 6, 2) := by decide +kernel
theorem dL_law_1745 : decode cL_law 1745 = .ok (.aload_n 2, 1) := by decide +kernel
theorem dL_law_1746 : decode cL_law 1746 = .ok (.aload_n 0, 1) := by decide +kernel
theorem dL_law_1747 : decode cL_law 1747 = .ok (.iload 5, 2) := by decide +kernel
theorem dL_law_1749 : decode cL_law 1749 = .ok (.iconst 1, 1) := by decide +kernel
theorem dL_law_1750 : decode cL_law 1750 = .ok (.iadd, 1) := by decide +kernel
theorem dL_law_1751 : decode cL_law 1751 = .ok (.iaload, 1) := by decide +kernel
theorem dL_law_1752 : decode cL_law 1752 = .ok (.invokevirtual 216, 3) := by decide +kernel
theorem dL_law_1755 : decode cL_law 1755 = .ok (.istore 7, 2) := by decide +kernel
theorem dL_law_1757 : decode cL_law 1757 = .ok (.aload_n 2, 1) := by decide +kernel
theorem dL_law_1758 : decode cL_law 1758 = .ok (.invokevirtual 131, 3) := by decide +kernel
theorem dL_law_1761 : decode cL_law 1761 = .ok (.iload 6, 2) := by decide +kernel
theorem dL_law_1763 : decode cL_law 1763 = .ok (.if_icmp .eq 5, 3) := by decide +kernel
theorem dL_law_1766 : decode cL_law 1766 = .ok (.iconst 0, 1) := by decide +kernel
theorem dL_law_1767 : decode cL_law 1767 = .ok (.ireturn, 1) := by decide +kernel
theorem dL_law_1768 : decode cL_law 1768 = .ok (.iload 6, 2) := by decide +kernel
theorem dL_law_1770 : decode cL_law 1770 = .ok (.ifCond .ne 15, 3) := by decide +kernel
theorem dL_law_1773 : decode cL_law 1773 = .ok (.aload_n 3, 1) := by decide +kernel
theorem dL_law_1774 : decode cL_law 1774 = .ok (.iconst 0, 1) := by decide +kernel
theorem dL_law_1775 : decode cL_law 1775 = .ok (.laload, 1) := by decide +kernel
theorem dL_law_1776 : decode cL_law 1776 = .ok (.iload 7, 2) := by decide +kernel
theorem dL_law_1778 : decode cL_law 1778 = .ok (.i2l, 1) := by decide +kernel
theorem dL_law_1779 : decode cL_law 1779 = .ok (.lcmp, 1) := by decide +kernel
theorem dL_law_1780 : decode cL_law 1780 = .ok (.ifCond .eq 5, 3) := by decide +kernel
theorem dL_law_1783 : decode cL_law 1783 = .ok (.iconst 0, 1) := by decide +kernel
theorem dL_law_1784 : decode cL_law 1784 = .ok (.ireturn, 1) := by decide +kernel
theorem dL_law_1785 : decode cL_law 1785 = .ok (.goto 579, 3) := by decide +kernel
theorem dL_law_1788 : decode cL_law 1788 = .ok (.aload_n 1, 1) := by decide +kernel
theorem dL_law_1789 : decode cL_law 1789 = .ok (.aload_n 0, 1) := by decide +kernel
theorem dL_law_1790 : decode cL_law 1790 = .ok (.iload 5, 2) := by decide +kernel
theorem dL_law_1792 : decode cL_law 1792 = .ok (.iconst 1, 1) := by decide +kernel
theorem dL_law_1793 : decode cL_law 1793 = .ok (.iadd, 1) := by decide +kernel
theorem dL_law_1794 : decode cL_law 1794 = .ok (.iaload, 1) := by decide +kernel
theorem dL_law_1795 : decode cL_law 1795 = .ok (.aload_n 3, 1) := by decide +kernel
theorem dL_law_1796 : decode cL_law 1796 = .ok (.invokestatic 217, 3) := by decide +kernel
theorem dL_law_1799 : decode cL_law 1799 = .ok (.istore 6, 2) := by decide +kernel
theorem dL_law_1801 : decode cL_law 1801 = .ok (.aload_n 2, 1) := by decide +kernel
theorem dL_law_1802 : decode cL_law 1802 = .ok (.aload_n 0, 1) := by decide +kernel
theorem dL_law_1803 : decode cL_law 1803 = .ok (.iload 5, 2) := by decide +kernel
theorem dL_law_1805 : decode cL_law 1805 = .ok (.iconst 1, 1) := by decide +kernel
theorem dL_law_1806 : decode cL_law 1806 = .ok (.iadd, 1) := by decide +kernel
theorem dL_law_1807 : decode cL_law 1807 = .ok (.iaload, 1) := by decide +kernel
theorem dL_law_1808 : decode cL_law 1808 = .ok (.invokevirtual 219, 3) := by decide +kernel
theorem dL_law_1811 : decode cL_law 1811 = .ok (.istore 7, 2) := by decide +kernel
theorem dL_law_1813 : decode cL_law 1813 = .ok (.aload_n 2, 1) := by decide +kernel
theorem dL_law_1814 : decode cL_law 1814 = .ok (.invokevirtual 131, 3) := by decide +kernel
theorem dL_law_1817 : decode cL_law 1817 = .ok (.iload 6, 2) := by decide +kernel
theorem dL_law_1819 : decode cL_law 1819 = .ok (.if_icmp .eq 5, 3) := by decide +kernel
theorem dL_law_1822 : decode cL_law 1822 = .ok (.iconst 0, 1) := by decide +kernel
theorem dL_law_1823 : decode cL_law 1823 = .ok (.ireturn, 1) := by decide +kernel
theorem dL_law_1824 : decode cL_law 1824 = .ok (.iload 6, 2) := by decide +kernel
theorem dL_law_1826 : decode cL_law 1826 = .ok (.ifCond .ne 15, 3) := by decide +kernel
theorem dL_law_1829 : decode cL_law 1829 = .ok (.aload_n 3, 1) := by decide +kernel
theorem dL_law_1830 : decode cL_law 1830 = .ok (.iconst 0, 1) := by decide +kernel
theorem dL_law_1831 : decode cL_law 1831 = .ok (.laload, 1) := by decide +kernel
theorem dL_law_1832 : decode cL_law 1832 = .ok (.iload 7, 2) := by decide +kernel
theorem dL_law_1834 : decode cL_law 1834 = .ok (.i2l, 1) := by decide +kernel
theorem dL_law_1835 : decode cL_law 1835 = .ok (.lcmp, 1) := by decide +kernel
theorem dL_law_1836 : decode cL_law 1836 = .ok (.ifCond .eq 5, 3) := by decide +kernel
theorem dL_law_1839 : decode cL_law 1839 = .ok (.iconst 0, 1) := by decide +kernel
theorem dL_law_1840 : decode cL_law 1840 = .ok (.ireturn, 1) := by decide +kernel
theorem dL_law_1841 : decode cL_law 1841 = .ok (.goto 523, 3) := by decide +kernel
theorem dL_law_1844 : decode cL_law 1844 = .ok (.aload_n 1, 1) := by decide +kernel
theorem dL_law_1845 : decode cL_law 1845 = .ok (.aload_n 0, 1) := by decide +kernel
theorem dL_law_1846 : decode cL_law 1846 = .ok (.iload 5, 2) := by decide +kernel
theorem dL_law_1848 : decode cL_law 1848 = .ok (.iconst 1, 1) := by decide +kernel
theorem dL_law_1849 : decode cL_law 1849 = .ok (.iadd, 1) := by decide +kernel
theorem dL_law_1850 : decode cL_law 1850 = .ok (.iaload, 1) := by decide +kernel
theorem dL_law_1851 : decode cL_law 1851 = .ok (.aload_n 3, 1) := by decide +kernel
theorem dL_law_1852 : decode cL_law 1852 = .ok (.invokestatic 220, 3) := by decide +kernel
theorem dL_law_1855 : decode cL_law 1855 = .ok (.istore 6, 2) := by decide +kernel
theorem dL_law_1857 : decode cL_law 1857 = .ok (.aload_n 2, 1) := by decide +kernel
theorem dL_law_1858 : decode cL_law 1858 = .ok (.aload_n 0, 1) := by decide +kernel
theorem dL_law_1859 : decode cL_law 1859 = .ok (.iload 5, 2) := by decide +kernel
theorem dL_law_1861 : decode cL_law 1861 = .ok (.iconst 1, 1) := by decide +kernel
theorem dL_law_1862 : decode cL_law 1862 = .ok (.iadd, 1) := by decide +kernel
theorem dL_law_1863 : decode cL_law 1863 = .ok (.iaload, 1) := by decide +kernel
theorem dL_law_1864 : decode cL_law 1864 = .ok (.invokevirtual 222, 3) := by decide +kernel
theorem dL_law_1867 : decode cL_law 1867 = .ok (.istore 7, 2) := by decide +kernel
theorem dL_law_1869 : decode cL_law 1869 = .ok (.aload_n 2, 1) := by decide +kernel
theorem dL_law_1870 : decode cL_law 1870 = .ok (.invokevirtual 131, 3) := by decide +kernel
theorem dL_law_1873 : decode cL_law 1873 = .ok (.iload 6, 2) := by decide +kernel
theorem dL_law_1875 : decode cL_law 1875 = .ok (.if_icmp .eq 5, 3) := by decide +kernel
theorem dL_law_1878 : decode cL_law 1878 = .ok (.iconst 0, 1) := by decide +kernel
theorem dL_law_1879 : decode cL_law 1879 = .ok (.ireturn, 1) := by decide +kernel
theorem dL_law_1880 : decode cL_law 1880 = .ok (.iload 6, 2) := by decide +kernel
theorem dL_law_1882 : decode cL_law 1882 = .ok (.ifCond .ne 15, 3) := by decide +kernel
theorem dL_law_1885 : decode cL_law 1885 = .ok (.aload_n 3, 1) := by decide +kernel
theorem dL_law_1886 : decode cL_law 1886 = .ok (.iconst 0, 1) := by decide +kernel
theorem dL_law_1887 : decode cL_law 1887 = .ok (.laload, 1) := by decide +kernel
theorem dL_law_1888 : decode cL_law 1888 = .ok (.iload 7, 2) := by decide +kernel
theorem dL_law_1890 : decode cL_law 1890 = .ok (.i2l, 1) := by decide +kernel
theorem dL_law_1891 : decode cL_law 1891 = .ok (.lcmp, 1) := by decide +kernel
theorem dL_law_1892 : decode cL_law 1892 = .ok (.ifCond .eq 5, 3) := by decide +kernel
theorem dL_law_1895 : decode cL_law 1895 = .ok (.iconst 0, 1) := by decide +kernel
theorem dL_law_1896 : decode cL_law 1896 = .ok (.ireturn, 1) := by decide +kernel
theorem dL_law_1897 : decode cL_law 1897 = .ok (.goto 467, 3) := by decide +kernel
theorem dL_law_1900 : decode cL_law 1900 = .ok (.aload_n 1, 1) := by decide +kernel
theorem dL_law_1901 : decode cL_law 1901 = .ok (.aload_n 0, 1) := by decide +kernel
theorem dL_law_1902 : decode cL_law 1902 = .ok (.iload 5, 2) := by decide +kernel
theorem dL_law_1904 : decode cL_law 1904 = .ok (.iconst 1, 1) := by decide +kernel
theorem dL_law_1905 : decode cL_law 1905 = .ok (.iadd, 1) := by decide +kernel
theorem dL_law_1906 : decode cL_law 1906 = .ok (.iaload, 1) := by decide +kernel
theorem dL_law_1907 : decode cL_law 1907 = .ok (.aload_n 3, 1) := by decide +kernel
theorem dL_law_1908 : decode cL_law 1908 = .ok (.invokestatic 223, 3) := by decide +kernel
theorem dL_law_1911 : decode cL_law 1911 = .ok (.istore 6, 2) := by decide +kernel
theorem dL_law_1913 : decode cL_law 1913 = .ok (.aload_n 2, 1) := by decide +kernel
theorem dL_law_1914 : decode cL_law 1914 = .ok (.aload_n 0, 1) := by decide +kernel
theorem dL_law_1915 : decode cL_law 1915 = .ok (.iload 5, 2) := by decide +kernel
theorem dL_law_1917 : decode cL_law 1917 = .ok (.iconst 1, 1) := by decide +kernel
theorem dL_law_1918 : decode cL_law 1918 = .ok (.iadd, 1) := by decide +kernel
theorem dL_law_1919 : decode cL_law 1919 = .ok (.iaload, 1) := by decide +kernel
theorem dL_law_1920 : decode cL_law 1920 = .ok (.invokevirtual 225, 3) := by decide +kernel
theorem dL_law_1923 : decode cL_law 1923 = .ok (.istore 7, 2) := by decide +kernel
theorem dL_law_1925 : decode cL_law 1925 = .ok (.aload_n 2, 1) := by decide +kernel
theorem dL_law_1926 : decode cL_law 1926 = .ok (.invokevirtual 131, 3) := by decide +kernel
theorem dL_law_1929 : decode cL_law 1929 = .ok (.iload 6, 2) := by decide +kernel
theorem dL_law_1931 : decode cL_law 1931 = .ok (.if_icmp .eq 5, 3) := by decide +kernel
theorem dL_law_1934 : decode cL_law 1934 = .ok (.iconst 0, 1) := by decide +kernel
theorem dL_law_1935 : decode cL_law 1935 = .ok (.ireturn, 1) := by decide +kernel
theorem dL_law_1936 : decode cL_law 1936 = .ok (.iload 6, 2) := by decide +kernel
theorem dL_law_1938 : decode cL_law 1938 = .ok (.ifCond .ne 15, 3) := by decide +kernel
theorem dL_law_1941 : decode cL_law 1941 = .ok (.aload_n 3, 1) := by decide +kernel
theorem dL_law_1942 : decode cL_law 1942 = .ok (.iconst 0, 1) := by decide +kernel
theorem dL_law_1943 : decode cL_law 1943 = .ok (.laload, 1) := by decide +kernel
theorem dL_law_1944 : decode cL_law 1944 = .ok (.iload 7, 2) := by decide +kernel
theorem dL_law_1946 : decode cL_law 1946 = .ok (.i2l, 1) := by decide +kernel
theorem dL_law_1947 : decode cL_law 1947 = .ok (.lcmp, 1) := by decide +kernel
theorem dL_law_1948 : decode cL_law 1948 = .ok (.ifCond .eq 5, 3) := by decide +kernel
theorem dL_law_1951 : decode cL_law 1951 = .ok (.iconst 0, 1) := by decide +kernel
theorem dL_law_1952 : decode cL_law 1952 = .ok (.ireturn, 1) := by decide +kernel
theorem dL_law_1953 : decode cL_law 1953 = .ok (.goto 411, 3) := by decide +kernel
theorem dL_law_1956 : decode cL_law 1956 = .ok (.aload_n 1, 1) := by decide +kernel
theorem dL_law_1957 : decode cL_law 1957 = .ok (.aload_n 0, 1) := by decide +kernel
theorem dL_law_1958 : decode cL_law 1958 = .ok (.iload 5, 2) := by decide +kernel
theorem dL_law_1960 : decode cL_law 1960 = .ok (.iconst 1, 1) := by decide +kernel
theorem dL_law_1961 : decode cL_law 1961 = .ok (.iadd, 1) := by decide +kernel
theorem dL_law_1962 : decode cL_law 1962 = .ok (.iaload, 1) := by decide +kernel
theorem dL_law_1963 : decode cL_law 1963 = .ok (.aload_n 0, 1) := by decide +kernel
theorem dL_law_1964 : decode cL_law 1964 = .ok (.iload 5, 2) := by decide +kernel
theorem dL_law_1966 : decode cL_law 1966 = .ok (.iconst 2, 1) := by decide +kernel
theorem dL_law_1967 : decode cL_law 1967 = .ok (.iadd, 1) := by decide +kernel
theorem dL_law_1968 : decode cL_law 1968 = .ok (.iaload, 1) := by decide +kernel
theorem dL_law_1969 : decode cL_law 1969 = .ok (.aload_n 3, 1) := by decide +kernel
theorem dL_law_1970 : decode cL_law 1970 = .ok (.invokestatic 226, 3) := by decide +kernel
theorem dL_law_1973 : decode cL_law 1973 = .ok (.istore 6, 2) := by decide +kernel
theorem dL_law_1975 : decode cL_law 1975 = .ok (.aload_n 2, 1) := by decide +kernel
theorem dL_law_1976 : decode cL_law 1976 = .ok (.aload_n 0, 1) := by decide +kernel
theorem dL_law_1977 : decode cL_law 1977 = .ok (.iload 5, 2) := by decide +kernel
theorem dL_law_1979 : decode cL_law 1979 = .ok (.iconst 1, 1) := by decide +kernel
theorem dL_law_1980 : decode cL_law 1980 = .ok (.iadd, 1) := by decide +kernel
theorem dL_law_1981 : decode cL_law 1981 = .ok (.iaload, 1) := by decide +kernel
theorem dL_law_1982 : decode cL_law 1982 = .ok (.aload_n 0, 1) := by decide +kernel
theorem dL_law_1983 : decode cL_law 1983 = .ok (.iload 5, 2) := by decide +kernel
theorem dL_law_1985 : decode cL_law 1985 = .ok (.iconst 2, 1) := by decide +kernel
theorem dL_law_1986 : decode cL_law 1986 = .ok (.iadd, 1) := by decide +kernel
theorem dL_law_1987 : decode cL_law 1987 = .ok (.iaload, 1) := by decide +kernel
theorem dL_law_1988 : decode cL_law 1988 = .ok (.invokevirtual 228, 3) := by decide +kernel
theorem dL_law_1991 : decode cL_law 1991 = .ok (.istore 7, 2) := by decide +kernel
theorem dL_law_1993 : decode cL_law 1993 = .ok (.aload_n 2, 1) := by decide +kernel
theorem dL_law_1994 : decode cL_law 1994 = .ok (.invokevirtual 131, 3) := by decide +kernel
theorem dL_law_1997 : decode cL_law 1997 = .ok (.iload 6, 2) := by decide +kernel
theorem dL_law_1999 : decode cL_law 1999 = .ok (.if_icmp .eq 5, 3) := by decide +kernel
theorem dL_law_2002 : decode cL_law 2002 = .ok (.iconst 0, 1) := by decide +kernel
theorem dL_law_2003 : decode cL_law 2003 = .ok (.ireturn, 1) := by decide +kernel
theorem dL_law_2004 : decode cL_law 2004 = .ok (.iload 6, 2) := by decide +kernel
theorem dL_law_2006 : decode cL_law 2006 = .ok (.ifCond .ne 15, 3) := by decide +kernel
theorem dL_law_2009 : decode cL_law 2009 = .ok (.aload_n 3, 1) := by decide +kernel
theorem dL_law_2010 : decode cL_law 2010 = .ok (.iconst 0, 1) := by decide +kernel
theorem dL_law_2011 : decode cL_law 2011 = .ok (.laload, 1) := by decide +kernel
theorem dL_law_2012 : decode cL_law 2012 = .ok (.iload 7, 2) := by decide +kernel
theorem dL_law_2014 : decode cL_law 2014 = .ok (.i2l, 1) := by decide +kernel
theorem dL_law_2015 : decode cL_law 2015 = .ok (.lcmp, 1) := by decide +kernel
theorem dL_law_2016 : decode cL_law 2016 = .ok (.ifCond .eq 5, 3) := by decide +kernel
theorem dL_law_2019 : decode cL_law 2019 = .ok (.iconst 0, 1) := by decide +kernel
theorem dL_law_2020 : decode cL_law 2020 = .ok (.ireturn, 1) := by decide +kernel
theorem dL_law_2021 : decode cL_law 2021 = .ok (.goto 343, 3) := by decide +kernel
theorem dL_law_2024 : decode cL_law 2024 = .ok (.aload_n 1, 1) := by decide +kernel
theorem dL_law_2025 : decode cL_law 2025 = .ok (.aload_n 0, 1) := by decide +kernel
theorem dL_law_2026 : decode cL_law 2026 = .ok (.iload 5, 2) := by decide +kernel
theorem dL_law_2028 : decode cL_law 2028 = .ok (.iconst 1, 1) := by decide +kernel
theorem dL_law_2029 : decode cL_law 2029 = .ok (.iadd, 1) := by decide +kernel
theorem dL_law_2030 : decode cL_law 2030 = .ok (.iaload, 1) := by decide +kernel
theorem dL_law_2031 : decode cL_law 2031 = .ok (.aload_n 0, 1) := by decide +kernel
theorem dL_law_2032 : decode cL_law 2032 = .ok (.iload 5, 2) := by decide +kernel
theorem dL_law_2034 : decode cL_law 2034 = .ok (.iconst 2, 1) := by decide +kernel
theorem dL_law_2035 : decode cL_law 2035 = .ok (.iadd, 1) := by decide +kernel
theorem dL_law_2036 : decode cL_law 2036 = .ok (.iaload, 1) := by decide +kernel
theorem dL_law_2037 : decode cL_law 2037 = .ok (.aload_n 3, 1) := by decide +kernel
theorem dL_law_2038 : decode cL_law 2038 = .ok (.invokestatic 229, 3) := by decide +kernel
theorem dL_law_2041 : decode cL_law 2041 = .ok (.istore 6, 2) := by decide +kernel
theorem dL_law_2043 : decode cL_law 2043 = .ok (.aload_n 2, 1) := by decide +kernel
theorem dL_law_2044 : decode cL_law 2044 = .ok (.aload_n 0, 1) := by decide +kernel
theorem dL_law_2045 : decode cL_law 2045 = .ok (.iload 5, 2) := by decide +kernel
theorem dL_law_2047 : decode cL_law 2047 = .ok (.iconst 1, 1) := by decide +kernel
theorem dL_law_2048 : decode cL_law 2048 = .ok (.iadd, 1) := by decide +kernel
theorem dL_law_2049 : decode cL_law 2049 = .ok (.iaload, 1) := by decide +kernel
theorem dL_law_2050 : decode cL_law 2050 = .ok (.aload_n 0, 1) := by decide +kernel
theorem dL_law_2051 : decode cL_law 2051 = .ok (.iload 5, 2) := by decide +kernel
theorem dL_law_2053 : decode cL_law 2053 = .ok (.iconst 2, 1) := by decide +kernel
theorem dL_law_2054 : decode cL_law 2054 = .ok (.iadd, 1) := by decide +kernel
theorem dL_law_2055 : decode cL_law 2055 = .ok (.iaload, 1) := by decide +kernel
theorem dL_law_2056 : decode cL_law 2056 = .ok (.invokevirtual 231, 3) := by decide +kernel
theorem dL_law_2059 : decode cL_law 2059 = .ok (.istore 7, 2) := by decide +kernel
theorem dL_law_2061 : decode cL_law 2061 = .ok (.aload_n 2, 1) := by decide +kernel
theorem dL_law_2062 : decode cL_law 2062 = .ok (.invokevirtual 131, 3) := by decide +kernel
theorem dL_law_2065 : decode cL_law 2065 = .ok (.iload 6, 2) := by decide +kernel
theorem dL_law_2067 : decode cL_law 2067 = .ok (.if_icmp .eq 5, 3) := by decide +kernel
theorem dL_law_2070 : decode cL_law 2070 = .ok (.iconst 0, 1) := by decide +kernel
theorem dL_law_2071 : decode cL_law 2071 = .ok (.ireturn, 1) := by decide +kernel
theorem dL_law_2072 : decode cL_law 2072 = .ok (.iload 6, 2) := by decide +kernel
theorem dL_law_2074 : decode cL_law 2074 = .ok (.ifCond .ne 15, 3) := by decide +kernel
theorem dL_law_2077 : decode cL_law 2077 = .ok (.aload_n 3, 1) := by decide +kernel
theorem dL_law_2078 : decode cL_law 2078 = .ok (.iconst 0, 1) := by decide +kernel
theorem dL_law_2079 : decode cL_law 2079 = .ok (.laload, 1) := by decide +kernel
theorem dL_law_2080 : decode cL_law 2080 = .ok (.iload 7, 2) := by decide +kernel
theorem dL_law_2082 : decode cL_law 2082 = .ok (.i2l, 1) := by decide +kernel
theorem dL_law_2083 : decode cL_law 2083 = .ok (.lcmp, 1) := by decide +kernel
theorem dL_law_2084 : decode cL_law 2084 = .ok (.ifCond .eq 5, 3) := by decide +kernel
theorem dL_law_2087 : decode cL_law 2087 = .ok (.iconst 0, 1) := by decide +kernel
theorem dL_law_2088 : decode cL_law 2088 = .ok (.ireturn, 1) := by decide +kernel
theorem dL_law_2089 : decode cL_law 2089 = .ok (.goto 275, 3) := by decide +kernel
theorem dL_law_2092 : decode cL_law 2092 = .ok (.aload_n 1, 1) := by decide +kernel
theorem dL_law_2093 : decode cL_law 2093 = .ok (.aload_n 0, 1) := by decide +kernel
theorem dL_law_2094 : decode cL_law 2094 = .ok (.iload 5, 2) := by decide +kernel
theorem dL_law_2096 : decode cL_law 2096 = .ok (.iconst 1, 1) := by decide +kernel
theorem dL_law_2097 : decode cL_law 2097 = .ok (.iadd, 1) := by decide +kernel
theorem dL_law_2098 : decode cL_law 2098 = .ok (.iaload, 1) := by decide +kernel
theorem dL_law_2099 : decode cL_law 2099 = .ok (.aload_n 0, 1) := by decide +kernel
theorem dL_law_2100 : decode cL_law 2100 = .ok (.iload 5, 2) := by decide +kernel
theorem dL_law_2102 : decode cL_law 2102 = .ok (.iconst 2, 1) := by decide +kernel
theorem dL_law_2103 : decode cL_law 2103 = .ok (.iadd, 1) := by decide +kernel
theorem dL_law_2104 : decode cL_law 2104 = .ok (.iaload, 1) := by decide +kernel
theorem dL_law_2105 : decode cL_law 2105 = .ok (.aload_n 3, 1) := by decide +kernel
theorem dL_law_2106 : decode cL_law 2106 = .ok (.invokestatic 232, 3) := by decide +kernel
theorem dL_law_2109 : decode cL_law 2109 = .ok (.istore 6, 2) := by decide +kernel
theorem dL_law_2111 : decode cL_law 2111 = .ok (.aload_n 2, 1) := by decide +kernel
theorem dL_law_2112 : decode cL_law 2112 = .ok (.aload_n 0, 1) := by decide +kernel
theorem dL_law_2113 : decode cL_law 2113 = .ok (.iload 5, 2) := by decide +kernel
theorem dL_law_2115 : decode cL_law 2115 = .ok (.iconst 1, 1) := by decide +kernel
theorem dL_law_2116 : decode cL_law 2116 = .ok (.iadd, 1) := by decide +kernel
theorem dL_law_2117 : decode cL_law 2117 = .ok (.iaload, 1) := by decide +kernel
theorem dL_law_2118 : decode cL_law 2118 = .ok (.aload_n 0, 1) := by decide +kernel
theorem dL_law_2119 : decode cL_law 2119 = .ok (.iload 5, 2) := by decide +kernel
theorem dL_law_2121 : decode cL_law 2121 = .ok (.iconst 2, 1) := by decide +kernel
theorem dL_law_2122 : decode cL_law 2122 = .ok (.iadd, 1) := by decide +kernel
theorem dL_law_2123 : decode cL_law 2123 = .ok (.iaload, 1) := by decide +kernel
theorem dL_law_2124 : decode cL_law 2124 = .ok (.invokevirtual 234, 3) := by decide +kernel
theorem dL_law_2127 : decode cL_law 2127 = .ok (.istore 7, 2) := by decide +kernel
theorem dL_law_2129 : decode cL_law 2129 = .ok (.aload_n 2, 1) := by decide +kernel
theorem dL_law_2130 : decode cL_law 2130 = .ok (.invokevirtual 131, 3) := by decide +kernel
theorem dL_law_2133 : decode cL_law 2133 = .ok (.iload 6, 2) := by decide +kernel
theorem dL_law_2135 : decode cL_law 2135 = .ok (.if_icmp .eq 5, 3) := by decide +kernel
theorem dL_law_2138 : decode cL_law 2138 = .ok (.iconst 0, 1) := by decide +kernel
theorem dL_law_2139 : decode cL_law 2139 = .ok (.ireturn, 1) := by decide +kernel
theorem dL_law_2140 : decode cL_law 2140 = .ok (.iload 6, 2) := by decide +kernel
theorem dL_law_2142 : decode cL_law 2142 = .ok (.ifCond .ne 15, 3) := by decide +kernel
theorem dL_law_2145 : decode cL_law 2145 = .ok (.aload_n 3, 1) := by decide +kernel
theorem dL_law_2146 : decode cL_law 2146 = .ok (.iconst 0, 1) := by decide +kernel
theorem dL_law_2147 : decode cL_law 2147 = .ok (.laload, 1) := by decide +kernel
theorem dL_law_2148 : decode cL_law 2148 = .ok (.iload 7, 2) := by decide +kernel
theorem dL_law_2150 : decode cL_law 2150 = .ok (.i2l, 1) := by decide +kernel
theorem dL_law_2151 : decode cL_law 2151 = .ok (.lcmp, 1) := by decide +kernel
theorem dL_law_2152 : decode cL_law 2152 = .ok (.ifCond .eq 5, 3) := by decide +kernel
theorem dL_law_2155 : decode cL_law 2155 = .ok (.iconst 0, 1) := by decide +kernel
theorem dL_law_2156 : decode cL_law 2156 = .ok (.ireturn, 1) := by decide +kernel
theorem dL_law_2157 : decode cL_law 2157 = .ok (.goto 207, 3) := by decide +kernel
theorem dL_law_2160 : decode cL_law 2160 = .ok (.aload_n 1, 1) := by decide +kernel
theorem dL_law_2161 : decode cL_law 2161 = .ok (.aload_n 0, 1) := by decide +kernel
theorem dL_law_2162 : decode cL_law 2162 = .ok (.iload 5, 2) := by decide +kernel
theorem dL_law_2164 : decode cL_law 2164 = .ok (.iconst 1, 1) := by decide +kernel
theorem dL_law_2165 : decode cL_law 2165 = .ok (.iadd, 1) := by decide +kernel
theorem dL_law_2166 : decode cL_law 2166 = .ok (.iaload, 1) := by decide +kernel
theorem dL_law_2167 : decode cL_law 2167 = .ok (.aload_n 0, 1) := by decide +kernel
theorem dL_law_2168 : decode cL_law 2168 = .ok (.iload 5, 2) := by decide +kernel
theorem dL_law_2170 : decode cL_law 2170 = .ok (.iconst 2, 1) := by decide +kernel
theorem dL_law_2171 : decode cL_law 2171 = .ok (.iadd, 1) := by decide +kernel
theorem dL_law_2172 : decode cL_law 2172 = .ok (.iaload, 1) := by decide +kernel
theorem dL_law_2173 : decode cL_law 2173 = .ok (.aload_n 3, 1) := by decide +kernel
theorem dL_law_2174 : decode cL_law 2174 = .ok (.invokestatic 235, 3) := by decide +kernel
theorem dL_law_2177 : decode cL_law 2177 = .ok (.istore 6, 2) := by decide +kernel
theorem dL_law_2179 : decode cL_law 2179 = .ok (.aload_n 2, 1) := by decide +kernel
theorem dL_law_2180 : decode cL_law 2180 = .ok (.aload_n 0, 1) := by decide +kernel
theorem dL_law_2181 : decode cL_law 2181 = .ok (.iload 5, 2) := by decide +kernel
theorem dL_law_2183 : decode cL_law 2183 = .ok (.iconst 1, 1) := by decide +kernel
theorem dL_law_2184 : decode cL_law 2184 = .ok (.iadd, 1) := by decide +kernel
theorem dL_law_2185 : decode cL_law 2185 = .ok (.iaload, 1) := by decide +kernel
theorem dL_law_2186 : decode cL_law 2186 = .ok (.aload_n 0, 1) := by decide +kernel
theorem dL_law_2187 : decode cL_law 2187 = .ok (.iload 5, 2) := by decide +kernel
theorem dL_law_2189 : decode cL_law 2189 = .ok (.iconst 2, 1) := by decide +kernel
theorem dL_law_2190 : decode cL_law 2190 = .ok (.iadd, 1) := by decide +kernel
theorem dL_law_2191 : decode cL_law 2191 = .ok (.iaload, 1) := by decide +kernel
theorem dL_law_2192 : decode cL_law 2192 = .ok (.invokevirtual 237, 3) := by decide +kernel
theorem dL_law_2195 : decode cL_law 2195 = .ok (.istore 7, 2) := by decide +kernel
theorem dL_law_2197 : decode cL_law 2197 = .ok (.aload_n 2, 1) := by decide +kernel
theorem dL_law_2198 : decode cL_law 2198 = .ok (.invokevirtual 131, 3) := by decide +kernel
theorem dL_law_2201 : decode cL_law 2201 = .ok (.iload 6, 2) := by decide +kernel
theorem dL_law_2203 : decode cL_law 2203 = .ok (.if_icmp .eq 5, 3) := by decide +kernel
theorem dL_law_2206 : decode cL_law 2206 = .ok (.iconst 0, 1) := by decide +kernel
theorem dL_law_2207 : decode cL_law 2207 = .ok (.ireturn, 1) := by decide +kernel
theorem dL_law_2208 : decode cL_law 2208 = .ok (.iload 6, 2) := by decide +kernel
theorem dL_law_2210 : decode cL_law 2210 = .ok (.ifCond .ne 15, 3) := by decide +kernel
theorem dL_law_2213 : decode cL_law 2213 = .ok (.aload_n 3, 1) := by decide +kernel
theorem dL_law_2214 : decode cL_law 2214 = .ok (.iconst 0, 1) := by decide +kernel
theorem dL_law_2215 : decode cL_law 2215 = .ok (.laload, 1) := by decide +kernel
theorem dL_law_2216 : decode cL_law 2216 = .ok (.iload 7, 2) := by decide +kernel
theorem dL_law_2218 : decode cL_law 2218 = .ok (.i2l, 1) := by decide +kernel
theorem dL_law_2219 : decode cL_law 2219 = .ok (.lcmp, 1) := by decide +kernel
theorem dL_law_2220 : decode cL_law 2220 = .ok (.ifCond .eq 5, 3) := by decide +kernel
theorem dL_law_2223 : decode cL_law 2223 = .ok (.iconst 0, 1) := by decide +kernel
theorem dL_law_2224 : decode cL_law 2224 = .ok (.ireturn, 1) := by decide +kernel
theorem dL_law_2225 : decode cL_law 2225 = .ok (.goto 139, 3) := by decide +kernel
theorem dL_law_2228 : decode cL_law 2228 = .ok (.aload_n 1, 1) := by decide +kernel
theorem dL_law_2229 : decode cL_law 2229 = .ok (.aload_n 0, 1) := by decide +kernel
theorem dL_law_2230 : decode cL_law 2230 = .ok (.iload 5, 2) := by decide +kernel
theorem dL_law_2232 : decode cL_law 2232 = .ok (.iconst 1, 1) := by decide +kernel
theorem dL_law_2233 : decode cL_law 2233 = .ok (.iadd, 1) := by decide +kernel
theorem dL_law_2234 : decode cL_law 2234 = .ok (.iaload, 1) := by decide +kernel
theorem dL_law_2235 : decode cL_law 2235 = .ok (.aload_n 0, 1) := by decide +kernel
theorem dL_law_2236 : decode cL_law 2236 = .ok (.iload 5, 2) := by decide +kernel
theorem dL_law_2238 : decode cL_law 2238 = .ok (.iconst 2, 1) := by decide +kernel
theorem dL_law_2239 : decode cL_law 2239 = .ok (.iadd, 1) := by decide +kernel
theorem dL_law_2240 : decode cL_law 2240 = .ok (.iaload, 1) := by decide +kernel
theorem dL_law_2241 : decode cL_law 2241 = .ok (.aload_n 3, 1) := by decide +kernel
theorem dL_law_2242 : decode cL_law 2242 = .ok (.invokestatic 238, 3) := by decide +kernel
theorem dL_law_2245 : decode cL_law 2245 = .ok (.istore 6, 2) := by decide +kernel
theorem dL_law_2247 : decode cL_law 2247 = .ok (.aload_n 2, 1) := by decide +kernel
theorem dL_law_2248 : decode cL_law 2248 = .ok (.aload_n 0, 1) := by decide +kernel
theorem dL_law_2249 : decode cL_law 2249 = .ok (.iload 5, 2) := by decide +kernel
theorem dL_law_2251 : decode cL_law 2251 = .ok (.iconst 1, 1) := by decide +kernel
theorem dL_law_2252 : decode cL_law 2252 = .ok (.iadd, 1) := by decide +kernel
theorem dL_law_2253 : decode cL_law 2253 = .ok (.iaload, 1) := by decide +kernel
theorem dL_law_2254 : decode cL_law 2254 = .ok (.aload_n 0, 1) := by decide +kernel
theorem dL_law_2255 : decode cL_law 2255 = .ok (.iload 5, 2) := by decide +kernel
theorem dL_law_2257 : decode cL_law 2257 = .ok (.iconst 2, 1) := by decide +kernel
theorem dL_law_2258 : decode cL_law 2258 = .ok (.iadd, 1) := by decide +kernel
theorem dL_law_2259 : decode cL_law 2259 = .ok (.iaload, 1) := by decide +kernel
theorem dL_law_2260 : decode cL_law 2260 = .ok (.invokevirtual 240, 3) := by decide +kernel
theorem dL_law_2263 : decode cL_law 2263 = .ok (.istore 7, 2) := by decide +kernel
theorem dL_law_2265 : decode cL_law 2265 = .ok (.aload_n 2, 1) := by decide +kernel
theorem dL_law_2266 : decode cL_law 2266 = .ok (.invokevirtual 131, 3) := by decide +kernel
theorem dL_law_2269 : decode cL_law 2269 = .ok (.iload 6, 2) := by decide +kernel
theorem dL_law_2271 : decode cL_law 2271 = .ok (.if_icmp .eq 5, 3) := by decide +kernel
theorem dL_law_2274 : decode cL_law 2274 = .ok (.iconst 0, 1) := by decide +kernel
theorem dL_law_2275 : decode cL_law 2275 = .ok (.ireturn, 1) := by decide +kernel
theorem dL_law_2276 : decode cL_law 2276 = .ok (.iload 6, 2) := by decide +kernel
theorem dL_law_2278 : decode cL_law 2278 = .ok (.ifCond .ne 15, 3) := by decide +kernel
theorem dL_law_2281 : decode cL_law 2281 = .ok (.aload_n 3, 1) := by decide +kernel
theorem dL_law_2282 : decode cL_law 2282 = .ok (.iconst 0, 1) := by decide +kernel
theorem dL_law_2283 : decode cL_law 2283 = .ok (.laload, 1) := by decide +kernel
theorem dL_law_2284 : decode cL_law 2284 = .ok (.iload 7, 2) := by decide +kernel
theorem dL_law_2286 : decode cL_law 2286 = .ok (.i2l, 1) := by decide +kernel
theorem dL_law_2287 : decode cL_law 2287 = .ok (.lcmp, 1) := by decide +kernel
theorem dL_law_2288 : decode cL_law 2288 = .ok (.ifCond .eq 5, 3) := by decide +kernel
theorem dL_law_2291 : decode cL_law 2291 = .ok (.iconst 0, 1) := by decide +kernel
theorem dL_law_2292 : decode cL_law 2292 = .ok (.ireturn, 1) := by decide +kernel
theorem dL_law_2293 : decode cL_law 2293 = .ok (.goto 71, 3) := by decide +kernel
theorem dL_law_2296 : decode cL_law 2296 = .ok (.aload_n 1, 1) := by decide +kernel
theorem dL_law_2297 : decode cL_law 2297 = .ok (.aload_n 0, 1) := by decide +kernel
theorem dL_law_2298 : decode cL_law 2298 = .ok (.iload 5, 2) := by decide +kernel
theorem dL_law_2300 : decode cL_law 2300 = .ok (.iconst 1, 1) := by decide +kernel
theorem dL_law_2301 : decode cL_law 2301 = .ok (.iadd, 1) := by decide +kernel
theorem dL_law_2302 : decode cL_law 2302 = .ok (.iaload, 1) := by decide +kernel
theorem dL_law_2303 : decode cL_law 2303 = .ok (.aload_n 0, 1) := by decide +kernel
theorem dL_law_2304 : decode cL_law 2304 = .ok (.iload 5, 2) := by decide +kernel
theorem dL_law_2306 : decode cL_law 2306 = .ok (.iconst 2, 1) := by decide +kernel
theorem dL_law_2307 : decode cL_law 2307 = .ok (.iadd, 1) := by decide +kernel
theorem dL_law_2308 : decode cL_law 2308 = .ok (.iaload, 1) := by decide +kernel
theorem dL_law_2309 : decode cL_law 2309 = .ok (.aload_n 3, 1) := by decide +kernel
theorem dL_law_2310 : decode cL_law 2310 = .ok (.invokestatic 241, 3) := by decide +kernel
theorem dL_law_2313 : decode cL_law 2313 = .ok (.istore 6, 2) := by decide +kernel
theorem dL_law_2315 : decode cL_law 2315 = .ok (.aload_n 2, 1) := by decide +kernel
theorem dL_law_2316 : decode cL_law 2316 = .ok (.aload_n 0, 1) := by decide +kernel
theorem dL_law_2317 : decode cL_law 2317 = .ok (.iload 5, 2) := by decide +kernel
theorem dL_law_2319 : decode cL_law 2319 = .ok (.iconst 1, 1) := by decide +kernel
theorem dL_law_2320 : decode cL_law 2320 = .ok (.iadd, 1) := by decide +kernel
theorem dL_law_2321 : decode cL_law 2321 = .ok (.iaload, 1) := by decide +kernel
theorem dL_law_2322 : decode cL_law 2322 = .ok (.aload_n 0, 1) := by decide +kernel
theorem dL_law_2323 : decode cL_law 2323 = .ok (.iload 5, 2) := by decide +kernel
theorem dL_law_2325 : decode cL_law 2325 = .ok (.iconst 2, 1) := by decide +kernel
theorem dL_law_2326 : decode cL_law 2326 = .ok (.iadd, 1) := by decide +kernel
theorem dL_law_2327 : decode cL_law 2327 = .ok (.iaload, 1) := by decide +kernel
theorem dL_law_2328 : decode cL_law 2328 = .ok (.invokevirtual 243, 3) := by decide +kernel
theorem dL_law_2331 : decode cL_law 2331 = .ok (.istore 7, 2) := by decide +kernel
theorem dL_law_2333 : decode cL_law 2333 = .ok (.aload_n 2, 1) := by decide +kernel
theorem dL_law_2334 : decode cL_law 2334 = .ok (.invokevirtual 131, 3) := by decide +kernel
theorem dL_law_2337 : decode cL_law 2337 = .ok (.iload 6, 2) := by decide +kernel
theorem dL_law_2339 : decode cL_law 2339 = .ok (.if_icmp .eq 5, 3) := by decide +kernel
theorem dL_law_2342 : decode cL_law 2342 = .ok (.iconst 0, 1) := by decide +kernel
theorem dL_law_2343 : decode cL_law 2343 = .ok (.ireturn, 1) := by decide +kernel
theorem dL_law_2344 : decode cL_law 2344 = .ok (.iload 6, 2) := by decide +kernel
theorem dL_law_2346 : decode cL_law 2346 = .ok (.ifCond .ne 15, 3) := by decide +kernel
theorem dL_law_2349 : decode cL_law 2349 = .ok (.aload_n 3, 1) := by decide +kernel
theorem dL_law_2350 : decode cL_law 2350 = .ok (.iconst 0, 1) := by decide +kernel
theorem dL_law_2351 : decode cL_law 2351 = .ok (.laload, 1) := by decide +kernel
theorem dL_law_2352 : decode cL_law 2352 = .ok (.iload 7, 2) := by decide +kernel
theorem dL_law_2354 : decode cL_law 2354 = .ok (.i2l, 1) := by decide +kernel
theorem dL_law_2355 : decode cL_law 2355 = .ok (.lcmp, 1) := by decide +kernel
theorem dL_law_2356 : decode cL_law 2356 = .ok (.ifCond .eq 5, 3) := by decide +kernel
theorem dL_law_2359 : decode cL_law 2359 = .ok (.iconst 0, 1) := by decide +kernel
theorem dL_law_2360 : decode cL_law 2360 = .ok (.ireturn, 1) := by decide +kernel
theorem dL_law_2361 : decode cL_law 2361 = .ok (.goto 3, 3) := by decide +kernel
theorem dL_law_2364 : decode cL_law 2364 = .ok (.iinc 5 6, 3) := by decide +kernel
theorem dL_law_2367 : decode cL_law 2367 = .ok (.goto (-2339), 3) := by decide +kernel
theorem dL_law_2370 : decode cL_law 2370 = .ok (.iconst 1, 1) := by decide +kernel
theorem dL_law_2371 : decode cL_law 2371 = .ok (.ireturn, 1) := by decide +kernel
end
section
/-! My layer: one list of words for all methods, one context, one state predicate; rows over them. -/
section GB
def WS : List Cond := lw_tbl.filter goodWord
theorem ws_mem {w : Cond} (h : w ∈ lw_tbl) (g : goodWord w = true) : w ∈ WS := List.mem_filter.mpr ⟨h, g⟩
theorem wm {w : Cond} (i : Nat) (h : tables_1[i]? = some w) (g : goodWord w = true) : w ∈ WS := ws_mem (List.mem_append_right _ (List.mem_of_getElem? h)) g
theorem wsel {w : Cond} (i : Nat) (h : (k2_sels lw_privs)[i]? = some w) (g : goodWord w = true) : w ∈ WS := ws_mem (List.mem_append_left _ (List.mem_of_getElem? h)) g
theorem ws_goodIn {ws : List Cond} (h : ∀ w ∈ ws, w ∈ WS) : GoodIn WS ws := fun w hw => ⟨h w hw, good_of_word (List.mem_filter.mp (h w hw)).2⟩
def mws (y : MethodName) (cc : ByteArray) (maxL : Nat) (ret : Option FieldType) : List Cond := .code y cc maxL ret :: WS
theorem mws_in {y : MethodName} {cc : ByteArray} {maxL : Nat} {ret : Option FieldType} (h : Cond.code y cc maxL ret ∈ WS) : ∀ w ∈ mws y cc maxL ret, w ∈ WS := fun w hw => by
  rcases List.mem_cons.mp hw with rfl | h2
  · exact h
  · exact h2
def tyl (cA : Nat → ClassId) : List (ClassId × FieldType) := [(cA 0, .int), (cA 1, .object RX0), (cA 2, .object RX3), (cA 3, .long), (cA 4, .double)]
def NwG (U : State) : Prop := va_Nw (.methodLinkNest RX4 30 yX3_init RX4) U ∧ va_Nw (.methodLinkNest RX4 42 yX0_init RX4) U ∧ va_Nw (.methodLinkNest RX0 34 yX1_init RX4) U ∧ va_Nw (.methodLinkNest RX0 46 yX4_has RX4) U
def KG (D : va_G) (cA : Nat → ClassId) (U : State) : Prop := va_K D vwCl (tyl cA) U ∧ NwG U
theorem KG.warm {D : va_G} {cA : Nat → ClassId} {s U : State} (hW : s.WarmedH U.vm) (h : KG D cA s) : KG D cA U :=
  ⟨va_K.moved hW.alike h.1, va_Nw.warmM hW h.2.1, va_Nw.warmM hW h.2.2.1, va_Nw.warmM hW h.2.2.2.1, va_Nw.warmM hW h.2.2.2.2⟩
theorem KG.same {D : va_G} {cA : Nat → ClassId} {s U : State} (hv : s.vm = U.vm) (h : KG D cA s) : KG D cA U :=
  ⟨va_K.moved (by rw [hv]; exact Vm.Alike.refl _) h.1, va_Nw.same rfl hv h.2.1, va_Nw.same rfl hv h.2.2.1, va_Nw.same rfl hv h.2.2.2.1, va_Nw.same rfl hv h.2.2.2.2⟩
/-- a method's fixed facts -/
def Cx (p : Program) (s : State) (m : MethodId) (args : Array Value) (meth : Method) (c : Code) (cc : ByteArray) (nL : Nat) (own : String) (D : va_G) (cA : Nat → ClassId) : Prop :=
  p.tables.exec = Jvm.exec ∧ c.code = cc ∧ c.maxLocals = nL ∧ s.vm.findClass own = some m.cls ∧ (∀ w ∈ WS, w.before args s = true) ∧ KG D cA s ∧ meth.locks = false
/-- the world of a walk that may write its cells -/
def St (D : va_G) (A : Nat → Prop) (H0 : Heap) (ws : va_W) (H : Heap) (locs : List Loc) : Prop := va_P D vwCl ws H ∧ va_D A ws ∧ va_S A H0 H locs ∧ ∀ q : Nat, H0.size ≤ q → A q
/-- the world of a walk that writes none of the old cells -/
def SR (D : va_G) (H0 : Heap) (ws : va_W) (H : Heap) (locs : List Loc) : Prop := va_P D vwCl ws H ∧ va_D (fun _ => True) ws ∧ va_S (fun q => H0.size ≤ q) H0 H locs
def PreC (D : va_G) (cA : Nat → ClassId) (sz : Nat) (ws : va_W) (As : List Value) : Array Value → State → Prop := va_Pc As (fun U => U.heap.size = sz ∧ va_P D vwCl ws U.heap ∧ KG D cA U ∧ va_D (fun _ => True) ws)
theorem PreC.blind {D : va_G} {cA : Nat → ClassId} {sz : Nat} {ws : va_W} {As : List Value} : FrameBlind (PreC D cA sz ws As) := fun a U g mk h => ⟨h.1, h.2.1, h.2.2.1, KG.same (s := U) (U := U.calling g mk a) rfl h.2.2.2.1, h.2.2.2.2⟩
def PostU (D : va_G) (ws ws' : va_W) (sz : Nat) (v : Option Value) : Array Value → State → Outcome → State → Prop := fun _ st oc t => oc = .returned v ∧ va_P D vwCl ws' t.heap ∧ va_F (va_A ws sz) st t
def PostR (v : Option Value) : Array Value → State → Outcome → State → Prop := fun _ st oc t => oc = .returned v ∧ va_F (fun q => st.heap.size ≤ q) st t
def CtU (y : MethodName) (cc : ByteArray) (maxL : Nat) (ret : Option FieldType) (rm : Room) (As : List Value) (D : va_G) (cA : Nat → ClassId) (ws ws' : va_W) (v : Option Value) (mc ms : Nat) : Prop :=
  ∀ (l : Launch) (sz : Nat), Met l y (mws y cc maxL ret) rm (PreC D cA sz ws As) (PostU D ws ws' sz v) mc ms (va_A ws sz)
def CtR (y : MethodName) (cc : ByteArray) (maxL : Nat) (ret : Option FieldType) (rm : Room) (As : List Value) (D : va_G) (cA : Nat → ClassId) (ws : va_W) (v : Option Value) (mc ms : Nat) : Prop :=
  ∀ (l : Launch) (sz : Nat), Met l y (mws y cc maxL ret) rm (PreC D cA sz ws As) (PostR v) mc ms (fun q => sz ≤ q)
/-- cells of a world by others at the same addresses -/
def putl (ws : va_W) (zs : List (Nat × (Nat × va_E))) : va_W := zs.foldl (fun w x => w.set x.1 x.2) ws
theorem putl_at : ∀ (zs : List (Nat × (Nat × va_E))) (ws : va_W) (k : Nat) (q : Nat × va_E), (putl ws zs)[k]? = some q → (∃ x ∈ zs, x.1 = k ∧ x.2 = q) ∨ (ws[k]? = some q ∧ ∀ x ∈ zs, x.1 ≠ k)
  | [], ws, k, q, h => Or.inr ⟨h, fun x hx => by cases hx⟩
  | z :: zs, ws, k, q, h => by
    rcases putl_at zs (ws.set z.1 z.2) k q h with ⟨x, h1, h2⟩ | ⟨h1, h2⟩
    · exact Or.inl ⟨x, List.mem_cons_of_mem _ h1, h2⟩
    · by_cases hz : z.1 = k
      · subst hz
        by_cases hl : z.1 < ws.length
        · rw [List.getElem?_set_self hl] at h1
          exact Or.inl ⟨z, List.mem_cons_self, rfl, Option.some.inj h1⟩
        · rw [List.getElem?_eq_none (by simp; omega)] at h1
          cases h1
      · rw [List.getElem?_set_ne hz] at h1
        refine Or.inr ⟨h1, fun x hx => ?_⟩
        rcases List.mem_cons.mp hx with rfl | h3
        · exact hz
        · exact h2 x h3
theorem zip_at {isC : List Nat} {wc wc' ws : va_W} (hC : isC.map (fun i => ws[i]?) = wc.map some) (hf : wc'.map (fun q => q.1) = wc.map (fun q => q.1)) {x : Nat × (Nat × va_E)} (hx : x ∈ isC.zip wc') : ∃ (j : Nat) (q : Nat × va_E), wc'[j]? = some x.2 ∧ wc[j]? = some q ∧ ws[x.1]? = some q ∧ q.1 = x.2.1 := by
  obtain ⟨j, hj⟩ := List.getElem?_of_mem hx
  rw [List.getElem?_zip_eq_some] at hj
  obtain ⟨h1, h2⟩ := hj
  have h3 : (isC.map (fun i => ws[i]?))[j]? = some (ws[x.1]?) := by rw [List.getElem?_map, h1]; rfl
  rw [hC, List.getElem?_map] at h3
  have h4 : (wc'.map (fun q => q.1))[j]? = some x.2.1 := by rw [List.getElem?_map, h2]; rfl
  rw [hf, List.getElem?_map] at h4
  cases hq : wc[j]? with
  | none => rw [hq] at h3; cases h3
  | some q =>
    rw [hq] at h3 h4
    exact ⟨j, q, h2, hq, (Option.some.inj h3).symm, Option.some.inj h4⟩
theorem map_at {isC : List Nat} {wc ws : va_W} (hC : isC.map (fun i => ws[i]?) = wc.map some) {j : Nat} {q : Nat × va_E} (hq : wc[j]? = some q) : ∃ i, isC[j]? = some i ∧ ws[i]? = some q := by
  have h1 : (isC.map (fun i => ws[i]?))[j]? = some (some q) := by rw [hC, List.getElem?_map, hq]; rfl
  rw [List.getElem?_map] at h1
  cases hi : isC[j]? with
  | none => rw [hi] at h1; cases h1
  | some i => rw [hi] at h1; exact ⟨i, rfl, Option.some.inj h1⟩
theorem sub_P {D : va_G} {ws wc : va_W} {H : Heap} (h : va_P D vwCl ws H) {isC : List Nat} (hC : isC.map (fun i => ws[i]?) = wc.map some) : va_P D vwCl wc H := fun j q hq => by
  obtain ⟨i, -, h2⟩ := map_at hC hq
  exact h i q h2
theorem sub_D {A : Nat → Prop} {ws wc : va_W} (h : va_D A ws) {isC : List Nat} (hC : isC.map (fun i => ws[i]?) = wc.map some) (hn : va_nd isC = true) : va_D A wc := by
  refine ⟨fun i j x y hi hj hxy => ?_, fun k q hk => ?_⟩
  · obtain ⟨a, h1, h2⟩ := map_at hC hi
    obtain ⟨b, h3, h4⟩ := map_at hC hj
    have hab := h.1 a b x y h2 h4 hxy
    subst hab
    exact va_nd_inj isC hn i j a h1 h3
  · obtain ⟨a, -, h2⟩ := map_at hC hk
    exact h.2 a q h2
theorem join_S {D : va_G} {A : Nat → Prop} {ws wc wc' : va_W} {H H1 : Heap} {isC : List Nat} (hP : va_P D vwCl ws H) (hD : va_D A ws) (hC : isC.map (fun i => ws[i]?) = wc.map some) (hf : wc'.map (fun q => q.1) = wc.map (fun q => q.1)) (hl : isC.length = wc'.length)
    (hk : ∀ q : Nat, q < H.size → ¬ va_A wc H.size q → H1[q]? = H[q]?) (hP1 : va_P D vwCl wc' H1) : va_P D vwCl (putl ws (isC.zip wc')) H1 ∧ va_D A (putl ws (isC.zip wc')) := by
  have key : ∀ (k : Nat) (q : Nat × va_E), (putl ws (isC.zip wc'))[k]? = some q → ∃ q0, ws[k]? = some q0 ∧ q0.1 = q.1 := by
    intro k q hq
    rcases putl_at _ _ _ _ hq with ⟨x, hx, h1, h2⟩ | ⟨h1, -⟩
    · obtain ⟨j, q0, -, -, h3, h4⟩ := zip_at hC hf hx
      exact ⟨q0, by rw [← h1]; exact h3, by rw [← h2]; exact h4⟩
    · exact ⟨q, h1, rfl⟩
  refine ⟨fun k q hq => ?_, fun i j x y hi hj hxy => ?_, fun k q hq => ?_⟩
  · rcases putl_at _ _ _ _ hq with ⟨x, hx, h1, h2⟩ | ⟨h1, h2⟩
    · obtain ⟨j, q0, h3, -⟩ := zip_at hC hf hx
      rw [← h2]
      exact hP1 j _ h3
    · refine (hP k q h1).kept (hk q.1 (hP k q h1).lt (fun hz => ?_))
      rcases hz with ⟨j, e, hj⟩ | hz
      · obtain ⟨i, hi1, hi2⟩ := map_at hC hj
        have hik := hD.1 k i q (q.1, e) h1 hi2 rfl
        subst hik
        have hjl : j < isC.length := (List.getElem?_eq_some_iff.mp hi1).1
        have hjl' : j < wc'.length := by omega
        have hm : (k, wc'[j]) ∈ isC.zip wc' := List.mem_of_getElem? (i := j) (by rw [List.getElem?_zip_eq_some]; exact ⟨hi1, List.getElem?_eq_getElem hjl'⟩)
        exact h2 _ hm rfl
      · have := (hP k q h1).lt
        omega
  · obtain ⟨x0, h1, h2⟩ := key i x hi
    obtain ⟨y0, h3, h4⟩ := key j y hj
    exact hD.1 i j x0 y0 h1 h3 (h2.trans (hxy.trans h4.symm))
  · obtain ⟨q0, h1, h2⟩ := key k q hq
    rw [← h2]
    exact hD.2 k q0 h1
end GB
end
section
/-! rows over the context: entry, ends, fields, arrays, calls -/
section GR
variable {p : Program} {l : Launch} {e : Env} {R : Room} {s : State} {m : MethodId} {args : Array Value} {below : List Frame} {meth : Method} {c : Code} {H : Heap} {locs : List Loc} {cells slots : Nat} {Q : State → Prop}
variable {cc : ByteArray} {nL : Nat} {own : String} {D : va_G} {cA : Nat → ClassId} {A : Nat → Prop} {ws ws' wc wc' : va_W} {pc : Nat} {ls : Array Slot} {rest : List Value} {a : Nat} {H0 : Heap}
theorem ctU_of {y : MethodName} {maxL : Nat} {ret : Option FieldType} {rm : Room} {As : List Value} {v : Option Value} {mc ms : Nat} (hy : plainName y.cls = true) (hlen : (lg_sl As).length ≤ maxL)
    (body : ∀ (p : Program) (l : Launch) (e : Env) (s : State) (m : MethodId) (below : List Frame) (meth : Method) (c : Code) (ls : Array Slot), Cx p s m As.toArray meth c cc maxL y.cls D cA → meth.sig.returnType = ret → meth.name = y.name →
      St D (va_A ws s.heap.size) s.heap ws s.heap [] → lv_has ls maxL (lv_args 0 As) → W p l e rm s m As.toArray below meth c s.heap [] 0 0 (MQ below (PostU D ws ws' s.heap.size v) As.toArray s mc ms (va_A ws s.heap.size)) (F0 m 0 ls [])) :
    CtU y cc maxL ret rm As D cA ws ws' v mc ms := by
  intro l sz
  refine Met.ofW (cc := cc) (maxL := maxL) (ret := ret) hy rfl ?_
  intro p e s m args below meth c s₁ B hml hv
  obtain ⟨rfl, hsz, hP, hK, hD0⟩ := hv
  subst hsz
  have hts := atoms_spec (ws := mws y cc maxL ret) B.pre
  have hown : s.vm.findClass y.cls = some m.cls := findClass_of_methodNamed B.named
  have hl := lv_entry As (n := maxL) hlen
  rw [lg_entry_eq]
  exact body p l e s m below meth c _ ⟨B.exec, B.bytes, hml, hown, fun w hw => hts w (List.mem_cons_of_mem _ hw), hK, B.notSynchronized⟩ B.returns (name_of_methodNamed B.named B.method).1 ⟨hP, hD0.self, va_S.rf, fun q h => Or.inr h⟩ hl
theorem ctR_of {y : MethodName} {maxL : Nat} {ret : Option FieldType} {rm : Room} {As : List Value} {v : Option Value} {mc ms : Nat} (hy : plainName y.cls = true) (hlen : (lg_sl As).length ≤ maxL)
    (body : ∀ (p : Program) (l : Launch) (e : Env) (s : State) (m : MethodId) (below : List Frame) (meth : Method) (c : Code) (ls : Array Slot), Cx p s m As.toArray meth c cc maxL y.cls D cA → meth.sig.returnType = ret → meth.name = y.name →
      SR D s.heap ws s.heap [] → lv_has ls maxL (lv_args 0 As) → W p l e rm s m As.toArray below meth c s.heap [] 0 0 (MQ below (PostR v) As.toArray s mc ms (fun q => s.heap.size ≤ q)) (F0 m 0 ls [])) :
    CtR y cc maxL ret rm As D cA ws v mc ms := by
  intro l sz
  refine Met.ofW (cc := cc) (maxL := maxL) (ret := ret) hy rfl ?_
  intro p e s m args below meth c s₁ B hml hv
  obtain ⟨rfl, hsz, hP, hK, hD0⟩ := hv
  subst hsz
  have hts := atoms_spec (ws := mws y cc maxL ret) B.pre
  have hown : s.vm.findClass y.cls = some m.cls := findClass_of_methodNamed B.named
  have hl := lv_entry As (n := maxL) hlen
  rw [lg_entry_eq]
  exact body p l e s m below meth c _ ⟨B.exec, B.bytes, hml, hown, fun w hw => hts w (List.mem_cons_of_mem _ hw), hK, B.notSynchronized⟩ B.returns (name_of_methodNamed B.named B.method).1 ⟨hP, hD0, va_S.rf⟩ hl
-- ends
theorem ret_iU (C : Cx p s m args meth c cc nL own D cA) (hr : meth.sig.returnType = some .int) {v : Int32} (h : St D (va_A ws s.heap.size) s.heap ws' H locs) (hdg : decode cc pc = .ok (.ireturn, 1)) :
    W p l e R s m args below meth c H locs cells slots (MQ below (PostU D ws ws' s.heap.size (some (.int v))) args s cells slots (va_A ws s.heap.size)) (F0 m pc ls [.int v]) :=
  W.iret C.1 C.2.1 hr (fun t ht hW => ⟨rfl, by rw [ht]; exact h.1, h.2.2.1.F ht⟩) h.2.2.1.2.2 hdg (hlocks := C.2.2.2.2.2.2)
theorem ret_zU (C : Cx p s m args meth c cc nL own D cA) (hr : meth.sig.returnType = some .boolean) {v : Int32} (hn : narrow .boolean (.int v) = .int v) (h : St D (va_A ws s.heap.size) s.heap ws' H locs) (hdg : decode cc pc = .ok (.ireturn, 1)) :
    W p l e R s m args below meth c H locs cells slots (MQ below (PostU D ws ws' s.heap.size (some (.int v))) args s cells slots (va_A ws s.heap.size)) (F0 m pc ls [.int v]) :=
  W.zret C.1 C.2.1 hr hn (fun t ht hW => ⟨rfl, by rw [ht]; exact h.1, h.2.2.1.F ht⟩) h.2.2.1.2.2 hdg (hlocks := C.2.2.2.2.2.2)
theorem ret_vU (C : Cx p s m args meth c cc nL own D cA) (hr : meth.sig.returnType = none) (h : St D (va_A ws s.heap.size) s.heap ws' H locs) (hdg : decode cc pc = .ok (.return_, 1)) :
    W p l e R s m args below meth c H locs cells slots (MQ below (PostU D ws ws' s.heap.size none) args s cells slots (va_A ws s.heap.size)) (F0 m pc ls []) :=
  W.vret C.1 C.2.1 hr (fun t ht hW => ⟨rfl, by rw [ht]; exact h.1, h.2.2.1.F ht⟩) h.2.2.1.2.2 hdg (hlocks := C.2.2.2.2.2.2)
theorem ret_iR (C : Cx p s m args meth c cc nL own D cA) (hr : meth.sig.returnType = some .int) {v : Int32} (h : SR D s.heap ws H locs) (hdg : decode cc pc = .ok (.ireturn, 1)) :
    W p l e R s m args below meth c H locs cells slots (MQ below (PostR (some (.int v))) args s cells slots (fun q => s.heap.size ≤ q)) (F0 m pc ls [.int v]) :=
  W.iret C.1 C.2.1 hr (fun t ht hW => ⟨rfl, h.2.2.F ht⟩) h.2.2.2.2 hdg (hlocks := C.2.2.2.2.2.2)
theorem ret_zR (C : Cx p s m args meth c cc nL own D cA) (hr : meth.sig.returnType = some .boolean) {v : Int32} (hn : narrow .boolean (.int v) = .int v) (h : SR D s.heap ws H locs) (hdg : decode cc pc = .ok (.ireturn, 1)) :
    W p l e R s m args below meth c H locs cells slots (MQ below (PostR (some (.int v))) args s cells slots (fun q => s.heap.size ≤ q)) (F0 m pc ls [.int v]) :=
  W.zret C.1 C.2.1 hr hn (fun t ht hW => ⟨rfl, h.2.2.F ht⟩) h.2.2.2.2 hdg (hlocks := C.2.2.2.2.2.2)
-- fields
def FL (own : String) (idx ci k : Nat) : Prop := ∃ (C : String) (T : u_T) (N : Nat), vwCl[ci]? = some (C, T, N) ∧ (∀ w ∈ u_ws C T N, w ∈ WS) ∧ k < N ∧ Cond.fieldLink own idx (T k).1 (T k).2.1 (T k).2.2.1 ∈ WS
def FP (own : String) (idx ci k : Nat) (fin : Bool) (ty : FieldType) : Prop := ∃ (C : String) (T : u_T) (N : Nat) (ty0 : Nat → FieldType), vwCl[ci]? = some (C, T, N) ∧ (∀ w ∈ u_ws C T N, w ∈ WS) ∧ k < N ∧ Cond.fieldLink own idx (T k).1 (T k).2.1 (T k).2.2.1 ∈ WS ∧
  (∀ k, k < N → parseFieldDescriptor (T k).2.2.1 = some (ty0 k)) ∧ (∀ a, a < N → ∀ b, b < N → a ≠ b → (T a).2.1 ≠ (T b).2.1) ∧ (T k).2.2.2 = fin ∧ parseFieldDescriptor (T k).2.2.1 = some ty
theorem g_get (C : Cx p s m args meth c cc nL own D cA) (hP : va_P D vwCl ws H) (q0 : Nat) {ci idx k : Nat} {fs : List Value} {v : Value} (he : ws[q0]? = some (a, .inr (ci, fs))) (F : FL own idx ci k) (hv : fs[k]? = some v) (hdg : decode cc pc = .ok (.getfield idx, 3))
    (kk : W p l e R s m args below meth c H locs cells slots Q (F0 m (pc + 3) ls (v :: rest))) : W p l e R s m args below meth c H locs cells slots Q (F0 m pc ls (.ref a :: rest)) := by
  obtain ⟨hx, hb, hml, hown, hts, hK, hlk⟩ := C
  obtain ⟨Cn, T, N, hc, hin, hk, hlink⟩ := F
  exact va_get hx hb hts hin hown hK.1 hP q0 he hc k hk (hts _ hlink) (fun x hx => hx) hv hdg kk
theorem g_puti (C : Cx p s m args meth c cc nL own D cA) (h : St D A H0 ws H locs) (q0 : Nat) {ci idx k : Nat} {fs : List Value} {v : Int32} (he : ws[q0]? = some (a, .inr (ci, fs))) (F : FP own idx ci k false .int) (hl : k < fs.length) (hw : ws.set q0 (a, .inr (ci, fs.set k (.int v))) = ws') (hdg : decode cc pc = .ok (.putfield idx, 3))
    (kk : ∀ (H1 : Heap) (locs1 : List Loc), St D A H0 ws' H1 locs1 → W p l e R s m args below meth c H1 locs1 cells slots Q (F0 m (pc + 3) ls rest)) : W p l e R s m args below meth c H locs cells slots Q (F0 m pc ls (.int v :: .ref a :: rest)) := by
  obtain ⟨hx, hb, hml, hown, hts, hK, hlk⟩ := C
  obtain ⟨Cn, T, N, ty0, hc, hin, hk, hlink, hty, hnm, hfin, hd⟩ := F
  obtain ⟨hP, hD, hS, hA⟩ := h
  subst hw
  exact va_put hx hb hts hin ty0 hty hnm hown hK.1 hP hD hS q0 he hc k hk (hts _ hlink) (fun x hx => hx) hfin hd rfl rfl hl hdg (fun H1 locs1 h1 h2 h3 => kk H1 locs1 ⟨h1, h2, h3, hA⟩)
-- int arrays
theorem g_ild (C : Cx p s m args meth c cc nL own D cA) (hP : va_P D vwCl ws H) (q0 : Nat) {n : Nat} {f : Nat → Int32} {i : Int32} (he : ws[q0]? = some (a, .inl (cA 0, n, .inl f))) (hin : vp_in i n) (hdg : decode cc pc = .ok (.iaload, 1))
    (kk : W p l e R s m args below meth c H locs cells slots Q (F0 m (pc + 1) ls (.int (f i.toNatClampNeg) :: rest))) : W p l e R s m args below meth c H locs cells slots Q (F0 m pc ls (.int i :: .ref a :: rest)) :=
  va_iald C.1 C.2.1 C.2.2.2.2.2.1.1 hP q0 0 he rfl hin hdg kk
theorem g_ist (C : Cx p s m args meth c cc nL own D cA) (h : St D A H0 ws H locs) (q0 : Nat) {n : Nat} {f : Nat → Int32} {i x : Int32} (he : ws[q0]? = some (a, .inl (cA 0, n, .inl f))) (hin : vp_in i n) (hw : ws.set q0 (a, .inl (cA 0, n, .inl (upd f i.toNatClampNeg x))) = ws') (hdg : decode cc pc = .ok (.iastore, 1))
    (kk : ∀ (H1 : Heap) (locs1 : List Loc), St D A H0 ws' H1 locs1 → W p l e R s m args below meth c H1 locs1 cells slots Q (F0 m (pc + 1) ls rest)) : W p l e R s m args below meth c H locs cells slots Q (F0 m pc ls (.int x :: .int i :: .ref a :: rest)) := by
  obtain ⟨hP, hD, hS, hA⟩ := h
  subst hw
  exact va_iast C.1 C.2.1 C.2.2.2.2.2.1.1 hP hD hS q0 0 he rfl hin hdg (fun H1 locs1 h1 h2 h3 => kk H1 locs1 ⟨h1, h2, h3, hA⟩)
theorem g_ilen (C : Cx p s m args meth c cc nL own D cA) (hP : va_P D vwCl ws H) (q0 : Nat) {n : Nat} {f : Nat → Int32} {v : Int32} (he : ws[q0]? = some (a, .inl (cA 0, n, .inl f))) (hv : Int32.ofNat n = v) (hdg : decode cc pc = .ok (.arraylength, 1))
    (kk : W p l e R s m args below meth c H locs cells slots Q (F0 m (pc + 1) ls (.int v :: rest))) : W p l e R s m args below meth c H locs cells slots Q (F0 m pc ls (.ref a :: rest)) :=
  va_alen C.1 C.2.1 C.2.2.2.2.2.1.1 hP q0 0 he rfl hv hdg kk
-- calls: the words
def CWv (own : String) (idx : Nat) (y : MethodName) (cc : ByteArray) (maxL : Nat) (ret : Option FieldType) (n : Nat) : Prop := Cond.methodLink own idx y ∈ WS ∧ Cond.instanceMethod y ∈ WS ∧ Cond.selects y.cls y y ∈ WS ∧ Cond.initialized y.cls ∈ WS ∧ Cond.code y cc maxL ret ∈ WS ∧
  y.cls ≠ "java/lang/invoke/MethodHandle" ∧ y.cls ≠ "java/lang/invoke/VarHandle" ∧ (parseMethodDescriptor y.desc).map (fun d => d.parameters.length) = some n
def CWs (own : String) (idx : Nat) (y : MethodName) (cc : ByteArray) (maxL : Nat) (ret : Option FieldType) (n : Nat) : Prop := Cond.methodLink own idx y ∈ WS ∧ Cond.static y ∈ WS ∧ Cond.initialized y.cls ∈ WS ∧ Cond.code y cc maxL ret ∈ WS ∧
  y.cls ≠ "java/lang/invoke/MethodHandle" ∧ y.cls ≠ "java/lang/invoke/VarHandle" ∧ (parseMethodDescriptor y.desc).map (fun d => d.parameters.length) = some n
theorem CWv.use {idx : Nat} {y : MethodName} {cy : ByteArray} {maxL n mc ms : Nat} {ret : Option FieldType} {rm : Room} (F : CWv own idx y cy maxL ret n) (hts : ∀ w ∈ WS, w.before args s = true) (hrc : rm.cells = mc) (hrs : rm.slots = ms) (hR : rm.frames + 1 ≤ R.frames ∧ 8 + (maxL + 11) + rm.locals ≤ R.locals) :
    CallW R s args own y.cls idx y cy maxL ret (mws y cy maxL ret) rm mc ms n := by
  obtain ⟨h1, h2, h3, h4, h5, h6, h7, h8⟩ := F
  refine cwV n hts (ws_goodIn (fun w hw => ?_)) rfl hrc hrs ⟨rfl, h6, h7, h8⟩ hR
  rcases List.mem_append.mp hw with hw | hw
  · simp only [List.mem_cons, List.not_mem_nil, or_false] at hw
    rcases hw with rfl | rfl | rfl | rfl
    · exact h1
    · exact h2
    · exact h3
    · exact h4
  · exact mws_in h5 w hw
theorem CWs.use {idx : Nat} {y : MethodName} {cy : ByteArray} {maxL n mc ms : Nat} {ret : Option FieldType} {rm : Room} (F : CWs own idx y cy maxL ret n) (hts : ∀ w ∈ WS, w.before args s = true) (hrc : rm.cells = mc) (hrs : rm.slots = ms) (hR : rm.frames + 1 ≤ R.frames ∧ 8 + (maxL + 11) + rm.locals ≤ R.locals) :
    CallB R s args own idx y cy maxL ret (mws y cy maxL ret) rm mc ms n ∧ (Cond.static y).before args s = true := by
  obtain ⟨h1, h2, h4, h5, h6, h7, h8⟩ := F
  refine va_cwS n hts (ws_goodIn (fun w hw => ?_)) rfl hrc hrs ⟨h6, h7, h8⟩ hR
  rcases List.mem_append.mp hw with hw | hw
  · simp only [List.mem_cons, List.not_mem_nil, or_false] at hw
    rcases hw with rfl | rfl | rfl
    · exact h1
    · exact h2
    · exact h4
  · exact mws_in h5 w hw
-- calls: what comes behind
variable {y : MethodName} {cy : ByteArray} {maxL n mc ms idx : Nat} {ret : Option FieldType} {rm : Room} {As st0 : List Value} {v : Option Value} {b : Nat} {Av : Array Value}
theorem run_U (hr : va_Run p l e R s m args below meth c H locs cells slots mc ms (F0 m pc ls st0) rest (PostU D wc wc' H.size v Av) (va_A wc H.size)) (h : St D A s.heap ws H locs) (isC : List Nat) (hC : isC.map (fun i => ws[i]?) = wc.map some) (hf : wc'.map (fun q => q.1) = wc.map (fun q => q.1)) (hput : putl ws (isC.zip wc') = ws')
    (kk : ∀ (H1 : Heap) (locs1 : List Loc), St D A s.heap ws' H1 locs1 → W p l e R s m args below meth c H1 locs1 (cells + mc) (slots + ms) Q (F0 m (pc + 3) ls (v.toList ++ rest))) : W p l e R s m args below meth c H locs cells slots Q (F0 m pc ls st0) := by
  intro T hT X
  obtain ⟨hP, hD, hS, hA⟩ := h
  obtain ⟨v', st₀, t, T', L, h0, X', hL, e1, e2, ⟨hv, hp, hz, hk⟩, st⟩ := hr T hT X
  cases Outcome.returned.inj hv
  rw [h0] at hz hk
  have hfree : ∀ q : Nat, va_A wc H.size q → A q := by
    intro q hq
    rcases hq with ⟨j, e, hj⟩ | hq
    · obtain ⟨i, -, hi⟩ := map_at hC hj
      exact hD.2 i _ hi
    · exact hA q (Nat.le_trans hS.1 hq)
  have hlen : isC.length = wc'.length := by
    have h1 := congrArg List.length hC
    have h2 := congrArg List.length hf
    simp only [List.length_map] at h1 h2
    omega
  obtain ⟨hP1, hD1⟩ := join_S hP hD hC hf hlen (fun q h1 h2 => hk q h1 h2) hp
  subst hput
  obtain ⟨t2, a1, b1⟩ := kk T'.heap (locs ++ L) ⟨by rw [e1]; exact hP1, hD1, ⟨Nat.le_trans hS.1 (by rw [e1]; exact hz), fun q h1 h2 => by rw [e1, hk q (Nat.lt_of_lt_of_le h1 hS.1) (fun z => h2 (hfree q z))]; exact hS.2.1 q h1 h2, fun q hq => by
      rcases List.mem_append.mp hq with h | h
      · exact hS.2.2 q h
      · exact hfree _ (hL q h)⟩, hA⟩ T' rfl X'
  exact ⟨t2, st t2 a1, b1⟩
theorem run_R (hr : va_Run p l e R s m args below meth c H locs cells slots mc ms (F0 m pc ls st0) rest (PostR v Av) (fun q => H.size ≤ q)) (h : St D A s.heap ws H locs)
    (kk : ∀ (H1 : Heap) (locs1 : List Loc), St D A s.heap ws H1 locs1 → W p l e R s m args below meth c H1 locs1 (cells + mc) (slots + ms) Q (F0 m (pc + 3) ls (v.toList ++ rest))) : W p l e R s m args below meth c H locs cells slots Q (F0 m pc ls st0) := by
  intro T hT X
  obtain ⟨hP, hD, hS, hA⟩ := h
  obtain ⟨v', st₀, t, T', L, h0, X', hL, e1, e2, ⟨hv, hz, hk⟩, st⟩ := hr T hT X
  cases Outcome.returned.inj hv
  rw [h0] at hz hk
  have hk' : ∀ q : Nat, q < H.size → T'.heap[q]? = H[q]? := fun q hq => by rw [e1]; exact hk q hq (Nat.not_le.mpr hq)
  obtain ⟨t2, a1, b1⟩ := kk T'.heap (locs ++ L) ⟨hP.kept (fun k q hq => hk' q.1 (hP k q hq).lt), hD, ⟨Nat.le_trans hS.1 (by rw [e1]; exact hz), fun q h1 h2 => by rw [hk' q (Nat.lt_of_lt_of_le h1 hS.1)]; exact hS.2.1 q h1 h2, fun q hq => by
      rcases List.mem_append.mp hq with h | h
      · exact hS.2.2 q h
      · exact hA _ (Nat.le_trans hS.1 (hL q h))⟩, hA⟩ T' rfl X'
  exact ⟨t2, st t2 a1, b1⟩
theorem run_RR (hr : va_Run p l e R s m args below meth c H locs cells slots mc ms (F0 m pc ls st0) rest (PostR v Av) (fun q => H.size ≤ q)) (h : SR D s.heap ws H locs)
    (kk : ∀ (H1 : Heap) (locs1 : List Loc), SR D s.heap ws H1 locs1 → W p l e R s m args below meth c H1 locs1 (cells + mc) (slots + ms) Q (F0 m (pc + 3) ls (v.toList ++ rest))) : W p l e R s m args below meth c H locs cells slots Q (F0 m pc ls st0) := by
  intro T hT X
  obtain ⟨hP, hD, hS⟩ := h
  obtain ⟨v', st₀, t, T', L, h0, X', hL, e1, e2, ⟨hv, hz, hk⟩, st⟩ := hr T hT X
  cases Outcome.returned.inj hv
  rw [h0] at hz hk
  have hk' : ∀ q : Nat, q < H.size → T'.heap[q]? = H[q]? := fun q hq => by rw [e1]; exact hk q hq (Nat.not_le.mpr hq)
  obtain ⟨t2, a1, b1⟩ := kk T'.heap (locs ++ L) ⟨hP.kept (fun k q hq => hk' q.1 (hP k q hq).lt), hD, ⟨Nat.le_trans hS.1 (by rw [e1]; exact hz), fun q h1 h2 => by rw [hk' q (Nat.lt_of_lt_of_le h1 hS.1)]; exact hS.2.1 q h1 h2, fun q hq => by
      rcases List.mem_append.mp hq with h | h
      · exact hS.2.2 q h
      · exact Nat.le_trans hS.1 (hL q h)⟩⟩ T' rfl X'
  exact ⟨t2, st t2 a1, b1⟩
theorem pre_ok {As : List Value} (C : Cx p s m args meth c cc nL own D cA) (hP : va_P D vwCl wc H) (hD : va_D (fun _ => True) wc) : ∀ U : State, U.heap = H → s.WarmedH U.vm → PreC D cA H.size wc As As.toArray U :=
  fun U hU hW => ⟨rfl, by rw [hU], by rw [hU]; exact hP, KG.warm hW C.2.2.2.2.2.1, hD⟩
theorem recv_ok (C : Cx p s m args meth c cc nL own D cA) (hP : va_P D vwCl ws H) (q0 : Nat) {ci : Nat} {fs : List Value} {q : vw_C} (he : ws[q0]? = some (b, .inr (ci, fs))) (hc : vwCl[ci]? = some q) : ∃ cellB : Cell, H[b]? = some cellB ∧ cellB.vm.isStatics = false ∧ s.vm.findClass q.1 = some cellB.cls :=
  va_recv C.2.2.2.2.2.1.1 hP hc he
theorem call_VU (C : Cx p s m args meth c cc nL own D cA) (h : St D A s.heap ws H locs) (K : CtU y cy maxL ret rm (.ref b :: As) D cA wc wc' v mc ms) (F : CWv own idx y cy maxL ret n) (q0 : Nat) {ci : Nat} {fs : List Value} {T : u_T} {N : Nat} (he : ws[q0]? = some (b, .inr (ci, fs))) (hc : vwCl[ci]? = some (y.cls, T, N))
    (isC : List Nat) (hC : isC.map (fun i => ws[i]?) = wc.map some) (hnd : va_nd isC = true) (hf : wc'.map (fun q => q.1) = wc.map (fun q => q.1)) (hput : putl ws (isC.zip wc') = ws') (hn : As.length = n) (hst : st0 = As.reverse ++ .ref b :: rest) (hsz : ls.size = nL) (hW : (rest.map fun v => v.category).sum ≤ 8) (hdg : decode cc pc = .ok (.invokevirtual idx, 3))
    (hR : rm.frames + 1 ≤ R.frames ∧ 8 + (maxL + 11) + rm.locals ≤ R.locals) (hrc : rm.cells = mc) (hrs : rm.slots = ms) (hfit : cells + mc ≤ R.cells ∧ slots + ms ≤ R.slots)
    (kk : ∀ (H1 : Heap) (locs1 : List Loc), St D A s.heap ws' H1 locs1 → W p l e R s m args below meth c H1 locs1 (cells + mc) (slots + ms) Q (F0 m (pc + 3) ls (v.toList ++ rest))) : W p l e R s m args below meth c H locs cells slots Q (F0 m pc ls st0) :=
  run_U (va_runV (As := As) (rest := rest) ⟨C.1, C.2.1, C.2.2.1, C.2.2.2.1, C.2.2.2.2.1⟩ (K l H.size) (F.use C.2.2.2.2.1 hrc hrs hR) ⟨PreC.blind, recv_ok C h.1 q0 he hc, pre_ok C (sub_P h.1 hC) ((sub_D h.2.1 hC hnd).weaken (fun _ _ _ _ => trivial))⟩ rfl hn hsz hst (lv_room hW) hdg hfit) h isC hC hf hput kk
theorem call_VR (C : Cx p s m args meth c cc nL own D cA) (h : St D A s.heap ws H locs) (K : CtR y cy maxL ret rm (.ref b :: As) D cA wc v mc ms) (F : CWv own idx y cy maxL ret n) (q0 : Nat) {ci : Nat} {fs : List Value} {T : u_T} {N : Nat} (he : ws[q0]? = some (b, .inr (ci, fs))) (hc : vwCl[ci]? = some (y.cls, T, N))
    (isC : List Nat) (hC : isC.map (fun i => ws[i]?) = wc.map some) (hnd : va_nd isC = true) (hn : As.length = n) (hst : st0 = As.reverse ++ .ref b :: rest) (hsz : ls.size = nL) (hW : (rest.map fun v => v.category).sum ≤ 8) (hdg : decode cc pc = .ok (.invokevirtual idx, 3))
    (hR : rm.frames + 1 ≤ R.frames ∧ 8 + (maxL + 11) + rm.locals ≤ R.locals) (hrc : rm.cells = mc) (hrs : rm.slots = ms) (hfit : cells + mc ≤ R.cells ∧ slots + ms ≤ R.slots)
    (kk : ∀ (H1 : Heap) (locs1 : List Loc), St D A s.heap ws H1 locs1 → W p l e R s m args below meth c H1 locs1 (cells + mc) (slots + ms) Q (F0 m (pc + 3) ls (v.toList ++ rest))) : W p l e R s m args below meth c H locs cells slots Q (F0 m pc ls st0) :=
  run_R (va_runV (As := As) (rest := rest) ⟨C.1, C.2.1, C.2.2.1, C.2.2.2.1, C.2.2.2.2.1⟩ (K l H.size) (F.use C.2.2.2.2.1 hrc hrs hR) ⟨PreC.blind, recv_ok C h.1 q0 he hc, pre_ok C (sub_P h.1 hC) ((sub_D h.2.1 hC hnd).weaken (fun _ _ _ _ => trivial))⟩ rfl hn hsz hst (lv_room hW) hdg hfit) h kk
theorem call_VRR (C : Cx p s m args meth c cc nL own D cA) (h : SR D s.heap ws H locs) (K : CtR y cy maxL ret rm (.ref b :: As) D cA wc v mc ms) (F : CWv own idx y cy maxL ret n) (q0 : Nat) {ci : Nat} {fs : List Value} {T : u_T} {N : Nat} (he : ws[q0]? = some (b, .inr (ci, fs))) (hc : vwCl[ci]? = some (y.cls, T, N))
    (isC : List Nat) (hC : isC.map (fun i => ws[i]?) = wc.map some) (hnd : va_nd isC = true) (hn : As.length = n) (hst : st0 = As.reverse ++ .ref b :: rest) (hsz : ls.size = nL) (hW : (rest.map fun v => v.category).sum ≤ 8) (hdg : decode cc pc = .ok (.invokevirtual idx, 3))
    (hR : rm.frames + 1 ≤ R.frames ∧ 8 + (maxL + 11) + rm.locals ≤ R.locals) (hrc : rm.cells = mc) (hrs : rm.slots = ms) (hfit : cells + mc ≤ R.cells ∧ slots + ms ≤ R.slots)
    (kk : ∀ (H1 : Heap) (locs1 : List Loc), SR D s.heap ws H1 locs1 → W p l e R s m args below meth c H1 locs1 (cells + mc) (slots + ms) Q (F0 m (pc + 3) ls (v.toList ++ rest))) : W p l e R s m args below meth c H locs cells slots Q (F0 m pc ls st0) :=
  run_RR (va_runV (As := As) (rest := rest) ⟨C.1, C.2.1, C.2.2.1, C.2.2.2.1, C.2.2.2.2.1⟩ (K l H.size) (F.use C.2.2.2.2.1 hrc hrs hR) ⟨PreC.blind, recv_ok C h.1 q0 he hc, pre_ok C (sub_P h.1 hC) (sub_D h.2.1 hC hnd)⟩ rfl hn hsz hst (lv_room hW) hdg hfit) h kk
theorem D_fst {ws1 : va_W} (hD : va_D A ws) (hf : ws1.map (fun q => q.1) = ws.map (fun q => q.1)) : va_D A ws1 := by
  have key : ∀ (k : Nat) (q : Nat × va_E), ws1[k]? = some q → ∃ q0, ws[k]? = some q0 ∧ q0.1 = q.1 := by
    intro k q hq
    have h4 : (ws1.map (fun q => q.1))[k]? = some q.1 := by rw [List.getElem?_map, hq]; rfl
    rw [hf, List.getElem?_map] at h4
    cases hz : ws[k]? with
    | none => rw [hz] at h4; cases h4
    | some q0 => rw [hz] at h4; exact ⟨q0, rfl, Option.some.inj h4⟩
  refine ⟨fun i j x y hi hj hxy => ?_, fun k q hq => ?_⟩
  · obtain ⟨x0, h1, h2⟩ := key i x hi
    obtain ⟨y0, h3, h4⟩ := key j y hj
    exact hD.1 i j x0 y0 h1 h3 (h2.trans (hxy.trans h4.symm))
  · obtain ⟨q0, h1, h2⟩ := key k q hq
    rw [← h2]
    exact hD.2 k q0 h1
theorem run_Us (hr : va_Run p l e R s m args below meth c H locs cells slots mc ms (F0 m pc ls st0) rest (PostU D ws ws' H.size v Av) (va_A ws H.size)) (h : St D A s.heap ws H locs) (hf : ws'.map (fun q => q.1) = ws.map (fun q => q.1))
    (kk : ∀ (H1 : Heap) (locs1 : List Loc), St D A s.heap ws' H1 locs1 → W p l e R s m args below meth c H1 locs1 (cells + mc) (slots + ms) Q (F0 m (pc + 3) ls (v.toList ++ rest))) : W p l e R s m args below meth c H locs cells slots Q (F0 m pc ls st0) := by
  intro T hT X
  obtain ⟨hP, hD, hS, hA⟩ := h
  obtain ⟨v', st₀, t, T', L, h0, X', hL, e1, e2, ⟨hv, hp, hz, hk⟩, st⟩ := hr T hT X
  cases Outcome.returned.inj hv
  rw [h0] at hz hk
  have hfree : ∀ q : Nat, va_A ws H.size q → A q := by
    intro q hq
    rcases hq with ⟨j, e, hj⟩ | hq
    · exact hD.2 j _ hj
    · exact hA q (Nat.le_trans hS.1 hq)
  obtain ⟨t2, a1, b1⟩ := kk T'.heap (locs ++ L) ⟨by rw [e1]; exact hp, D_fst hD hf, ⟨Nat.le_trans hS.1 (by rw [e1]; exact hz), fun q h1 h2 => by rw [e1, hk q (Nat.lt_of_lt_of_le h1 hS.1) (fun z => h2 (hfree q z))]; exact hS.2.1 q h1 h2, fun q hq => by
      rcases List.mem_append.mp hq with h | h
      · exact hS.2.2 q h
      · exact hfree _ (hL q h)⟩, hA⟩ T' rfl X'
  exact ⟨t2, st t2 a1, b1⟩
theorem call_VUs (C : Cx p s m args meth c cc nL own D cA) (h : St D A s.heap ws H locs) (K : CtU y cy maxL ret rm (.ref b :: As) D cA ws ws' v mc ms) (F : CWv own idx y cy maxL ret n) (q0 : Nat) {ci : Nat} {fs : List Value} {T : u_T} {N : Nat} (he : ws[q0]? = some (b, .inr (ci, fs))) (hc : vwCl[ci]? = some (y.cls, T, N))
    (hf : ws'.map (fun q => q.1) = ws.map (fun q => q.1)) (hn : As.length = n) (hst : st0 = As.reverse ++ .ref b :: rest) (hsz : ls.size = nL) (hW : (rest.map fun v => v.category).sum ≤ 8) (hdg : decode cc pc = .ok (.invokevirtual idx, 3))
    (hR : rm.frames + 1 ≤ R.frames ∧ 8 + (maxL + 11) + rm.locals ≤ R.locals) (hrc : rm.cells = mc) (hrs : rm.slots = ms) (hfit : cells + mc ≤ R.cells ∧ slots + ms ≤ R.slots)
    (kk : ∀ (H1 : Heap) (locs1 : List Loc), St D A s.heap ws' H1 locs1 → W p l e R s m args below meth c H1 locs1 (cells + mc) (slots + ms) Q (F0 m (pc + 3) ls (v.toList ++ rest))) : W p l e R s m args below meth c H locs cells slots Q (F0 m pc ls st0) :=
  run_Us (va_runV (As := As) (rest := rest) ⟨C.1, C.2.1, C.2.2.1, C.2.2.2.1, C.2.2.2.2.1⟩ (K l H.size) (F.use C.2.2.2.2.1 hrc hrs hR) ⟨PreC.blind, recv_ok C h.1 q0 he hc, pre_ok C h.1 (h.2.1.weaken (fun _ _ _ _ => trivial))⟩ rfl hn hsz hst (lv_room hW) hdg hfit) h hf kk
theorem call_VRs (C : Cx p s m args meth c cc nL own D cA) (h : St D A s.heap ws H locs) (K : CtR y cy maxL ret rm (.ref b :: As) D cA ws v mc ms) (F : CWv own idx y cy maxL ret n) (q0 : Nat) {ci : Nat} {fs : List Value} {T : u_T} {N : Nat} (he : ws[q0]? = some (b, .inr (ci, fs))) (hc : vwCl[ci]? = some (y.cls, T, N))
    (hn : As.length = n) (hst : st0 = As.reverse ++ .ref b :: rest) (hsz : ls.size = nL) (hW : (rest.map fun v => v.category).sum ≤ 8) (hdg : decode cc pc = .ok (.invokevirtual idx, 3))
    (hR : rm.frames + 1 ≤ R.frames ∧ 8 + (maxL + 11) + rm.locals ≤ R.locals) (hrc : rm.cells = mc) (hrs : rm.slots = ms) (hfit : cells + mc ≤ R.cells ∧ slots + ms ≤ R.slots)
    (kk : ∀ (H1 : Heap) (locs1 : List Loc), St D A s.heap ws H1 locs1 → W p l e R s m args below meth c H1 locs1 (cells + mc) (slots + ms) Q (F0 m (pc + 3) ls (v.toList ++ rest))) : W p l e R s m args below meth c H locs cells slots Q (F0 m pc ls st0) :=
  run_R (va_runV (As := As) (rest := rest) ⟨C.1, C.2.1, C.2.2.1, C.2.2.2.1, C.2.2.2.2.1⟩ (K l H.size) (F.use C.2.2.2.2.1 hrc hrs hR) ⟨PreC.blind, recv_ok C h.1 q0 he hc, pre_ok C h.1 (h.2.1.weaken (fun _ _ _ _ => trivial))⟩ rfl hn hsz hst (lv_room hW) hdg hfit) h kk
theorem call_VRsR (C : Cx p s m args meth c cc nL own D cA) (h : SR D s.heap ws H locs) (K : CtR y cy maxL ret rm (.ref b :: As) D cA ws v mc ms) (F : CWv own idx y cy maxL ret n) (q0 : Nat) {ci : Nat} {fs : List Value} {T : u_T} {N : Nat} (he : ws[q0]? = some (b, .inr (ci, fs))) (hc : vwCl[ci]? = some (y.cls, T, N))
    (hn : As.length = n) (hst : st0 = As.reverse ++ .ref b :: rest) (hsz : ls.size = nL) (hW : (rest.map fun v => v.category).sum ≤ 8) (hdg : decode cc pc = .ok (.invokevirtual idx, 3))
    (hR : rm.frames + 1 ≤ R.frames ∧ 8 + (maxL + 11) + rm.locals ≤ R.locals) (hrc : rm.cells = mc) (hrs : rm.slots = ms) (hfit : cells + mc ≤ R.cells ∧ slots + ms ≤ R.slots)
    (kk : ∀ (H1 : Heap) (locs1 : List Loc), SR D s.heap ws H1 locs1 → W p l e R s m args below meth c H1 locs1 (cells + mc) (slots + ms) Q (F0 m (pc + 3) ls (v.toList ++ rest))) : W p l e R s m args below meth c H locs cells slots Q (F0 m pc ls st0) :=
  run_RR (va_runV (As := As) (rest := rest) ⟨C.1, C.2.1, C.2.2.1, C.2.2.2.1, C.2.2.2.2.1⟩ (K l H.size) (F.use C.2.2.2.2.1 hrc hrs hR) ⟨PreC.blind, recv_ok C h.1 q0 he hc, pre_ok C h.1 h.2.1⟩ rfl hn hsz hst (lv_room hW) hdg hfit) h kk
theorem call_SR (C : Cx p s m args meth c cc nL own D cA) (h : St D A s.heap ws H locs) (K : CtR y cy maxL ret rm As D cA wc v mc ms) (F : CWs own idx y cy maxL ret n)
    (isC : List Nat) (hC : isC.map (fun i => ws[i]?) = wc.map some) (hnd : va_nd isC = true) (hn : As.length = n) (hst : st0 = As.reverse ++ rest) (hsz : ls.size = nL) (hW : (rest.map fun v => v.category).sum ≤ 8) (hdg : decode cc pc = .ok (.invokestatic idx, 3))
    (hR : rm.frames + 1 ≤ R.frames ∧ 8 + (maxL + 11) + rm.locals ≤ R.locals) (hrc : rm.cells = mc) (hrs : rm.slots = ms) (hfit : cells + mc ≤ R.cells ∧ slots + ms ≤ R.slots)
    (kk : ∀ (H1 : Heap) (locs1 : List Loc), St D A s.heap ws H1 locs1 → W p l e R s m args below meth c H1 locs1 (cells + mc) (slots + ms) Q (F0 m (pc + 3) ls (v.toList ++ rest))) : W p l e R s m args below meth c H locs cells slots Q (F0 m pc ls st0) :=
  run_R (va_runS (As := As) (rest := rest) ⟨C.1, C.2.1, C.2.2.1, C.2.2.2.1, C.2.2.2.2.1⟩ (K l H.size) (F.use C.2.2.2.2.1 hrc hrs hR) ⟨PreC.blind, pre_ok C (sub_P h.1 hC) ((sub_D h.2.1 hC hnd).weaken (fun _ _ _ _ => trivial))⟩ rfl hn hsz hst (lv_room hW) hdg hfit) h kk
theorem call_SRR (C : Cx p s m args meth c cc nL own D cA) (h : SR D s.heap ws H locs) (K : CtR y cy maxL ret rm As D cA wc v mc ms) (F : CWs own idx y cy maxL ret n)
    (isC : List Nat) (hC : isC.map (fun i => ws[i]?) = wc.map some) (hnd : va_nd isC = true) (hn : As.length = n) (hst : st0 = As.reverse ++ rest) (hsz : ls.size = nL) (hW : (rest.map fun v => v.category).sum ≤ 8) (hdg : decode cc pc = .ok (.invokestatic idx, 3))
    (hR : rm.frames + 1 ≤ R.frames ∧ 8 + (maxL + 11) + rm.locals ≤ R.locals) (hrc : rm.cells = mc) (hrs : rm.slots = ms) (hfit : cells + mc ≤ R.cells ∧ slots + ms ≤ R.slots)
    (kk : ∀ (H1 : Heap) (locs1 : List Loc), SR D s.heap ws H1 locs1 → W p l e R s m args below meth c H1 locs1 (cells + mc) (slots + ms) Q (F0 m (pc + 3) ls (v.toList ++ rest))) : W p l e R s m args below meth c H locs cells slots Q (F0 m pc ls st0) :=
  run_RR (va_runS (As := As) (rest := rest) ⟨C.1, C.2.1, C.2.2.1, C.2.2.2.1, C.2.2.2.2.1⟩ (K l H.size) (F.use C.2.2.2.2.1 hrc hrs hR) ⟨PreC.blind, pre_ok C (sub_P h.1 hC) (sub_D h.2.1 hC hnd)⟩ rfl hn hsz hst (lv_room hW) hdg hfit) h kk
theorem has_nest (C : Cx p s m args meth c cc nL RX0 D cA) (F : Cond.static yX4_has ∈ WS ∧ Cond.initialized RX4 ∈ WS ∧ Cond.code yX4_has cX4_has 2 (some .boolean) ∈ WS) (hR : rm.frames + 1 ≤ R.frames ∧ 8 + (2 + 11) + rm.locals ≤ R.locals) (hrc : rm.cells = mc) (hrs : rm.slots = ms) :
    va_CN R s args RX0 46 yX4_has RX4 cX4_has 2 (some .boolean) (mws yX4_has cX4_has 2 (some .boolean)) rm mc ms 2 ∧ (Cond.static yX4_has).before args s = true ∧ True :=
  ⟨va_cnB 2 C.2.2.2.2.1 (ws_goodIn (mws_in F.2.2)) rfl hrc hrs C.2.2.2.2.2.1.2.2.2.2 (C.2.2.2.2.1 _ F.2.1) (by decide +kernel) hR, C.2.2.2.2.1 _ F.1, trivial⟩
theorem call_has (C : Cx p s m args meth c cc nL RX0 D cA) (h : St D A s.heap ws H locs) {x1 x2 : Int32} (K : CtR yX4_has cX4_has 2 (some .boolean) rm [.int x1, .int x2] D cA [] v 0 0) (F : Cond.static yX4_has ∈ WS ∧ Cond.initialized RX4 ∈ WS ∧ Cond.code yX4_has cX4_has 2 (some .boolean) ∈ WS)
    (hsz : ls.size = nL) (hW : (rest.map fun v => v.category).sum ≤ 8) (hdg : decode cc pc = .ok (.invokestatic 46, 3)) (hR : rm.frames + 1 ≤ R.frames ∧ 8 + (2 + 11) + rm.locals ≤ R.locals) (hrc : rm.cells = 0) (hrs : rm.slots = 0) (hfit : cells + 0 ≤ R.cells ∧ slots + 0 ≤ R.slots)
    (kk : ∀ (H1 : Heap) (locs1 : List Loc), St D A s.heap ws H1 locs1 → W p l e R s m args below meth c H1 locs1 (cells + 0) (slots + 0) Q (F0 m (pc + 3) ls (v.toList ++ rest))) : W p l e R s m args below meth c H locs cells slots Q (F0 m pc ls (.int x2 :: .int x1 :: rest)) :=
  run_R (va_runSN (As := [.int x1, .int x2]) (rest := rest) ⟨C.1, C.2.1, C.2.2.1, C.2.2.2.1, C.2.2.2.2.1⟩ (K l H.size) (has_nest C F hR hrc hrs) ⟨PreC.blind, pre_ok C (fun k q hq => by simp at hq) ⟨fun i j p q hq => by simp at hq, fun k q hq => by simp at hq⟩⟩ rfl rfl hsz rfl (lv_room hW) hdg hfit) h kk
theorem call_hasR (C : Cx p s m args meth c cc nL RX0 D cA) (h : SR D s.heap ws H locs) {x1 x2 : Int32} (K : CtR yX4_has cX4_has 2 (some .boolean) rm [.int x1, .int x2] D cA [] v 0 0) (F : Cond.static yX4_has ∈ WS ∧ Cond.initialized RX4 ∈ WS ∧ Cond.code yX4_has cX4_has 2 (some .boolean) ∈ WS)
    (hsz : ls.size = nL) (hW : (rest.map fun v => v.category).sum ≤ 8) (hdg : decode cc pc = .ok (.invokestatic 46, 3)) (hR : rm.frames + 1 ≤ R.frames ∧ 8 + (2 + 11) + rm.locals ≤ R.locals) (hrc : rm.cells = 0) (hrs : rm.slots = 0) (hfit : cells + 0 ≤ R.cells ∧ slots + 0 ≤ R.slots)
    (kk : ∀ (H1 : Heap) (locs1 : List Loc), SR D s.heap ws H1 locs1 → W p l e R s m args below meth c H1 locs1 (cells + 0) (slots + 0) Q (F0 m (pc + 3) ls (v.toList ++ rest))) : W p l e R s m args below meth c H locs cells slots Q (F0 m pc ls (.int x2 :: .int x1 :: rest)) :=
  run_RR (va_runSN (As := [.int x1, .int x2]) (rest := rest) ⟨C.1, C.2.1, C.2.2.1, C.2.2.2.1, C.2.2.2.2.1⟩ (K l H.size) (has_nest C F hR hrc hrs) ⟨PreC.blind, pre_ok C (fun k q hq => by simp at hq) ⟨fun i j p q hq => by simp at hq, fun k q hq => by simp at hq⟩⟩ rfl rfl hsz rfl (lv_room hW) hdg hfit) h kk
-- pure helps
theorem ifT {c : Prop} {i : Decidable c} {α : Sort _} {x y z : α} (h : c) (e : @ite α c i x y = z) : x = z := (if_pos h).symm.trans e
theorem ifF {c : Prop} {i : Decidable c} {α : Sort _} {x y z : α} (h : ¬ c) (e : @ite α c i x y = z) : y = z := (if_neg h).symm.trans e
theorem ifS {c : Prop} {i : Decidable c} {α : Type _} {x : Option α} {z : α} (e : @ite _ c i x none = some z) : c ∧ x = some z := by
  by_cases h : c
  · exact ⟨h, ifT h e⟩
  · exact absurd (ifF h e) (by simp)
theorem bdS {α β : Type _} {x : Option α} {f : α → Option β} {z : β} (e : x.bind f = some z) : ∃ y, x = some y ∧ f y = some z := Option.bind_eq_some_iff.mp e
end GR
end
section
/-! the words of the tables that the walks use, one row each -/
theorem inT0 : ∀ w ∈ wsX00, w ∈ lw_tbl ∧ goodWord w = true := by decide +kernel
theorem inW0 : ∀ w ∈ u_ws RX0 TX0 13, w ∈ WS := fun w hw => ws_mem (inT0 w hw).1 (inT0 w hw).2
theorem inT1 : ∀ w ∈ wsX10, w ∈ lw_tbl ∧ goodWord w = true := by decide +kernel
theorem inW1 : ∀ w ∈ u_ws RX1 TX1 5, w ∈ WS := fun w hw => ws_mem (inT1 w hw).1 (inT1 w hw).2
theorem inT2 : ∀ w ∈ wsX20, w ∈ lw_tbl ∧ goodWord w = true := by decide +kernel
theorem inW2 : ∀ w ∈ u_ws RX2 TX2 1, w ∈ WS := fun w hw => ws_mem (inT2 w hw).1 (inT2 w hw).2
theorem inT3 : ∀ w ∈ wsX30, w ∈ lw_tbl ∧ goodWord w = true := by decide +kernel
theorem inW3 : ∀ w ∈ u_ws RX3 TX3 5, w ∈ WS := fun w hw => ws_mem (inT3 w hw).1 (inT3 w hw).2
theorem inT4 : ∀ w ∈ wsX40, w ∈ lw_tbl ∧ goodWord w = true := by decide +kernel
theorem inW4 : ∀ w ∈ u_ws RX4 TX4 5, w ∈ WS := fun w hw => ws_mem (inT4 w hw).1 (inT4 w hw).2
theorem inT5 : ∀ w ∈ wsX50, w ∈ lw_tbl ∧ goodWord w = true := by decide +kernel
theorem inW5 : ∀ w ∈ u_ws RX5 TX5 25, w ∈ WS := fun w hw => ws_mem (inT5 w hw).1 (inT5 w hw).2
theorem fp_X0_14 : FP RX0 14 0 0 true (.object "Signround$Row") := ⟨RX0, TX0, 13, tyX0, rfl, inW0, by decide, wm 197 (by decide +kernel) rfl, tyX0_ok, nmX0, rfl, (by decide +kernel)⟩
theorem fp_X0_20 : FP RX0 20 0 1 true (.object "Signround$Row") := ⟨RX0, TX0, 13, tyX0, rfl, inW0, by decide, wm 199 (by decide +kernel) rfl, tyX0_ok, nmX0, rfl, (by decide +kernel)⟩
theorem fp_X0_23 : FP RX0 23 0 2 true (.object "Signround$Row") := ⟨RX0, TX0, 13, tyX0, rfl, inW0, by decide, wm 201 (by decide +kernel) rfl, tyX0_ok, nmX0, rfl, (by decide +kernel)⟩
theorem fp_X0_26 : FP RX0 26 0 3 true (.object "Signround$Row") := ⟨RX0, TX0, 13, tyX0, rfl, inW0, by decide, wm 203 (by decide +kernel) rfl, tyX0_ok, nmX0, rfl, (by decide +kernel)⟩
theorem fp_X0_29 : FP RX0 29 0 4 true (.object "Signround$Row") := ⟨RX0, TX0, 13, tyX0, rfl, inW0, by decide, wm 204 (by decide +kernel) rfl, tyX0_ok, nmX0, rfl, (by decide +kernel)⟩
theorem fp_X0_35 : FP RX0 35 0 5 true (.object "Signround$History") := ⟨RX0, TX0, 13, tyX0, rfl, inW0, by decide, wm 205 (by decide +kernel) rfl, tyX0_ok, nmX0, rfl, (by decide +kernel)⟩
theorem fp_X0_39 : FP RX0 39 0 7 false .int := ⟨RX0, TX0, 13, tyX0, rfl, inW0, by decide, wm 209 (by decide +kernel) rfl, tyX0_ok, nmX0, rfl, (by decide +kernel)⟩
theorem fl_X0_43 : FL RX0 43 0 6 := ⟨RX0, TX0, 13, rfl, inW0, by decide, wm 207 (by decide +kernel) rfl⟩
theorem fl_X0_23 : FL RX0 23 0 2 := ⟨RX0, TX0, 13, rfl, inW0, by decide, wm 201 (by decide +kernel) rfl⟩
set_option maxRecDepth 20000 in
theorem cw_X0_50 : CWv RX0 50 yX2_get cX2_get 2 (some .int) 1 := ⟨wm 312 (by decide +kernel) rfl, wm 313 (by decide +kernel) rfl, wm 314 (by decide +kernel) rfl, wm 2 (by decide +kernel) rfl, wm 315 rfl rfl, by decide +kernel, by decide +kernel, by decide +kernel⟩
set_option maxRecDepth 20000 in
theorem cw_X0_54 : CWs RX0 54 yJ9_max_7cf53 cJ9_max_7cf53 2 (some .int) 2 := ⟨wm 316 (by decide +kernel) rfl, wm 317 (by decide +kernel) rfl, wm 13 (by decide +kernel) rfl, wm 318 rfl rfl, by decide +kernel, by decide +kernel, by decide +kernel⟩
theorem fl_X0_14 : FL RX0 14 0 0 := ⟨RX0, TX0, 13, rfl, inW0, by decide, wm 197 (by decide +kernel) rfl⟩
set_option maxRecDepth 20000 in
theorem cw_X0_60 : CWv RX0 60 yX2_set cX2_set 3 none 2 := ⟨wm 319 (by decide +kernel) rfl, wm 320 (by decide +kernel) rfl, wm 321 (by decide +kernel) rfl, wm 2 (by decide +kernel) rfl, wm 322 rfl rfl, by decide +kernel, by decide +kernel, by decide +kernel⟩
theorem fl_X0_20 : FL RX0 20 0 1 := ⟨RX0, TX0, 13, rfl, inW0, by decide, wm 199 (by decide +kernel) rfl⟩
theorem fp_X0_43 : FP RX0 43 0 6 false .int := ⟨RX0, TX0, 13, tyX0, rfl, inW0, by decide, wm 207 (by decide +kernel) rfl, tyX0_ok, nmX0, rfl, (by decide +kernel)⟩
set_option maxRecDepth 20000 in
theorem cw_X0_64 : CWv RX0 64 yX0_allSlots cX0_allSlots 1 (some .int) 0 := ⟨wm 403 (by decide +kernel) rfl, wm 281 (by decide +kernel) rfl, wm 282 (by decide +kernel) rfl, wm 9 (by decide +kernel) rfl, wm 283 rfl rfl, by decide +kernel, by decide +kernel, by decide +kernel⟩
set_option maxRecDepth 20000 in
theorem cw_X0_68 : CWv RX0 68 yX0_nextBehind cX0_nextBehind 4 (some .int) 1 := ⟨wm 369 (by decide +kernel) rfl, wm 370 (by decide +kernel) rfl, wm 371 (by decide +kernel) rfl, wm 9 (by decide +kernel) rfl, wm 372 rfl rfl, by decide +kernel, by decide +kernel, by decide +kernel⟩
theorem fp_X0_71 : FP RX0 71 0 10 false .int := ⟨RX0, TX0, 13, tyX0, rfl, inW0, by decide, wm 215 (by decide +kernel) rfl, tyX0_ok, nmX0, rfl, (by decide +kernel)⟩
theorem fl_X0_35 : FL RX0 35 0 5 := ⟨RX0, TX0, 13, rfl, inW0, by decide, wm 205 (by decide +kernel) rfl⟩
set_option maxRecDepth 20000 in
theorem cw_X0_74 : CWv RX0 74 yX1_add cX1_add 5 none 4 := ⟨wm 360 (by decide +kernel) rfl, wm 361 (by decide +kernel) rfl, wm 362 (by decide +kernel) rfl, wm 10 (by decide +kernel) rfl, wm 363 rfl rfl, by decide +kernel, by decide +kernel, by decide +kernel⟩
set_option maxRecDepth 20000 in
theorem cw_X0_78 : CWv RX0 78 yX0_openNext cX0_openNext 4 (some .int) 1 := ⟨wm 365 (by decide +kernel) rfl, wm 366 (by decide +kernel) rfl, wm 367 (by decide +kernel) rfl, wm 9 (by decide +kernel) rfl, wm 368 rfl rfl, by decide +kernel, by decide +kernel, by decide +kernel⟩
theorem fl_X0_81 : FL RX0 81 0 11 := ⟨RX0, TX0, 13, rfl, inW0, by decide, wm 216 (by decide +kernel) rfl⟩
theorem fp_X0_81 : FP RX0 81 0 11 false .int := ⟨RX0, TX0, 13, tyX0, rfl, inW0, by decide, wm 216 (by decide +kernel) rfl, tyX0_ok, nmX0, rfl, (by decide +kernel)⟩
theorem fl_X0_84 : FL RX0 84 0 12 := ⟨RX0, TX0, 13, rfl, inW0, by decide, wm 218 (by decide +kernel) rfl⟩
theorem fp_X0_84 : FP RX0 84 0 12 false .int := ⟨RX0, TX0, 13, tyX0, rfl, inW0, by decide, wm 218 (by decide +kernel) rfl, tyX0_ok, nmX0, rfl, (by decide +kernel)⟩
theorem fl_X0_26 : FL RX0 26 0 3 := ⟨RX0, TX0, 13, rfl, inW0, by decide, wm 203 (by decide +kernel) rfl⟩
set_option maxRecDepth 20000 in
theorem cw_X0_87 : CWs RX0 87 yJ6_bitCount_0f7a4 cJ6_bitCount_0f7a4 1 (some .int) 1 := ⟨wm 373 (by decide +kernel) rfl, wm 332 (by decide +kernel) rfl, wm 14 (by decide +kernel) rfl, wm 333 rfl rfl, by decide +kernel, by decide +kernel, by decide +kernel⟩
theorem fl_X0_39 : FL RX0 39 0 7 := ⟨RX0, TX0, 13, rfl, inW0, by decide, wm 209 (by decide +kernel) rfl⟩
theorem fl_X0_92 : FL RX0 92 0 9 := ⟨RX0, TX0, 13, rfl, inW0, by decide, wm 214 (by decide +kernel) rfl⟩
theorem fl_X0_71 : FL RX0 71 0 10 := ⟨RX0, TX0, 13, rfl, inW0, by decide, wm 215 (by decide +kernel) rfl⟩
set_option maxRecDepth 20000 in
theorem cw_X0_95 : CWv RX0 95 yX0_finish cX0_finish 6 (some .int) 5 := ⟨wm 486 (by decide +kernel) rfl, wm 420 (by decide +kernel) rfl, wm 421 (by decide +kernel) rfl, wm 9 (by decide +kernel) rfl, wm 422 rfl rfl, by decide +kernel, by decide +kernel, by decide +kernel⟩
set_option maxRecDepth 20000 in
theorem cw_X0_99 : CWv RX0 99 yX0_remind cX0_remind 4 (some .int) 1 := ⟨wm 487 (by decide +kernel) rfl, wm 488 (by decide +kernel) rfl, wm 489 (by decide +kernel) rfl, wm 9 (by decide +kernel) rfl, wm 490 rfl rfl, by decide +kernel, by decide +kernel, by decide +kernel⟩
set_option maxRecDepth 20000 in
theorem cw_X0_102 : CWv RX0 102 yX0_canRemind cX0_canRemind 2 (some .boolean) 1 := ⟨wm 491 (by decide +kernel) rfl, wm 492 (by decide +kernel) rfl, wm 493 (by decide +kernel) rfl, wm 9 (by decide +kernel) rfl, wm 494 rfl rfl, by decide +kernel, by decide +kernel, by decide +kernel⟩
set_option maxRecDepth 20000 in
theorem cw_X0_106 : CWv RX0 106 yX0_daysToPace cX0_daysToPace 3 (some .int) 2 := ⟨wm 495 (by decide +kernel) rfl, wm 496 (by decide +kernel) rfl, wm 497 (by decide +kernel) rfl, wm 9 (by decide +kernel) rfl, wm 498 rfl rfl, by decide +kernel, by decide +kernel, by decide +kernel⟩
theorem fl_X0_109 : FL RX0 109 0 8 := ⟨RX0, TX0, 13, rfl, inW0, by decide, wm 212 (by decide +kernel) rfl⟩
theorem fl_X0_29 : FL RX0 29 0 4 := ⟨RX0, TX0, 13, rfl, inW0, by decide, wm 204 (by decide +kernel) rfl⟩
set_option maxRecDepth 20000 in
theorem cw_X0_112 : CWs RX0 112 yJ9_min_7cf53 cJ9_min_7cf53 2 (some .int) 2 := ⟨wm 510 (by decide +kernel) rfl, wm 511 (by decide +kernel) rfl, wm 13 (by decide +kernel) rfl, wm 512 rfl rfl, by decide +kernel, by decide +kernel, by decide +kernel⟩
theorem fp_X1_14 : FP RX1 14 1 0 true (.object "Signround$Row") := ⟨RX1, TX1, 5, tyX1, rfl, inW1, by decide, wm 177 (by decide +kernel) rfl, tyX1_ok, nmX1, rfl, (by decide +kernel)⟩
theorem fp_X1_20 : FP RX1 20 1 1 true (.object "Signround$Row") := ⟨RX1, TX1, 5, tyX1, rfl, inW1, by decide, wm 179 (by decide +kernel) rfl, tyX1_ok, nmX1, rfl, (by decide +kernel)⟩
theorem fp_X1_23 : FP RX1 23 1 2 true (.object "Signround$Row") := ⟨RX1, TX1, 5, tyX1, rfl, inW1, by decide, wm 181 (by decide +kernel) rfl, tyX1_ok, nmX1, rfl, (by decide +kernel)⟩
theorem fp_X1_26 : FP RX1 26 1 3 true (.object "Signround$Row") := ⟨RX1, TX1, 5, tyX1, rfl, inW1, by decide, wm 182 (by decide +kernel) rfl, tyX1_ok, nmX1, rfl, (by decide +kernel)⟩
theorem fl_X1_29 : FL RX1 29 1 4 := ⟨RX1, TX1, 5, rfl, inW1, by decide, wm 184 (by decide +kernel) rfl⟩
theorem fl_X1_14 : FL RX1 14 1 0 := ⟨RX1, TX1, 5, rfl, inW1, by decide, wm 177 (by decide +kernel) rfl⟩
set_option maxRecDepth 20000 in
theorem cw_X1_33 : CWv RX1 33 yX2_set cX2_set 3 none 2 := ⟨wm 364 (by decide +kernel) rfl, wm 320 (by decide +kernel) rfl, wm 321 (by decide +kernel) rfl, wm 2 (by decide +kernel) rfl, wm 322 rfl rfl, by decide +kernel, by decide +kernel, by decide +kernel⟩
theorem fl_X1_20 : FL RX1 20 1 1 := ⟨RX1, TX1, 5, rfl, inW1, by decide, wm 179 (by decide +kernel) rfl⟩
theorem fl_X1_23 : FL RX1 23 1 2 := ⟨RX1, TX1, 5, rfl, inW1, by decide, wm 181 (by decide +kernel) rfl⟩
theorem fl_X1_26 : FL RX1 26 1 3 := ⟨RX1, TX1, 5, rfl, inW1, by decide, wm 182 (by decide +kernel) rfl⟩
theorem fp_X1_29 : FP RX1 29 1 4 false .int := ⟨RX1, TX1, 5, tyX1, rfl, inW1, by decide, wm 184 (by decide +kernel) rfl, tyX1_ok, nmX1, rfl, (by decide +kernel)⟩
set_option maxRecDepth 20000 in
theorem cw_X1_37 : CWv RX1 37 yX2_get cX2_get 2 (some .int) 1 := ⟨wm 646 (by decide +kernel) rfl, wm 313 (by decide +kernel) rfl, wm 314 (by decide +kernel) rfl, wm 2 (by decide +kernel) rfl, wm 315 rfl rfl, by decide +kernel, by decide +kernel, by decide +kernel⟩
theorem kc_X1_41 : Cond.constant RX1 41 (65521) ∈ WS := wm 647 (by decide +kernel) rfl
set_option maxRecDepth 20000 in
theorem cw_X1_42 : CWs RX1 42 yX1_isSigning cX1_isSigning 1 (some .boolean) 1 := ⟨wm 659 (by decide +kernel) rfl, wm 660 (by decide +kernel) rfl, wm 10 (by decide +kernel) rfl, wm 661 rfl rfl, by decide +kernel, by decide +kernel, by decide +kernel⟩
set_option maxRecDepth 20000 in
theorem cw_X1_46 : CWs RX1 46 yX1_stateWith cX1_stateWith 3 (some .int) 3 := ⟨wm 662 (by decide +kernel) rfl, wm 663 (by decide +kernel) rfl, wm 10 (by decide +kernel) rfl, wm 664 rfl rfl, by decide +kernel, by decide +kernel, by decide +kernel⟩
theorem fp_X2_7 : FP RX2 7 2 0 true (.array .int) := ⟨RX2, TX2, 1, tyX2, rfl, inW2, by decide, wm 33 (by decide +kernel) rfl, tyX2_ok, nmX2, rfl, (by decide +kernel)⟩
theorem fl_X2_7 : FL RX2 7 2 0 := ⟨RX2, TX2, 1, rfl, inW2, by decide, wm 33 (by decide +kernel) rfl⟩
theorem fp_X3_9 : FP RX3 9 3 0 false .int := ⟨RX3, TX3, 5, tyX3, rfl, inW3, by decide, wm 43 (by decide +kernel) rfl, tyX3_ok, nmX3, rfl, (by decide +kernel)⟩
theorem fl_X3_15 : FL RX3 15 3 1 := ⟨RX3, TX3, 5, rfl, inW3, by decide, wm 45 (by decide +kernel) rfl⟩
theorem fl_X3_18 : FL RX3 18 3 2 := ⟨RX3, TX3, 5, rfl, inW3, by decide, wm 47 (by decide +kernel) rfl⟩
theorem fl_X3_9 : FL RX3 9 3 0 := ⟨RX3, TX3, 5, rfl, inW3, by decide, wm 43 (by decide +kernel) rfl⟩
theorem fp_X4_11 : FP RX4 11 4 0 true (.array (.object "Signround$Envelope")) := ⟨RX4, TX4, 5, tyX4, rfl, inW4, by decide, wm 62 (by decide +kernel) rfl, tyX4_ok, nmX4, rfl, (by decide +kernel)⟩
theorem fp_X4_17 : FP RX4 17 4 1 true (.array (.object "Signround$Standin")) := ⟨RX4, TX4, 5, tyX4, rfl, inW4, by decide, wm 63 (by decide +kernel) rfl, tyX4_ok, nmX4, rfl, (by decide +kernel)⟩
theorem fp_X4_26 : FP RX4 26 4 2 true (.object "Signround$Row") := ⟨RX4, TX4, 5, tyX4, rfl, inW4, by decide, wm 64 (by decide +kernel) rfl, tyX4_ok, nmX4, rfl, (by decide +kernel)⟩
theorem fl_X4_17 : FL RX4 17 4 1 := ⟨RX4, TX4, 5, rfl, inW4, by decide, wm 63 (by decide +kernel) rfl⟩
theorem fl_X4_31 : FL RX4 31 4 3 := ⟨RX4, TX4, 5, rfl, inW4, by decide, wm 65 (by decide +kernel) rfl⟩
theorem fl_X4_11 : FL RX4 11 4 0 := ⟨RX4, TX4, 5, rfl, inW4, by decide, wm 62 (by decide +kernel) rfl⟩
theorem fp_X4_31 : FP RX4 31 4 3 false .int := ⟨RX4, TX4, 5, tyX4, rfl, inW4, by decide, wm 65 (by decide +kernel) rfl, tyX4_ok, nmX4, rfl, (by decide +kernel)⟩
set_option maxRecDepth 20000 in
theorem cw_X4_43 : CWv RX4 43 yX4_envelopeAt cX4_envelopeAt 3 (some (.object "Signround$Envelope")) 1 := ⟨wm 256 (by decide +kernel) rfl, wm 258 (by decide +kernel) rfl, wsel 1 (by decide +kernel) rfl, wm 1 (by decide +kernel) rfl, wm 259 rfl rfl, by decide +kernel, by decide +kernel, by decide +kernel⟩
set_option maxRecDepth 20000 in
theorem cw_X4_47 : CWs RX4 47 yX4_refuseNoPerson cX4_refuseNoPerson 1 none 1 := ⟨wm 276 (by decide +kernel) rfl, wm 277 (by decide +kernel) rfl, wm 1 (by decide +kernel) rfl, wm 278 rfl rfl, by decide +kernel, by decide +kernel, by decide +kernel⟩
set_option maxRecDepth 20000 in
theorem cw_X4_50 : CWv RX4 50 yX0_allSlots cX0_allSlots 1 (some .int) 0 := ⟨wm 280 (by decide +kernel) rfl, wm 281 (by decide +kernel) rfl, wm 282 (by decide +kernel) rfl, wm 9 (by decide +kernel) rfl, wm 283 rfl rfl, by decide +kernel, by decide +kernel, by decide +kernel⟩
set_option maxRecDepth 20000 in
theorem cw_X4_59 : CWs RX4 59 yX4_refuseNoDraft cX4_refuseNoDraft 1 none 1 := ⟨wm 300 (by decide +kernel) rfl, wm 301 (by decide +kernel) rfl, wm 1 (by decide +kernel) rfl, wm 302 rfl rfl, by decide +kernel, by decide +kernel, by decide +kernel⟩
theorem fl_X4_63 : FL RX4 63 0 6 := ⟨RX0, TX0, 13, rfl, inW0, by decide, wm 208 (by decide +kernel) rfl⟩
set_option maxRecDepth 20000 in
theorem cw_X4_68 : CWv RX4 68 yX0_append cX0_append 5 none 2 := ⟨wm 305 (by decide +kernel) rfl, wm 306 (by decide +kernel) rfl, wm 307 (by decide +kernel) rfl, wm 9 (by decide +kernel) rfl, wm 308 rfl rfl, by decide +kernel, by decide +kernel, by decide +kernel⟩
set_option maxRecDepth 20000 in
theorem cw_X4_74 : CWs RX4 74 yJ6_bitCount_0f7a4 cJ6_bitCount_0f7a4 1 (some .int) 1 := ⟨wm 331 (by decide +kernel) rfl, wm 332 (by decide +kernel) rfl, wm 14 (by decide +kernel) rfl, wm 333 rfl rfl, by decide +kernel, by decide +kernel, by decide +kernel⟩
set_option maxRecDepth 20000 in
theorem cw_X4_82 : CWs RX4 82 yX4_has cX4_has 2 (some .boolean) 2 := ⟨wm 338 (by decide +kernel) rfl, wm 310 (by decide +kernel) rfl, wm 1 (by decide +kernel) rfl, wm 311 rfl rfl, by decide +kernel, by decide +kernel, by decide +kernel⟩
theorem fp_X4_90 : FP RX4 90 0 8 false .int := ⟨RX0, TX0, 13, tyX0, rfl, inW0, by decide, wm 211 (by decide +kernel) rfl, tyX0_ok, nmX0, rfl, (by decide +kernel)⟩
theorem fp_X4_93 : FP RX4 93 0 9 false .int := ⟨RX0, TX0, 13, tyX0, rfl, inW0, by decide, wm 213 (by decide +kernel) rfl, tyX0_ok, nmX0, rfl, (by decide +kernel)⟩
theorem fl_X4_98 : FL RX4 98 4 4 := ⟨RX4, TX4, 5, rfl, inW4, by decide, wm 66 (by decide +kernel) rfl⟩
set_option maxRecDepth 20000 in
theorem cw_X4_101 : CWv RX4 101 yX0_start cX0_start 2 (some .int) 1 := ⟨wm 356 (by decide +kernel) rfl, wm 357 (by decide +kernel) rfl, wm 358 (by decide +kernel) rfl, wm 9 (by decide +kernel) rfl, wm 359 rfl rfl, by decide +kernel, by decide +kernel, by decide +kernel⟩
set_option maxRecDepth 20000 in
theorem cw_X4_104 : CWs RX4 104 yX4_refuseNoSlot cX4_refuseNoSlot 2 none 2 := ⟨wm 381 (by decide +kernel) rfl, wm 382 (by decide +kernel) rfl, wm 1 (by decide +kernel) rfl, wm 383 rfl rfl, by decide +kernel, by decide +kernel, by decide +kernel⟩
set_option maxRecDepth 20000 in
theorem cw_X4_108 : CWv RX4 108 yX4_reasonFor cX4_reasonFor 6 (some .int) 3 := ⟨wm 385 (by decide +kernel) rfl, wm 387 (by decide +kernel) rfl, wsel 2 (by decide +kernel) rfl, wm 1 (by decide +kernel) rfl, wm 388 rfl rfl, by decide +kernel, by decide +kernel, by decide +kernel⟩
set_option maxRecDepth 20000 in
theorem cw_X4_114 : CWv RX4 114 yX0_mark cX0_mark 5 (some .int) 4 := ⟨wm 399 (by decide +kernel) rfl, wm 400 (by decide +kernel) rfl, wm 401 (by decide +kernel) rfl, wm 9 (by decide +kernel) rfl, wm 402 rfl rfl, by decide +kernel, by decide +kernel, by decide +kernel⟩
theorem fl_X4_118 : FL RX4 118 0 0 := ⟨RX0, TX0, 13, rfl, inW0, by decide, wm 198 (by decide +kernel) rfl⟩
set_option maxRecDepth 20000 in
theorem cw_X4_121 : CWv RX4 121 yX2_get cX2_get 2 (some .int) 1 := ⟨wm 389 (by decide +kernel) rfl, wm 313 (by decide +kernel) rfl, wm 314 (by decide +kernel) rfl, wm 2 (by decide +kernel) rfl, wm 315 rfl rfl, by decide +kernel, by decide +kernel, by decide +kernel⟩
set_option maxRecDepth 20000 in
theorem cw_X4_124 : CWv RX4 124 yX4_standinOf cX4_standinOf 3 (some (.object "Signround$Standin")) 1 := ⟨wm 390 (by decide +kernel) rfl, wm 392 (by decide +kernel) rfl, wsel 3 (by decide +kernel) rfl, wm 1 (by decide +kernel) rfl, wm 393 rfl rfl, by decide +kernel, by decide +kernel, by decide +kernel⟩
theorem fl_X4_128 : FL RX4 128 3 4 := ⟨RX3, TX3, 5, rfl, inW3, by decide, wm 50 (by decide +kernel) rfl⟩
theorem fp_X4_128 : FP RX4 128 3 4 false .int := ⟨RX3, TX3, 5, tyX3, rfl, inW3, by decide, wm 50 (by decide +kernel) rfl, tyX3_ok, nmX3, rfl, (by decide +kernel)⟩
set_option maxRecDepth 20000 in
theorem cw_X4_133 : CWv RX4 133 yX0_finish cX0_finish 6 (some .int) 5 := ⟨wm 419 (by decide +kernel) rfl, wm 420 (by decide +kernel) rfl, wm 421 (by decide +kernel) rfl, wm 9 (by decide +kernel) rfl, wm 422 rfl rfl, by decide +kernel, by decide +kernel, by decide +kernel⟩
theorem fl_X4_137 : FL RX4 137 0 7 := ⟨RX0, TX0, 13, rfl, inW0, by decide, wm 210 (by decide +kernel) rfl⟩
theorem fl_X4_148 : FL RX4 148 3 0 := ⟨RX3, TX3, 5, rfl, inW3, by decide, wm 44 (by decide +kernel) rfl⟩
theorem fp_X4_148 : FP RX4 148 3 0 false .int := ⟨RX3, TX3, 5, tyX3, rfl, inW3, by decide, wm 44 (by decide +kernel) rfl, tyX3_ok, nmX3, rfl, (by decide +kernel)⟩
theorem fp_X4_151 : FP RX4 151 3 1 false .int := ⟨RX3, TX3, 5, tyX3, rfl, inW3, by decide, wm 46 (by decide +kernel) rfl, tyX3_ok, nmX3, rfl, (by decide +kernel)⟩
theorem fp_X4_154 : FP RX4 154 3 2 false .int := ⟨RX3, TX3, 5, tyX3, rfl, inW3, by decide, wm 48 (by decide +kernel) rfl, tyX3_ok, nmX3, rfl, (by decide +kernel)⟩
theorem fp_X4_157 : FP RX4 157 3 3 false .int := ⟨RX3, TX3, 5, tyX3, rfl, inW3, by decide, wm 49 (by decide +kernel) rfl, tyX3_ok, nmX3, rfl, (by decide +kernel)⟩
set_option maxRecDepth 20000 in
theorem cw_X4_162 : CWv RX4 162 yX3_otherOn cX3_otherOn 2 (some .int) 1 := ⟨wm 394 (by decide +kernel) rfl, wm 395 (by decide +kernel) rfl, wm 396 (by decide +kernel) rfl, wm 3 (by decide +kernel) rfl, wm 397 rfl rfl, by decide +kernel, by decide +kernel, by decide +kernel⟩
set_option maxRecDepth 20000 in
theorem cw_X4_167 : CWv RX4 167 yX4_passOneDay cX4_passOneDay 3 (some .int) 0 := ⟨wm 478 (by decide +kernel) rfl, wm 480 (by decide +kernel) rfl, wsel 4 (by decide +kernel) rfl, wm 1 (by decide +kernel) rfl, wm 481 rfl rfl, by decide +kernel, by decide +kernel, by decide +kernel⟩
set_option maxRecDepth 20000 in
theorem cw_X4_170 : CWv RX4 170 yX0_reminderBehind cX0_reminderBehind 5 (some .int) 1 := ⟨wm 506 (by decide +kernel) rfl, wm 507 (by decide +kernel) rfl, wm 508 (by decide +kernel) rfl, wm 9 (by decide +kernel) rfl, wm 509 rfl rfl, by decide +kernel, by decide +kernel, by decide +kernel⟩
set_option maxRecDepth 20000 in
theorem cw_X4_173 : CWv RX4 173 yX0_stateOf cX0_stateOf 2 (some .int) 1 := ⟨wm 534 (by decide +kernel) rfl, wm 535 (by decide +kernel) rfl, wm 536 (by decide +kernel) rfl, wm 9 (by decide +kernel) rfl, wm 537 rfl rfl, by decide +kernel, by decide +kernel, by decide +kernel⟩
theorem fl_X4_176 : FL RX4 176 0 1 := ⟨RX0, TX0, 13, rfl, inW0, by decide, wm 200 (by decide +kernel) rfl⟩
theorem fl_X4_179 : FL RX4 179 0 11 := ⟨RX0, TX0, 13, rfl, inW0, by decide, wm 217 (by decide +kernel) rfl⟩
set_option maxRecDepth 20000 in
theorem cw_X4_182 : CWv RX4 182 yX0_aheadOf cX0_aheadOf 4 (some .int) 1 := ⟨wm 559 (by decide +kernel) rfl, wm 560 (by decide +kernel) rfl, wm 561 (by decide +kernel) rfl, wm 9 (by decide +kernel) rfl, wm 562 rfl rfl, by decide +kernel, by decide +kernel, by decide +kernel⟩
theorem fl_X4_185 : FL RX4 185 0 2 := ⟨RX0, TX0, 13, rfl, inW0, by decide, wm 202 (by decide +kernel) rfl⟩
theorem fl_X4_26 : FL RX4 26 4 2 := ⟨RX4, TX4, 5, rfl, inW4, by decide, wm 64 (by decide +kernel) rfl⟩
set_option maxRecDepth 20000 in
theorem cw_X4_188 : CWv RX4 188 yX0_ordersBehind cX0_ordersBehind 8 (some .int) 2 := ⟨wm 577 (by decide +kernel) rfl, wm 578 (by decide +kernel) rfl, wm 579 (by decide +kernel) rfl, wm 9 (by decide +kernel) rfl, wm 580 rfl rfl, by decide +kernel, by decide +kernel, by decide +kernel⟩
set_option maxRecDepth 20000 in
theorem cw_X4_192 : CWs RX4 192 yX4_countByTrying cX4_countByTrying 6 (some .int) 3 := ⟨wm 588 (by decide +kernel) rfl, wm 589 (by decide +kernel) rfl, wm 1 (by decide +kernel) rfl, wm 590 rfl rfl, by decide +kernel, by decide +kernel, by decide +kernel⟩
theorem fl_X4_196 : FL RX4 196 0 5 := ⟨RX0, TX0, 13, rfl, inW0, by decide, wm 206 (by decide +kernel) rfl⟩
theorem fl_X4_200 : FL RX4 200 1 4 := ⟨RX1, TX1, 5, rfl, inW1, by decide, wm 185 (by decide +kernel) rfl⟩
set_option maxRecDepth 20000 in
theorem cw_X4_205 : CWs RX4 205 yX4_refuseNoEvent cX4_refuseNoEvent 2 none 2 := ⟨wm 613 (by decide +kernel) rfl, wm 614 (by decide +kernel) rfl, wm 1 (by decide +kernel) rfl, wm 615 rfl rfl, by decide +kernel, by decide +kernel, by decide +kernel⟩
theorem fl_X4_209 : FL RX4 209 1 0 := ⟨RX1, TX1, 5, rfl, inW1, by decide, wm 178 (by decide +kernel) rfl⟩
theorem fl_X4_212 : FL RX4 212 1 1 := ⟨RX1, TX1, 5, rfl, inW1, by decide, wm 180 (by decide +kernel) rfl⟩
theorem fl_X4_213 : FL RX4 213 1 3 := ⟨RX1, TX1, 5, rfl, inW1, by decide, wm 183 (by decide +kernel) rfl⟩
set_option maxRecDepth 20000 in
theorem cw_X4_216 : CWs RX4 216 yX4_refuseTooManyEvents cX4_refuseTooManyEvents 2 none 2 := ⟨wm 638 (by decide +kernel) rfl, wm 639 (by decide +kernel) rfl, wm 1 (by decide +kernel) rfl, wm 640 rfl rfl, by decide +kernel, by decide +kernel, by decide +kernel⟩
set_option maxRecDepth 20000 in
theorem cw_X4_219 : CWv RX4 219 yX1_sealBehind cX1_sealBehind 4 (some .int) 1 := ⟨wm 642 (by decide +kernel) rfl, wm 643 (by decide +kernel) rfl, wm 644 (by decide +kernel) rfl, wm 10 (by decide +kernel) rfl, wm 645 rfl rfl, by decide +kernel, by decide +kernel, by decide +kernel⟩
set_option maxRecDepth 20000 in
theorem cw_X4_222 : CWv RX4 222 yX1_stateAfter cX1_stateAfter 7 (some .int) 2 := ⟨wm 655 (by decide +kernel) rfl, wm 656 (by decide +kernel) rfl, wm 657 (by decide +kernel) rfl, wm 10 (by decide +kernel) rfl, wm 658 rfl rfl, by decide +kernel, by decide +kernel, by decide +kernel⟩
set_option maxRecDepth 20000 in
theorem cw_X4_226 : CWv RX4 226 yX1_signedAfter cX1_signedAfter 4 (some .int) 1 := ⟨wm 672 (by decide +kernel) rfl, wm 673 (by decide +kernel) rfl, wm 674 (by decide +kernel) rfl, wm 10 (by decide +kernel) rfl, wm 675 rfl rfl, by decide +kernel, by decide +kernel, by decide +kernel⟩
set_option maxRecDepth 20000 in
theorem cw_X4_229 : CWv RX4 229 yX0_nextBehind cX0_nextBehind 4 (some .int) 1 := ⟨wm 591 (by decide +kernel) rfl, wm 370 (by decide +kernel) rfl, wm 371 (by decide +kernel) rfl, wm 9 (by decide +kernel) rfl, wm 372 rfl rfl, by decide +kernel, by decide +kernel, by decide +kernel⟩
theorem fl_X4_247 : FL RX4 247 0 12 := ⟨RX0, TX0, 13, rfl, inW0, by decide, wm 219 (by decide +kernel) rfl⟩
theorem fl_X4_157 : FL RX4 157 3 3 := ⟨RX3, TX3, 5, rfl, inW3, by decide, wm 49 (by decide +kernel) rfl⟩
theorem fp_X4_98 : FP RX4 98 4 4 false .int := ⟨RX4, TX4, 5, tyX4, rfl, inW4, by decide, wm 66 (by decide +kernel) rfl, tyX4_ok, nmX4, rfl, (by decide +kernel)⟩
set_option maxRecDepth 20000 in
theorem cw_X4_250 : CWv RX4 250 yX0_meetDay cX0_meetDay 2 (some .int) 1 := ⟨wm 482 (by decide +kernel) rfl, wm 483 (by decide +kernel) rfl, wm 484 (by decide +kernel) rfl, wm 9 (by decide +kernel) rfl, wm 485 rfl rfl, by decide +kernel, by decide +kernel, by decide +kernel⟩
theorem kc_J6_265 : Cond.constant RJ6 265 (1431655765) ∈ WS := wm 334 (by decide +kernel) rfl
theorem kc_J6_266 : Cond.constant RJ6 266 (858993459) ∈ WS := wm 335 (by decide +kernel) rfl
theorem kc_J6_267 : Cond.constant RJ6 267 (252645135) ∈ WS := wm 336 (by decide +kernel) rfl
theorem fp_X5_7 : FP RX5 7 5 2 true (.array .int) := ⟨RX5, TX5, 25, tyX5, rfl, inW5, by decide, wm 684 (by decide +kernel) rfl, tyX5_ok, nmX5, rfl, (by decide +kernel)⟩
theorem fp_X5_13 : FP RX5 13 5 3 true (.array .int) := ⟨RX5, TX5, 25, tyX5, rfl, inW5, by decide, wm 685 (by decide +kernel) rfl, tyX5_ok, nmX5, rfl, (by decide +kernel)⟩
theorem fp_X5_16 : FP RX5 16 5 4 true (.array .int) := ⟨RX5, TX5, 25, tyX5, rfl, inW5, by decide, wm 686 (by decide +kernel) rfl, tyX5_ok, nmX5, rfl, (by decide +kernel)⟩
theorem fp_X5_19 : FP RX5 19 5 5 true (.array .int) := ⟨RX5, TX5, 25, tyX5, rfl, inW5, by decide, wm 687 (by decide +kernel) rfl, tyX5_ok, nmX5, rfl, (by decide +kernel)⟩
theorem fp_X5_22 : FP RX5 22 5 6 true (.array .int) := ⟨RX5, TX5, 25, tyX5, rfl, inW5, by decide, wm 688 (by decide +kernel) rfl, tyX5_ok, nmX5, rfl, (by decide +kernel)⟩
theorem fp_X5_25 : FP RX5 25 5 7 true (.array .int) := ⟨RX5, TX5, 25, tyX5, rfl, inW5, by decide, wm 689 (by decide +kernel) rfl, tyX5_ok, nmX5, rfl, (by decide +kernel)⟩
theorem fp_X5_28 : FP RX5 28 5 8 true (.array .int) := ⟨RX5, TX5, 25, tyX5, rfl, inW5, by decide, wm 690 (by decide +kernel) rfl, tyX5_ok, nmX5, rfl, (by decide +kernel)⟩
theorem fp_X5_31 : FP RX5 31 5 9 true (.array .int) := ⟨RX5, TX5, 25, tyX5, rfl, inW5, by decide, wm 691 (by decide +kernel) rfl, tyX5_ok, nmX5, rfl, (by decide +kernel)⟩
theorem fp_X5_34 : FP RX5 34 5 10 true (.array .int) := ⟨RX5, TX5, 25, tyX5, rfl, inW5, by decide, wm 692 (by decide +kernel) rfl, tyX5_ok, nmX5, rfl, (by decide +kernel)⟩
theorem fp_X5_37 : FP RX5 37 5 11 true (.array .int) := ⟨RX5, TX5, 25, tyX5, rfl, inW5, by decide, wm 693 (by decide +kernel) rfl, tyX5_ok, nmX5, rfl, (by decide +kernel)⟩
theorem fp_X5_40 : FP RX5 40 5 12 true (.array .int) := ⟨RX5, TX5, 25, tyX5, rfl, inW5, by decide, wm 694 (by decide +kernel) rfl, tyX5_ok, nmX5, rfl, (by decide +kernel)⟩
theorem fp_X5_43 : FP RX5 43 5 13 true (.array .int) := ⟨RX5, TX5, 25, tyX5, rfl, inW5, by decide, wm 695 (by decide +kernel) rfl, tyX5_ok, nmX5, rfl, (by decide +kernel)⟩
theorem fp_X5_46 : FP RX5 46 5 14 true (.array .int) := ⟨RX5, TX5, 25, tyX5, rfl, inW5, by decide, wm 696 (by decide +kernel) rfl, tyX5_ok, nmX5, rfl, (by decide +kernel)⟩
theorem fp_X5_49 : FP RX5 49 5 15 true (.array .int) := ⟨RX5, TX5, 25, tyX5, rfl, inW5, by decide, wm 697 (by decide +kernel) rfl, tyX5_ok, nmX5, rfl, (by decide +kernel)⟩
theorem fp_X5_52 : FP RX5 52 5 16 true (.array .int) := ⟨RX5, TX5, 25, tyX5, rfl, inW5, by decide, wm 698 (by decide +kernel) rfl, tyX5_ok, nmX5, rfl, (by decide +kernel)⟩
theorem fp_X5_55 : FP RX5 55 5 17 true (.array .int) := ⟨RX5, TX5, 25, tyX5, rfl, inW5, by decide, wm 699 (by decide +kernel) rfl, tyX5_ok, nmX5, rfl, (by decide +kernel)⟩
theorem fp_X5_58 : FP RX5 58 5 21 true (.array .int) := ⟨RX5, TX5, 25, tyX5, rfl, inW5, by decide, wm 703 (by decide +kernel) rfl, tyX5_ok, nmX5, rfl, (by decide +kernel)⟩
theorem fp_X5_61 : FP RX5 61 5 22 true (.array .int) := ⟨RX5, TX5, 25, tyX5, rfl, inW5, by decide, wm 704 (by decide +kernel) rfl, tyX5_ok, nmX5, rfl, (by decide +kernel)⟩
theorem fp_X5_64 : FP RX5 64 5 23 true (.array .int) := ⟨RX5, TX5, 25, tyX5, rfl, inW5, by decide, wm 705 (by decide +kernel) rfl, tyX5_ok, nmX5, rfl, (by decide +kernel)⟩
theorem fl_X5_40 : FL RX5 40 5 12 := ⟨RX5, TX5, 25, rfl, inW5, by decide, wm 694 (by decide +kernel) rfl⟩
theorem fl_X5_67 : FL RX5 67 5 24 := ⟨RX5, TX5, 25, rfl, inW5, by decide, wm 706 (by decide +kernel) rfl⟩
theorem fp_X5_67 : FP RX5 67 5 24 false .int := ⟨RX5, TX5, 25, tyX5, rfl, inW5, by decide, wm 706 (by decide +kernel) rfl, tyX5_ok, nmX5, rfl, (by decide +kernel)⟩
set_option maxRecDepth 20000 in
theorem cw_X5_71 : CWs RX5 71 yX5_in cX5_in 3 (some .boolean) 3 := ⟨wm 778 (by decide +kernel) rfl, wm 779 (by decide +kernel) rfl, wm 4 (by decide +kernel) rfl, wm 780 rfl rfl, by decide +kernel, by decide +kernel, by decide +kernel⟩
theorem fl_X5_75 : FL RX5 75 5 1 := ⟨RX5, TX5, 25, rfl, inW5, by decide, wm 683 (by decide +kernel) rfl⟩
set_option maxRecDepth 20000 in
theorem cw_X5_78 : CWv RX5 78 yX5_isEnvelope cX5_isEnvelope 2 (some .boolean) 1 := ⟨wm 774 (by decide +kernel) rfl, wm 776 (by decide +kernel) rfl, wsel 6 (by decide +kernel) rfl, wm 4 (by decide +kernel) rfl, wm 777 rfl rfl, by decide +kernel, by decide +kernel, by decide +kernel⟩
theorem fl_X5_7 : FL RX5 7 5 2 := ⟨RX5, TX5, 25, rfl, inW5, by decide, wm 684 (by decide +kernel) rfl⟩
theorem fl_X5_19 : FL RX5 19 5 5 := ⟨RX5, TX5, 25, rfl, inW5, by decide, wm 687 (by decide +kernel) rfl⟩
theorem fl_X5_82 : FL RX5 82 5 20 := ⟨RX5, TX5, 25, rfl, inW5, by decide, wm 702 (by decide +kernel) rfl⟩
set_option maxRecDepth 20000 in
theorem cw_X5_85 : CWs RX5 85 yX5_has cX5_has 2 (some .boolean) 2 := ⟨wm 804 (by decide +kernel) rfl, wm 805 (by decide +kernel) rfl, wm 4 (by decide +kernel) rfl, wm 806 rfl rfl, by decide +kernel, by decide +kernel, by decide +kernel⟩
theorem fl_X5_25 : FL RX5 25 5 7 := ⟨RX5, TX5, 25, rfl, inW5, by decide, wm 689 (by decide +kernel) rfl⟩
theorem fl_X5_89 : FL RX5 89 5 19 := ⟨RX5, TX5, 25, rfl, inW5, by decide, wm 701 (by decide +kernel) rfl⟩
theorem fl_X5_58 : FL RX5 58 5 21 := ⟨RX5, TX5, 25, rfl, inW5, by decide, wm 703 (by decide +kernel) rfl⟩
theorem fp_X5_82 : FP RX5 82 5 20 false .int := ⟨RX5, TX5, 25, tyX5, rfl, inW5, by decide, wm 702 (by decide +kernel) rfl, tyX5_ok, nmX5, rfl, (by decide +kernel)⟩
theorem fp_X5_92 : FP RX5 92 5 18 false .int := ⟨RX5, TX5, 25, tyX5, rfl, inW5, by decide, wm 700 (by decide +kernel) rfl, tyX5_ok, nmX5, rfl, (by decide +kernel)⟩
theorem fp_X5_89 : FP RX5 89 5 19 false .int := ⟨RX5, TX5, 25, tyX5, rfl, inW5, by decide, wm 701 (by decide +kernel) rfl, tyX5_ok, nmX5, rfl, (by decide +kernel)⟩
theorem fl_X5_61 : FL RX5 61 5 22 := ⟨RX5, TX5, 25, rfl, inW5, by decide, wm 704 (by decide +kernel) rfl⟩
theorem fl_X5_28 : FL RX5 28 5 8 := ⟨RX5, TX5, 25, rfl, inW5, by decide, wm 690 (by decide +kernel) rfl⟩
theorem fl_X5_37 : FL RX5 37 5 11 := ⟨RX5, TX5, 25, rfl, inW5, by decide, wm 693 (by decide +kernel) rfl⟩
set_option maxRecDepth 20000 in
theorem cw_X5_95 : CWv RX5 95 yX5_opens cX5_opens 5 none 2 := ⟨wm 800 (by decide +kernel) rfl, wm 802 (by decide +kernel) rfl, wsel 11 (by decide +kernel) rfl, wm 4 (by decide +kernel) rfl, wm 803 rfl rfl, by decide +kernel, by decide +kernel, by decide +kernel⟩
theorem fl_X5_34 : FL RX5 34 5 10 := ⟨RX5, TX5, 25, rfl, inW5, by decide, wm 692 (by decide +kernel) rfl⟩
set_option maxRecDepth 20000 in
theorem cw_X5_99 : CWv RX5 99 yX5_all cX5_all 2 (some .int) 1 := ⟨wm 784 (by decide +kernel) rfl, wm 786 (by decide +kernel) rfl, wsel 7 (by decide +kernel) rfl, wm 4 (by decide +kernel) rfl, wm 787 rfl rfl, by decide +kernel, by decide +kernel, by decide +kernel⟩
set_option maxRecDepth 20000 in
theorem cw_X5_103 : CWs RX5 103 yX5_ends cX5_ends 1 (some .int) 1 := ⟨wm 807 (by decide +kernel) rfl, wm 808 (by decide +kernel) rfl, wm 4 (by decide +kernel) rfl, wm 809 rfl rfl, by decide +kernel, by decide +kernel, by decide +kernel⟩
set_option maxRecDepth 20000 in
theorem cw_X5_106 : CWv RX5 106 yX5_tells cX5_tells 4 none 2 := ⟨wm 796 (by decide +kernel) rfl, wm 798 (by decide +kernel) rfl, wsel 10 (by decide +kernel) rfl, wm 4 (by decide +kernel) rfl, wm 799 rfl rfl, by decide +kernel, by decide +kernel, by decide +kernel⟩
set_option maxRecDepth 20000 in
theorem cw_X5_109 : CWv RX5 109 yX5_looks cX5_looks 2 none 1 := ⟨wm 792 (by decide +kernel) rfl, wm 794 (by decide +kernel) rfl, wsel 9 (by decide +kernel) rfl, wm 4 (by decide +kernel) rfl, wm 795 rfl rfl, by decide +kernel, by decide +kernel, by decide +kernel⟩
theorem fl_X5_92 : FL RX5 92 5 18 := ⟨RX5, TX5, 25, rfl, inW5, by decide, wm 700 (by decide +kernel) rfl⟩
theorem fl_X5_31 : FL RX5 31 5 9 := ⟨RX5, TX5, 25, rfl, inW5, by decide, wm 691 (by decide +kernel) rfl⟩
theorem fl_X5_113 : FL RX5 113 5 0 := ⟨RX5, TX5, 25, rfl, inW5, by decide, wm 682 (by decide +kernel) rfl⟩
set_option maxRecDepth 20000 in
theorem cw_X5_116 : CWv RX5 116 yX5_notes cX5_notes 6 none 4 := ⟨wm 829 (by decide +kernel) rfl, wm 831 (by decide +kernel) rfl, wsel 13 (by decide +kernel) rfl, wm 4 (by decide +kernel) rfl, wm 832 rfl rfl, by decide +kernel, by decide +kernel, by decide +kernel⟩
set_option maxRecDepth 20000 in
theorem cw_X5_120 : CWs RX5 120 yX5_many cX5_many 3 (some .int) 1 := ⟨wm 818 (by decide +kernel) rfl, wm 819 (by decide +kernel) rfl, wm 4 (by decide +kernel) rfl, wm 820 rfl rfl, by decide +kernel, by decide +kernel, by decide +kernel⟩
set_option maxRecDepth 20000 in
theorem cw_X5_123 : CWv RX5 123 yX5_goes cX5_goes 4 (some .boolean) 3 := ⟨wm 766 (by decide +kernel) rfl, wm 768 (by decide +kernel) rfl, wsel 5 (by decide +kernel) rfl, wm 4 (by decide +kernel) rfl, wm 769 rfl rfl, by decide +kernel, by decide +kernel, by decide +kernel⟩
theorem fp_X5_75 : FP RX5 75 5 1 false .int := ⟨RX5, TX5, 25, tyX5, rfl, inW5, by decide, wm 683 (by decide +kernel) rfl, tyX5_ok, nmX5, rfl, (by decide +kernel)⟩
theorem fl_X5_22 : FL RX5 22 5 6 := ⟨RX5, TX5, 25, rfl, inW5, by decide, wm 688 (by decide +kernel) rfl⟩
set_option maxRecDepth 20000 in
theorem cw_X5_127 : CWs RX5 127 yX5_isPerson cX5_isPerson 1 (some .boolean) 1 := ⟨wm 781 (by decide +kernel) rfl, wm 782 (by decide +kernel) rfl, wm 4 (by decide +kernel) rfl, wm 783 rfl rfl, by decide +kernel, by decide +kernel, by decide +kernel⟩
set_option maxRecDepth 20000 in
theorem cw_X5_130 : CWv RX5 130 yX5_isIn cX5_isIn 3 (some .boolean) 2 := ⟨wm 788 (by decide +kernel) rfl, wm 790 (by decide +kernel) rfl, wsel 8 (by decide +kernel) rfl, wm 4 (by decide +kernel) rfl, wm 791 rfl rfl, by decide +kernel, by decide +kernel, by decide +kernel⟩
set_option maxRecDepth 20000 in
theorem cw_X5_133 : CWv RX5 133 yX5_adds cX5_adds 4 (some .int) 3 := ⟨wm 810 (by decide +kernel) rfl, wm 812 (by decide +kernel) rfl, wsel 12 (by decide +kernel) rfl, wm 4 (by decide +kernel) rfl, wm 813 rfl rfl, by decide +kernel, by decide +kernel, by decide +kernel⟩
theorem fl_X5_13 : FL RX5 13 5 3 := ⟨RX5, TX5, 25, rfl, inW5, by decide, wm 685 (by decide +kernel) rfl⟩
theorem fl_X5_16 : FL RX5 16 5 4 := ⟨RX5, TX5, 25, rfl, inW5, by decide, wm 686 (by decide +kernel) rfl⟩
set_option maxRecDepth 20000 in
theorem cw_X5_137 : CWv RX5 137 yX5_open cX5_open 1 (some .int) 0 := ⟨wm 833 (by decide +kernel) rfl, wm 835 (by decide +kernel) rfl, wsel 14 (by decide +kernel) rfl, wm 4 (by decide +kernel) rfl, wm 836 rfl rfl, by decide +kernel, by decide +kernel, by decide +kernel⟩
theorem fl_X5_43 : FL RX5 43 5 13 := ⟨RX5, TX5, 25, rfl, inW5, by decide, wm 695 (by decide +kernel) rfl⟩
theorem fl_X5_46 : FL RX5 46 5 14 := ⟨RX5, TX5, 25, rfl, inW5, by decide, wm 696 (by decide +kernel) rfl⟩
theorem fl_X5_55 : FL RX5 55 5 17 := ⟨RX5, TX5, 25, rfl, inW5, by decide, wm 699 (by decide +kernel) rfl⟩
theorem fl_X5_52 : FL RX5 52 5 16 := ⟨RX5, TX5, 25, rfl, inW5, by decide, wm 698 (by decide +kernel) rfl⟩
set_option maxRecDepth 20000 in
theorem cw_X5_141 : CWv RX5 141 yX5_delegated cX5_delegated 2 (some .int) 1 := ⟨wm 849 (by decide +kernel) rfl, wm 851 (by decide +kernel) rfl, wsel 17 (by decide +kernel) rfl, wm 4 (by decide +kernel) rfl, wm 852 rfl rfl, by decide +kernel, by decide +kernel, by decide +kernel⟩
set_option maxRecDepth 20000 in
theorem cw_X5_144 : CWv RX5 144 yX5_signedToday cX5_signedToday 2 (some .int) 1 := ⟨wm 853 (by decide +kernel) rfl, wm 855 (by decide +kernel) rfl, wsel 18 (by decide +kernel) rfl, wm 4 (by decide +kernel) rfl, wm 856 rfl rfl, by decide +kernel, by decide +kernel, by decide +kernel⟩
theorem fl_X5_49 : FL RX5 49 5 15 := ⟨RX5, TX5, 25, rfl, inW5, by decide, wm 697 (by decide +kernel) rfl⟩
set_option maxRecDepth 20000 in
theorem cw_X5_147 : CWv RX5 147 yX5_isSlot cX5_isSlot 3 (some .boolean) 2 := ⟨wm 841 (by decide +kernel) rfl, wm 843 (by decide +kernel) rfl, wsel 15 (by decide +kernel) rfl, wm 4 (by decide +kernel) rfl, wm 844 rfl rfl, by decide +kernel, by decide +kernel, by decide +kernel⟩
set_option maxRecDepth 20000 in
theorem cw_X5_150 : CWv RX5 150 yX5_why cX5_why 5 (some .int) 3 := ⟨wm 845 (by decide +kernel) rfl, wm 847 (by decide +kernel) rfl, wsel 16 (by decide +kernel) rfl, wm 4 (by decide +kernel) rfl, wm 848 rfl rfl, by decide +kernel, by decide +kernel, by decide +kernel⟩
set_option maxRecDepth 20000 in
theorem cw_X5_153 : CWv RX5 153 yX5_closes cX5_closes 5 (some .int) 4 := ⟨wm 865 (by decide +kernel) rfl, wm 867 (by decide +kernel) rfl, wsel 19 (by decide +kernel) rfl, wm 4 (by decide +kernel) rfl, wm 868 rfl rfl, by decide +kernel, by decide +kernel, by decide +kernel⟩
theorem fp_X5_113 : FP RX5 113 5 0 false .int := ⟨RX5, TX5, 25, tyX5, rfl, inW5, by decide, wm 682 (by decide +kernel) rfl, tyX5_ok, nmX5, rfl, (by decide +kernel)⟩
set_option maxRecDepth 20000 in
theorem cw_X5_157 : CWv RX5 157 yX5_reminds cX5_reminds 6 (some .int) 1 := ⟨wm 901 (by decide +kernel) rfl, wm 903 (by decide +kernel) rfl, wsel 21 (by decide +kernel) rfl, wm 4 (by decide +kernel) rfl, wm 904 rfl rfl, by decide +kernel, by decide +kernel, by decide +kernel⟩
set_option maxRecDepth 20000 in
theorem cw_X5_160 : CWv RX5 160 yX5_passes cX5_passes 5 (some .int) 0 := ⟨wm 897 (by decide +kernel) rfl, wm 899 (by decide +kernel) rfl, wsel 20 (by decide +kernel) rfl, wm 4 (by decide +kernel) rfl, wm 900 rfl rfl, by decide +kernel, by decide +kernel, by decide +kernel⟩
set_option maxRecDepth 20000 in
theorem cw_X5_163 : CWv RX5 163 yX5_told cX5_told 2 (some .int) 1 := ⟨wm 909 (by decide +kernel) rfl, wm 911 (by decide +kernel) rfl, wsel 22 (by decide +kernel) rfl, wm 4 (by decide +kernel) rfl, wm 912 rfl rfl, by decide +kernel, by decide +kernel, by decide +kernel⟩
set_option maxRecDepth 20000 in
theorem cw_X5_166 : CWv RX5 166 yX5_next cX5_next 5 (some .int) 1 := ⟨wm 917 (by decide +kernel) rfl, wm 919 (by decide +kernel) rfl, wsel 23 (by decide +kernel) rfl, wm 4 (by decide +kernel) rfl, wm 920 rfl rfl, by decide +kernel, by decide +kernel, by decide +kernel⟩
set_option maxRecDepth 20000 in
theorem cw_X5_169 : CWv RX5 169 yX5_reach cX5_reach 5 (some .int) 2 := ⟨wm 949 (by decide +kernel) rfl, wm 951 (by decide +kernel) rfl, wsel 24 (by decide +kernel) rfl, wm 4 (by decide +kernel) rfl, wm 952 rfl rfl, by decide +kernel, by decide +kernel, by decide +kernel⟩
theorem fl_X5_64 : FL RX5 64 5 23 := ⟨RX5, TX5, 25, rfl, inW5, by decide, wm 705 (by decide +kernel) rfl⟩
set_option maxRecDepth 20000 in
theorem cw_X5_173 : CWv RX5 173 yX5_countsFrom cX5_countsFrom 6 (some .int) 2 := ⟨wm 961 (by decide +kernel) rfl, wm 963 (by decide +kernel) rfl, wsel 25 (by decide +kernel) rfl, wm 4 (by decide +kernel) rfl, wm 964 rfl rfl, by decide +kernel, by decide +kernel, by decide +kernel⟩
set_option maxRecDepth 20000 in
theorem cw_X5_176 : CWv RX5 176 yX5_orders cX5_orders 2 (some .int) 1 := ⟨wm 969 (by decide +kernel) rfl, wm 958 (by decide +kernel) rfl, wm 959 (by decide +kernel) rfl, wm 4 (by decide +kernel) rfl, wm 960 rfl rfl, by decide +kernel, by decide +kernel, by decide +kernel⟩
set_option maxRecDepth 20000 in
theorem cw_X5_179 : CWv RX5 179 yX5_isEvent cX5_isEvent 3 (some .boolean) 2 := ⟨wm 982 (by decide +kernel) rfl, wm 984 (by decide +kernel) rfl, wsel 26 (by decide +kernel) rfl, wm 4 (by decide +kernel) rfl, wm 985 rfl rfl, by decide +kernel, by decide +kernel, by decide +kernel⟩
set_option maxRecDepth 20000 in
theorem cw_X5_182 : CWv RX5 182 yX5_areEvents cX5_areEvents 3 (some .boolean) 2 := ⟨wm 998 (by decide +kernel) rfl, wm 1000 (by decide +kernel) rfl, wsel 27 (by decide +kernel) rfl, wm 4 (by decide +kernel) rfl, wm 1001 rfl rfl, by decide +kernel, by decide +kernel, by decide +kernel⟩
theorem kc_X5_185 : Cond.constant RX5 185 (65521) ∈ WS := wm 1002 (by decide +kernel) rfl
set_option maxRecDepth 20000 in
theorem hw_has : Cond.static yX4_has ∈ WS ∧ Cond.initialized RX4 ∈ WS ∧ Cond.code yX4_has cX4_has 2 (some .boolean) ∈ WS := ⟨wm 310 (by decide +kernel) rfl, wm 1 (by decide +kernel) rfl, wm 311 rfl rfl⟩
end
section
abbrev inb (i : Int32) (n : Nat) : Prop := ¬ (i < 0 ∨ n ≤ i.toNatClampNeg)
def FU : Nat := 300
def lt {α β : Type _} (x : α) (f : α → β) : β := f x
theorem ltS {α β : Type _} {x : α} {f : α → β} {z : β} (e : lt x f = z) : ∃ y, y = x ∧ f y = z := ⟨x, rfl, e⟩
theorem nb0 : narrow .boolean (.int 0) = .int 0 := by decide
theorem nb1 : narrow .boolean (.int 1) = .int 1 := by decide
def mW (q : Nat → Nat) (cA : Nat → ClassId) (σ : Nat → Nat → Int32) : va_W := [(q 0, .inr (5, [.int (σ 0 0), .int (σ 1 0), .ref (q 1), .ref (q 2), .ref (q 3), .ref (q 4), .ref (q 5), .ref (q 6), .ref (q 7), .ref (q 8), .ref (q 9), .ref (q 10), .ref (q 11), .ref (q 12), .ref (q 13), .ref (q 14), .ref (q 15), .ref (q 16), .int (σ 18 0), .int (σ 19 0), .int (σ 20 0), .ref (q 17), .ref (q 18), .ref (q 19), .int (σ 24 0)])), (q 1, .inl (cA 0, 6, .inl (σ 2))), (q 2, .inl (cA 0, 6, .inl (σ 3))), (q 3, .inl (cA 0, 6, .inl (σ 4))), (q 4, .inl (cA 0, 6, .inl (σ 5))), (q 5, .inl (cA 0, 48, .inl (σ 6))), (q 6, .inl (cA 0, 48, .inl (σ 7))), (q 7, .inl (cA 0, 300, .inl (σ 8))), (q 8, .inl (cA 0, 300, .inl (σ 9))), (q 9, .inl (cA 0, 300, .inl (σ 10))), (q 10, .inl (cA 0, 300, .inl (σ 11))), (q 11, .inl (cA 0, 8, .inl (σ 12))), (q 12, .inl (cA 0, 8, .inl (σ 13))), (q 13, .inl (cA 0, 8, .inl (σ 14))), (q 14, .inl (cA 0, 8, .inl (σ 15))), (q 15, .inl (cA 0, 8, .inl (σ 16))), (q 16, .inl (cA 0, 8, .inl (σ 17))), (q 17, .inl (cA 0, 8, .inl (σ 21))), (q 18, .inl (cA 0, 8, .inl (σ 22))), (q 19, .inl (cA 0, 256, .inl (σ 23)))]
theorem mW_fst (q : Nat → Nat) (cA : Nat → ClassId) (σ τ : Nat → Nat → Int32) : (mW q cA τ).map (fun q => q.1) = (mW q cA σ).map (fun q => q.1) := rfl
theorem mW_c0 (q : Nat → Nat) (cA : Nat → ClassId) (σ : Nat → Nat → Int32) : (mW q cA σ)[0]? = some (q 0, .inr (5, [.int (σ 0 0), .int (σ 1 0), .ref (q 1), .ref (q 2), .ref (q 3), .ref (q 4), .ref (q 5), .ref (q 6), .ref (q 7), .ref (q 8), .ref (q 9), .ref (q 10), .ref (q 11), .ref (q 12), .ref (q 13), .ref (q 14), .ref (q 15), .ref (q 16), .int (σ 18 0), .int (σ 19 0), .int (σ 20 0), .ref (q 17), .ref (q 18), .ref (q 19), .int (σ 24 0)])) := rfl
theorem mW_w0_0 (q : Nat → Nat) (cA : Nat → ClassId) (σ : Nat → Nat → Int32) (v : Int32) : (mW q cA σ).set 0 (q 0, .inr (5, [.int (σ 0 0), .int (σ 1 0), .ref (q 1), .ref (q 2), .ref (q 3), .ref (q 4), .ref (q 5), .ref (q 6), .ref (q 7), .ref (q 8), .ref (q 9), .ref (q 10), .ref (q 11), .ref (q 12), .ref (q 13), .ref (q 14), .ref (q 15), .ref (q 16), .int (σ 18 0), .int (σ 19 0), .int (σ 20 0), .ref (q 17), .ref (q 18), .ref (q 19), .int (σ 24 0)].set 0 (.int v))) = mW q cA (va_up σ 0 (fun _ => v)) := rfl
theorem mW_w0_1 (q : Nat → Nat) (cA : Nat → ClassId) (σ : Nat → Nat → Int32) (v : Int32) : (mW q cA σ).set 0 (q 0, .inr (5, [.int (σ 0 0), .int (σ 1 0), .ref (q 1), .ref (q 2), .ref (q 3), .ref (q 4), .ref (q 5), .ref (q 6), .ref (q 7), .ref (q 8), .ref (q 9), .ref (q 10), .ref (q 11), .ref (q 12), .ref (q 13), .ref (q 14), .ref (q 15), .ref (q 16), .int (σ 18 0), .int (σ 19 0), .int (σ 20 0), .ref (q 17), .ref (q 18), .ref (q 19), .int (σ 24 0)].set 1 (.int v))) = mW q cA (va_up σ 1 (fun _ => v)) := rfl
theorem mW_w0_18 (q : Nat → Nat) (cA : Nat → ClassId) (σ : Nat → Nat → Int32) (v : Int32) : (mW q cA σ).set 0 (q 0, .inr (5, [.int (σ 0 0), .int (σ 1 0), .ref (q 1), .ref (q 2), .ref (q 3), .ref (q 4), .ref (q 5), .ref (q 6), .ref (q 7), .ref (q 8), .ref (q 9), .ref (q 10), .ref (q 11), .ref (q 12), .ref (q 13), .ref (q 14), .ref (q 15), .ref (q 16), .int (σ 18 0), .int (σ 19 0), .int (σ 20 0), .ref (q 17), .ref (q 18), .ref (q 19), .int (σ 24 0)].set 18 (.int v))) = mW q cA (va_up σ 18 (fun _ => v)) := rfl
theorem mW_w0_19 (q : Nat → Nat) (cA : Nat → ClassId) (σ : Nat → Nat → Int32) (v : Int32) : (mW q cA σ).set 0 (q 0, .inr (5, [.int (σ 0 0), .int (σ 1 0), .ref (q 1), .ref (q 2), .ref (q 3), .ref (q 4), .ref (q 5), .ref (q 6), .ref (q 7), .ref (q 8), .ref (q 9), .ref (q 10), .ref (q 11), .ref (q 12), .ref (q 13), .ref (q 14), .ref (q 15), .ref (q 16), .int (σ 18 0), .int (σ 19 0), .int (σ 20 0), .ref (q 17), .ref (q 18), .ref (q 19), .int (σ 24 0)].set 19 (.int v))) = mW q cA (va_up σ 19 (fun _ => v)) := rfl
theorem mW_w0_20 (q : Nat → Nat) (cA : Nat → ClassId) (σ : Nat → Nat → Int32) (v : Int32) : (mW q cA σ).set 0 (q 0, .inr (5, [.int (σ 0 0), .int (σ 1 0), .ref (q 1), .ref (q 2), .ref (q 3), .ref (q 4), .ref (q 5), .ref (q 6), .ref (q 7), .ref (q 8), .ref (q 9), .ref (q 10), .ref (q 11), .ref (q 12), .ref (q 13), .ref (q 14), .ref (q 15), .ref (q 16), .int (σ 18 0), .int (σ 19 0), .int (σ 20 0), .ref (q 17), .ref (q 18), .ref (q 19), .int (σ 24 0)].set 20 (.int v))) = mW q cA (va_up σ 20 (fun _ => v)) := rfl
theorem mW_w0_24 (q : Nat → Nat) (cA : Nat → ClassId) (σ : Nat → Nat → Int32) (v : Int32) : (mW q cA σ).set 0 (q 0, .inr (5, [.int (σ 0 0), .int (σ 1 0), .ref (q 1), .ref (q 2), .ref (q 3), .ref (q 4), .ref (q 5), .ref (q 6), .ref (q 7), .ref (q 8), .ref (q 9), .ref (q 10), .ref (q 11), .ref (q 12), .ref (q 13), .ref (q 14), .ref (q 15), .ref (q 16), .int (σ 18 0), .int (σ 19 0), .int (σ 20 0), .ref (q 17), .ref (q 18), .ref (q 19), .int (σ 24 0)].set 24 (.int v))) = mW q cA (va_up σ 24 (fun _ => v)) := rfl
theorem mW_c1 (q : Nat → Nat) (cA : Nat → ClassId) (σ : Nat → Nat → Int32) : (mW q cA σ)[1]? = some (q 1, .inl (cA 0, 6, .inl (σ 2))) := rfl
theorem mW_w1 (q : Nat → Nat) (cA : Nat → ClassId) (σ : Nat → Nat → Int32) (g : Nat → Int32) : (mW q cA σ).set 1 (q 1, .inl (cA 0, 6, .inl g)) = mW q cA (va_up σ 2 g) := rfl
theorem mW_c2 (q : Nat → Nat) (cA : Nat → ClassId) (σ : Nat → Nat → Int32) : (mW q cA σ)[2]? = some (q 2, .inl (cA 0, 6, .inl (σ 3))) := rfl
theorem mW_w2 (q : Nat → Nat) (cA : Nat → ClassId) (σ : Nat → Nat → Int32) (g : Nat → Int32) : (mW q cA σ).set 2 (q 2, .inl (cA 0, 6, .inl g)) = mW q cA (va_up σ 3 g) := rfl
theorem mW_c3 (q : Nat → Nat) (cA : Nat → ClassId) (σ : Nat → Nat → Int32) : (mW q cA σ)[3]? = some (q 3, .inl (cA 0, 6, .inl (σ 4))) := rfl
theorem mW_w3 (q : Nat → Nat) (cA : Nat → ClassId) (σ : Nat → Nat → Int32) (g : Nat → Int32) : (mW q cA σ).set 3 (q 3, .inl (cA 0, 6, .inl g)) = mW q cA (va_up σ 4 g) := rfl
theorem mW_c4 (q : Nat → Nat) (cA : Nat → ClassId) (σ : Nat → Nat → Int32) : (mW q cA σ)[4]? = some (q 4, .inl (cA 0, 6, .inl (σ 5))) := rfl
theorem mW_w4 (q : Nat → Nat) (cA : Nat → ClassId) (σ : Nat → Nat → Int32) (g : Nat → Int32) : (mW q cA σ).set 4 (q 4, .inl (cA 0, 6, .inl g)) = mW q cA (va_up σ 5 g) := rfl
theorem mW_c5 (q : Nat → Nat) (cA : Nat → ClassId) (σ : Nat → Nat → Int32) : (mW q cA σ)[5]? = some (q 5, .inl (cA 0, 48, .inl (σ 6))) := rfl
theorem mW_w5 (q : Nat → Nat) (cA : Nat → ClassId) (σ : Nat → Nat → Int32) (g : Nat → Int32) : (mW q cA σ).set 5 (q 5, .inl (cA 0, 48, .inl g)) = mW q cA (va_up σ 6 g) := rfl
theorem mW_c6 (q : Nat → Nat) (cA : Nat → ClassId) (σ : Nat → Nat → Int32) : (mW q cA σ)[6]? = some (q 6, .inl (cA 0, 48, .inl (σ 7))) := rfl
theorem mW_w6 (q : Nat → Nat) (cA : Nat → ClassId) (σ : Nat → Nat → Int32) (g : Nat → Int32) : (mW q cA σ).set 6 (q 6, .inl (cA 0, 48, .inl g)) = mW q cA (va_up σ 7 g) := rfl
theorem mW_c7 (q : Nat → Nat) (cA : Nat → ClassId) (σ : Nat → Nat → Int32) : (mW q cA σ)[7]? = some (q 7, .inl (cA 0, 300, .inl (σ 8))) := rfl
theorem mW_w7 (q : Nat → Nat) (cA : Nat → ClassId) (σ : Nat → Nat → Int32) (g : Nat → Int32) : (mW q cA σ).set 7 (q 7, .inl (cA 0, 300, .inl g)) = mW q cA (va_up σ 8 g) := rfl
theorem mW_c8 (q : Nat → Nat) (cA : Nat → ClassId) (σ : Nat → Nat → Int32) : (mW q cA σ)[8]? = some (q 8, .inl (cA 0, 300, .inl (σ 9))) := rfl
theorem mW_w8 (q : Nat → Nat) (cA : Nat → ClassId) (σ : Nat → Nat → Int32) (g : Nat → Int32) : (mW q cA σ).set 8 (q 8, .inl (cA 0, 300, .inl g)) = mW q cA (va_up σ 9 g) := rfl
theorem mW_c9 (q : Nat → Nat) (cA : Nat → ClassId) (σ : Nat → Nat → Int32) : (mW q cA σ)[9]? = some (q 9, .inl (cA 0, 300, .inl (σ 10))) := rfl
theorem mW_w9 (q : Nat → Nat) (cA : Nat → ClassId) (σ : Nat → Nat → Int32) (g : Nat → Int32) : (mW q cA σ).set 9 (q 9, .inl (cA 0, 300, .inl g)) = mW q cA (va_up σ 10 g) := rfl
theorem mW_c10 (q : Nat → Nat) (cA : Nat → ClassId) (σ : Nat → Nat → Int32) : (mW q cA σ)[10]? = some (q 10, .inl (cA 0, 300, .inl (σ 11))) := rfl
theorem mW_w10 (q : Nat → Nat) (cA : Nat → ClassId) (σ : Nat → Nat → Int32) (g : Nat → Int32) : (mW q cA σ).set 10 (q 10, .inl (cA 0, 300, .inl g)) = mW q cA (va_up σ 11 g) := rfl
theorem mW_c11 (q : Nat → Nat) (cA : Nat → ClassId) (σ : Nat → Nat → Int32) : (mW q cA σ)[11]? = some (q 11, .inl (cA 0, 8, .inl (σ 12))) := rfl
theorem mW_w11 (q : Nat → Nat) (cA : Nat → ClassId) (σ : Nat → Nat → Int32) (g : Nat → Int32) : (mW q cA σ).set 11 (q 11, .inl (cA 0, 8, .inl g)) = mW q cA (va_up σ 12 g) := rfl
theorem mW_c12 (q : Nat → Nat) (cA : Nat → ClassId) (σ : Nat → Nat → Int32) : (mW q cA σ)[12]? = some (q 12, .inl (cA 0, 8, .inl (σ 13))) := rfl
theorem mW_w12 (q : Nat → Nat) (cA : Nat → ClassId) (σ : Nat → Nat → Int32) (g : Nat → Int32) : (mW q cA σ).set 12 (q 12, .inl (cA 0, 8, .inl g)) = mW q cA (va_up σ 13 g) := rfl
theorem mW_c13 (q : Nat → Nat) (cA : Nat → ClassId) (σ : Nat → Nat → Int32) : (mW q cA σ)[13]? = some (q 13, .inl (cA 0, 8, .inl (σ 14))) := rfl
theorem mW_w13 (q : Nat → Nat) (cA : Nat → ClassId) (σ : Nat → Nat → Int32) (g : Nat → Int32) : (mW q cA σ).set 13 (q 13, .inl (cA 0, 8, .inl g)) = mW q cA (va_up σ 14 g) := rfl
theorem mW_c14 (q : Nat → Nat) (cA : Nat → ClassId) (σ : Nat → Nat → Int32) : (mW q cA σ)[14]? = some (q 14, .inl (cA 0, 8, .inl (σ 15))) := rfl
theorem mW_w14 (q : Nat → Nat) (cA : Nat → ClassId) (σ : Nat → Nat → Int32) (g : Nat → Int32) : (mW q cA σ).set 14 (q 14, .inl (cA 0, 8, .inl g)) = mW q cA (va_up σ 15 g) := rfl
theorem mW_c15 (q : Nat → Nat) (cA : Nat → ClassId) (σ : Nat → Nat → Int32) : (mW q cA σ)[15]? = some (q 15, .inl (cA 0, 8, .inl (σ 16))) := rfl
theorem mW_w15 (q : Nat → Nat) (cA : Nat → ClassId) (σ : Nat → Nat → Int32) (g : Nat → Int32) : (mW q cA σ).set 15 (q 15, .inl (cA 0, 8, .inl g)) = mW q cA (va_up σ 16 g) := rfl
theorem mW_c16 (q : Nat → Nat) (cA : Nat → ClassId) (σ : Nat → Nat → Int32) : (mW q cA σ)[16]? = some (q 16, .inl (cA 0, 8, .inl (σ 17))) := rfl
theorem mW_w16 (q : Nat → Nat) (cA : Nat → ClassId) (σ : Nat → Nat → Int32) (g : Nat → Int32) : (mW q cA σ).set 16 (q 16, .inl (cA 0, 8, .inl g)) = mW q cA (va_up σ 17 g) := rfl
theorem mW_c17 (q : Nat → Nat) (cA : Nat → ClassId) (σ : Nat → Nat → Int32) : (mW q cA σ)[17]? = some (q 17, .inl (cA 0, 8, .inl (σ 21))) := rfl
theorem mW_w17 (q : Nat → Nat) (cA : Nat → ClassId) (σ : Nat → Nat → Int32) (g : Nat → Int32) : (mW q cA σ).set 17 (q 17, .inl (cA 0, 8, .inl g)) = mW q cA (va_up σ 21 g) := rfl
theorem mW_c18 (q : Nat → Nat) (cA : Nat → ClassId) (σ : Nat → Nat → Int32) : (mW q cA σ)[18]? = some (q 18, .inl (cA 0, 8, .inl (σ 22))) := rfl
theorem mW_w18 (q : Nat → Nat) (cA : Nat → ClassId) (σ : Nat → Nat → Int32) (g : Nat → Int32) : (mW q cA σ).set 18 (q 18, .inl (cA 0, 8, .inl g)) = mW q cA (va_up σ 22 g) := rfl
theorem mW_c19 (q : Nat → Nat) (cA : Nat → ClassId) (σ : Nat → Nat → Int32) : (mW q cA σ)[19]? = some (q 19, .inl (cA 0, 256, .inl (σ 23))) := rfl
theorem mW_w19 (q : Nat → Nat) (cA : Nat → ClassId) (σ : Nat → Nat → Int32) (g : Nat → Int32) : (mW q cA σ).set 19 (q 19, .inl (cA 0, 256, .inl g)) = mW q cA (va_up σ 23 g) := rfl
end
section
section
variable {p : Program} {l : Launch} {e : Env} {R : Room} {s : State} {m : MethodId} {args : Array Value} {below : List Frame} {meth : Method} {c : Code} {Q : State → Prop}
variable {D : va_G} {cA : Nat → ClassId} {A : Nat → Prop} {q : Nat → Nat}
abbrev rm_X5_thrown : Room := { frames := 0, cells := 0, slots := 0, locals := 0 }
def f_X5_thrown (σ : Nat → Nat → Int32) : Int32 := (σ 24 0)
set_option maxHeartbeats 400000 in
set_option maxRecDepth 100000 in
theorem k_X5_thrown {q : Nat → Nat} {cA : Nat → ClassId} {D : va_G} (σ : Nat → Nat → Int32) {z : Int32} (hf : f_X5_thrown σ = z) : CtR yX5_thrown cX5_thrown 1 (some .int) rm_X5_thrown [.ref (q 0)] D cA (mW q cA σ) (some (.int z)) 0 0 := by
  refine ctR_of (by decide) (Nat.le_of_ble_eq_true rfl) ?_
  intro p l e s m below meth c ls C hr hnm h hl
  have C : Cx p s m _ meth c cX5_thrown 1 RX5 D cA := C
  obtain ⟨hx, hb, hml, hown, hts, hK, hlk⟩ := id C
  replace hl : lv_has ls 1 [(0, .ref (q 0))] := hl
  rw [f_X5_thrown] at hf
  refine lv_aload_n (pc := 0) hx hb dX5_thrown_0 rfl (lv_at hl 0 rfl) ?_
  refine g_get (pc := 1) (v := .int (σ 24 0)) C h.1 0 (mW_c0 _ _ _) fl_X5_67 rfl dX5_thrown_1 ?_
  have hf : (σ 24 0) = z := hf
  subst hf
  exact ret_iR (pc := 4) C hr h dX5_thrown_4
abbrev rm_X5_in : Room := { frames := 0, cells := 0, slots := 0, locals := 0 }
def f_X5_in (x0 x1 x2 : Int32) : Int32 := (if x0 < x1 then (0 : Int32) else (if x2 < x0 then (0 : Int32) else (1 : Int32)))
set_option maxHeartbeats 400000 in
set_option maxRecDepth 100000 in
theorem k_X5_in {cA : Nat → ClassId} {D : va_G} (x0 x1 x2 : Int32) {z : Int32} (hf : f_X5_in x0 x1 x2 = z) : CtR yX5_in cX5_in 3 (some .boolean) rm_X5_in [.int x0, .int x1, .int x2] D cA [] (some (.int z)) 0 0 := by
  refine ctR_of (by decide) (Nat.le_of_ble_eq_true rfl) ?_
  intro p l e s m below meth c ls C hr hnm h hl
  have C : Cx p s m _ meth c cX5_in 3 RX5 D cA := C
  obtain ⟨hx, hb, hml, hown, hts, hK, hlk⟩ := id C
  replace hl : lv_has ls 3 [(0, .int x0), (1, .int x1), (2, .int x2)] := hl
  rw [f_X5_in] at hf
  refine lv_iload_n (pc := 0) hx hb dX5_in_0 rfl (lv_at hl 0 rfl) ?_
  refine lv_iload_n (pc := 1) hx hb dX5_in_1 rfl (lv_at hl 1 rfl) ?_
  refine lv_icmp_lt (pc := 2) (tgt := 14) hx hb dX5_in_2 (by decide) (fun c9 => ?_) (fun c9 => ?_)
  · have hf := ifT c9 hf
    refine lv_iconst (pc := 14) (v := 0) hx hb dX5_in_14 (by decide) ?_
    have hf : (0 : Int32) = z := hf
    subst hf
    exact ret_zR (pc := 15) C hr nb0 h dX5_in_15
  · have hf := ifF c9 hf
    refine lv_iload_n (pc := 5) hx hb dX5_in_5 rfl (lv_at hl 0 rfl) ?_
    refine lv_iload_n (pc := 6) hx hb dX5_in_6 rfl (lv_at hl 2 rfl) ?_
    refine lv_icmp_gt (pc := 7) (tgt := 14) hx hb dX5_in_7 (by decide) (fun c9 => ?_) (fun c9 => ?_)
    · have hf := ifT c9 hf
      refine lv_iconst (pc := 14) (v := 0) hx hb dX5_in_14 (by decide) ?_
      have hf : (0 : Int32) = z := hf
      subst hf
      exact ret_zR (pc := 15) C hr nb0 h dX5_in_15
    · have hf := ifF c9 hf
      refine lv_iconst (pc := 10) (v := 1) hx hb dX5_in_10 (by decide) ?_
      refine lv_goto (pc := 11) (tgt := 15) hx hb dX5_in_11 (by decide) ?_
      have hf : (1 : Int32) = z := hf
      subst hf
      exact ret_zR (pc := 15) C hr nb1 h dX5_in_15
theorem nb_X5_in {x0 x1 x2 : Int32} {z : Int32} (hf : f_X5_in x0 x1 x2 = z) : narrow .boolean (.int z) = .int z := by
  rw [f_X5_in] at hf
  by_cases c9 : x0 < x1
  · have hf := ifT c9 hf
    have hf : ((0 : Int32)) = z := hf
    subst hf
    exact nb0
  · have hf := ifF c9 hf
    by_cases c9 : x2 < x0
    · have hf := ifT c9 hf
      have hf : ((0 : Int32)) = z := hf
      subst hf
      exact nb0
    · have hf := ifF c9 hf
      have hf : ((1 : Int32)) = z := hf
      subst hf
      exact nb1
abbrev rm_X5_goes : Room := { frames := 0, cells := 0, slots := 0, locals := 0 }
def f_X5_goes (σ : Nat → Nat → Int32) (x1 x2 x3 : Int32) : Int32 × (Nat → Nat → Int32) := (if x1 = 0 then (lt (va_up σ 24 (fun _ => (1 : Int32))) fun t4 => (if (t4 24 0) = 0 then ((1 : Int32), t4) else ((0 : Int32), t4))) else (if x2 = 0 then (lt (va_up σ 24 (fun _ => (2 : Int32))) fun t3 => (if (t3 24 0) = 0 then ((1 : Int32), t3) else ((0 : Int32), t3))) else (if x3 = 0 then (lt (va_up σ 24 (fun _ => (3 : Int32))) fun t2 => (if (t2 24 0) = 0 then ((1 : Int32), t2) else ((0 : Int32), t2))) else (lt (va_up σ 24 (fun _ => (0 : Int32))) fun t1 => (if (t1 24 0) = 0 then ((1 : Int32), t1) else ((0 : Int32), t1))))))
set_option maxHeartbeats 400000 in
set_option maxRecDepth 100000 in
theorem k_X5_goes {q : Nat → Nat} {cA : Nat → ClassId} {D : va_G} (σ : Nat → Nat → Int32) (x1 x2 x3 : Int32) {z : Int32 × (Nat → Nat → Int32)} (hf : f_X5_goes σ x1 x2 x3 = z) : CtU yX5_goes cX5_goes 4 (some .boolean) rm_X5_goes [.ref (q 0), .int x1, .int x2, .int x3] D cA (mW q cA σ) (mW q cA z.2) (some (.int z.1)) 0 0 := by
  refine ctU_of (by decide) (Nat.le_of_ble_eq_true rfl) ?_
  intro p l e s m below meth c ls C hr hnm h hl
  have C : Cx p s m _ meth c cX5_goes 4 RX5 D cA := C
  obtain ⟨hx, hb, hml, hown, hts, hK, hlk⟩ := id C
  replace hl : lv_has ls 4 [(0, .ref (q 0)), (1, .int x1), (2, .int x2), (3, .int x3)] := hl
  rw [f_X5_goes] at hf
  refine lv_aload_n (pc := 0) hx hb dX5_goes_0 rfl (lv_at hl 0 rfl) ?_
  refine lv_iload_n (pc := 1) hx hb dX5_goes_1 rfl (lv_at hl 1 rfl) ?_
  refine lv_if_ne (pc := 2) (tgt := 9) hx hb dX5_goes_2 (by decide) (fun c9 => ?_) (fun c9 => ?_)
  · have hf := ifF c9 hf
    refine lv_iload_n (pc := 9) hx hb dX5_goes_9 rfl (lv_at hl 2 rfl) ?_
    refine lv_if_ne (pc := 10) (tgt := 17) hx hb dX5_goes_10 (by decide) (fun c9 => ?_) (fun c9 => ?_)
    · have hf := ifF c9 hf
      refine lv_iload_n (pc := 17) hx hb dX5_goes_17 rfl (lv_at hl 3 rfl) ?_
      refine lv_if_ne (pc := 18) (tgt := 25) hx hb dX5_goes_18 (by decide) (fun c9 => ?_) (fun c9 => ?_)
      · have hf := ifF c9 hf
        refine lv_iconst (pc := 25) (v := 0) hx hb dX5_goes_25 (by decide) ?_
        obtain ⟨t1, et1, hf⟩ := ltS hf
        refine g_puti (pc := 26) (v := (0 : Int32)) (ws' := (mW q cA t1)) C h 0 (mW_c0 _ _ _) fp_X5_67 (Nat.le_of_ble_eq_true rfl) ((mW_w0_24 _ _ _ _).trans (congrArg (mW q cA) et1.symm)) dX5_goes_26 (fun H locs h => ?_)
        refine lv_aload_n (pc := 29) hx hb dX5_goes_29 rfl (lv_at hl 0 rfl) ?_
        refine g_get (pc := 30) (v := .int (t1 24 0)) C h.1 0 (mW_c0 _ _ _) fl_X5_67 rfl dX5_goes_30 ?_
        refine lv_if_ne (pc := 33) (tgt := 40) hx hb dX5_goes_33 (by decide) (fun c9 => ?_) (fun c9 => ?_)
        · have hf := ifF c9 hf
          refine lv_iconst (pc := 40) (v := 0) hx hb dX5_goes_40 (by decide) ?_
          have hf : ((0 : Int32), t1) = z := hf
          subst hf
          exact ret_zU (pc := 41) C hr nb0 h dX5_goes_41
        · have hf := ifT c9 hf
          refine lv_iconst (pc := 36) (v := 1) hx hb dX5_goes_36 (by decide) ?_
          refine lv_goto (pc := 37) (tgt := 41) hx hb dX5_goes_37 (by decide) ?_
          have hf : ((1 : Int32), t1) = z := hf
          subst hf
          exact ret_zU (pc := 41) C hr nb1 h dX5_goes_41
      · have hf := ifT c9 hf
        refine lv_iconst (pc := 21) (v := 3) hx hb dX5_goes_21 (by decide) ?_
        refine lv_goto (pc := 22) (tgt := 26) hx hb dX5_goes_22 (by decide) ?_
        obtain ⟨t2, et2, hf⟩ := ltS hf
        refine g_puti (pc := 26) (v := (3 : Int32)) (ws' := (mW q cA t2)) C h 0 (mW_c0 _ _ _) fp_X5_67 (Nat.le_of_ble_eq_true rfl) ((mW_w0_24 _ _ _ _).trans (congrArg (mW q cA) et2.symm)) dX5_goes_26 (fun H locs h => ?_)
        refine lv_aload_n (pc := 29) hx hb dX5_goes_29 rfl (lv_at hl 0 rfl) ?_
        refine g_get (pc := 30) (v := .int (t2 24 0)) C h.1 0 (mW_c0 _ _ _) fl_X5_67 rfl dX5_goes_30 ?_
        refine lv_if_ne (pc := 33) (tgt := 40) hx hb dX5_goes_33 (by decide) (fun c9 => ?_) (fun c9 => ?_)
        · have hf := ifF c9 hf
          refine lv_iconst (pc := 40) (v := 0) hx hb dX5_goes_40 (by decide) ?_
          have hf : ((0 : Int32), t2) = z := hf
          subst hf
          exact ret_zU (pc := 41) C hr nb0 h dX5_goes_41
        · have hf := ifT c9 hf
          refine lv_iconst (pc := 36) (v := 1) hx hb dX5_goes_36 (by decide) ?_
          refine lv_goto (pc := 37) (tgt := 41) hx hb dX5_goes_37 (by decide) ?_
          have hf : ((1 : Int32), t2) = z := hf
          subst hf
          exact ret_zU (pc := 41) C hr nb1 h dX5_goes_41
    · have hf := ifT c9 hf
      refine lv_iconst (pc := 13) (v := 2) hx hb dX5_goes_13 (by decide) ?_
      refine lv_goto (pc := 14) (tgt := 26) hx hb dX5_goes_14 (by decide) ?_
      obtain ⟨t3, et3, hf⟩ := ltS hf
      refine g_puti (pc := 26) (v := (2 : Int32)) (ws' := (mW q cA t3)) C h 0 (mW_c0 _ _ _) fp_X5_67 (Nat.le_of_ble_eq_true rfl) ((mW_w0_24 _ _ _ _).trans (congrArg (mW q cA) et3.symm)) dX5_goes_26 (fun H locs h => ?_)
      refine lv_aload_n (pc := 29) hx hb dX5_goes_29 rfl (lv_at hl 0 rfl) ?_
      refine g_get (pc := 30) (v := .int (t3 24 0)) C h.1 0 (mW_c0 _ _ _) fl_X5_67 rfl dX5_goes_30 ?_
      refine lv_if_ne (pc := 33) (tgt := 40) hx hb dX5_goes_33 (by decide) (fun c9 => ?_) (fun c9 => ?_)
      · have hf := ifF c9 hf
        refine lv_iconst (pc := 40) (v := 0) hx hb dX5_goes_40 (by decide) ?_
        have hf : ((0 : Int32), t3) = z := hf
        subst hf
        exact ret_zU (pc := 41) C hr nb0 h dX5_goes_41
      · have hf := ifT c9 hf
        refine lv_iconst (pc := 36) (v := 1) hx hb dX5_goes_36 (by decide) ?_
        refine lv_goto (pc := 37) (tgt := 41) hx hb dX5_goes_37 (by decide) ?_
        have hf : ((1 : Int32), t3) = z := hf
        subst hf
        exact ret_zU (pc := 41) C hr nb1 h dX5_goes_41
  · have hf := ifT c9 hf
    refine lv_iconst (pc := 5) (v := 1) hx hb dX5_goes_5 (by decide) ?_
    refine lv_goto (pc := 6) (tgt := 26) hx hb dX5_goes_6 (by decide) ?_
    obtain ⟨t4, et4, hf⟩ := ltS hf
    refine g_puti (pc := 26) (v := (1 : Int32)) (ws' := (mW q cA t4)) C h 0 (mW_c0 _ _ _) fp_X5_67 (Nat.le_of_ble_eq_true rfl) ((mW_w0_24 _ _ _ _).trans (congrArg (mW q cA) et4.symm)) dX5_goes_26 (fun H locs h => ?_)
    refine lv_aload_n (pc := 29) hx hb dX5_goes_29 rfl (lv_at hl 0 rfl) ?_
    refine g_get (pc := 30) (v := .int (t4 24 0)) C h.1 0 (mW_c0 _ _ _) fl_X5_67 rfl dX5_goes_30 ?_
    refine lv_if_ne (pc := 33) (tgt := 40) hx hb dX5_goes_33 (by decide) (fun c9 => ?_) (fun c9 => ?_)
    · have hf := ifF c9 hf
      refine lv_iconst (pc := 40) (v := 0) hx hb dX5_goes_40 (by decide) ?_
      have hf : ((0 : Int32), t4) = z := hf
      subst hf
      exact ret_zU (pc := 41) C hr nb0 h dX5_goes_41
    · have hf := ifT c9 hf
      refine lv_iconst (pc := 36) (v := 1) hx hb dX5_goes_36 (by decide) ?_
      refine lv_goto (pc := 37) (tgt := 41) hx hb dX5_goes_37 (by decide) ?_
      have hf : ((1 : Int32), t4) = z := hf
      subst hf
      exact ret_zU (pc := 41) C hr nb1 h dX5_goes_41
theorem nb_X5_goes {σ : Nat → Nat → Int32} {x1 x2 x3 : Int32} {z : Int32 × (Nat → Nat → Int32)} (hf : f_X5_goes σ x1 x2 x3 = z) : narrow .boolean (.int z.1) = .int z.1 := by
  rw [f_X5_goes] at hf
  by_cases c9 : x1 = 0
  · have hf := ifT c9 hf
    obtain ⟨t4, _, hf⟩ := ltS hf
    by_cases c9 : (t4 24 0) = 0
    · have hf := ifT c9 hf
      have hf : ((1 : Int32), t4) = z := hf
      subst hf
      exact nb1
    · have hf := ifF c9 hf
      have hf : ((0 : Int32), t4) = z := hf
      subst hf
      exact nb0
  · have hf := ifF c9 hf
    by_cases c9 : x2 = 0
    · have hf := ifT c9 hf
      obtain ⟨t3, _, hf⟩ := ltS hf
      by_cases c9 : (t3 24 0) = 0
      · have hf := ifT c9 hf
        have hf : ((1 : Int32), t3) = z := hf
        subst hf
        exact nb1
      · have hf := ifF c9 hf
        have hf : ((0 : Int32), t3) = z := hf
        subst hf
        exact nb0
    · have hf := ifF c9 hf
      by_cases c9 : x3 = 0
      · have hf := ifT c9 hf
        obtain ⟨t2, _, hf⟩ := ltS hf
        by_cases c9 : (t2 24 0) = 0
        · have hf := ifT c9 hf
          have hf : ((1 : Int32), t2) = z := hf
          subst hf
          exact nb1
        · have hf := ifF c9 hf
          have hf : ((0 : Int32), t2) = z := hf
          subst hf
          exact nb0
      · have hf := ifF c9 hf
        obtain ⟨t1, _, hf⟩ := ltS hf
        by_cases c9 : (t1 24 0) = 0
        · have hf := ifT c9 hf
          have hf : ((1 : Int32), t1) = z := hf
          subst hf
          exact nb1
        · have hf := ifF c9 hf
          have hf : ((0 : Int32), t1) = z := hf
          subst hf
          exact nb0
abbrev rm_X5_told : Room := { frames := 0, cells := 0, slots := 0, locals := 0 }
def f_X5_told (σ : Nat → Nat → Int32) (x1 : Int32) : Int32 × (Nat → Nat → Int32) := (lt (va_up σ 24 (fun _ => (0 : Int32))) fun t1 => (x1, t1))
set_option maxHeartbeats 400000 in
set_option maxRecDepth 100000 in
theorem k_X5_told {q : Nat → Nat} {cA : Nat → ClassId} {D : va_G} (σ : Nat → Nat → Int32) (x1 : Int32) {z : Int32 × (Nat → Nat → Int32)} (hf : f_X5_told σ x1 = z) : CtU yX5_told cX5_told 2 (some .int) rm_X5_told [.ref (q 0), .int x1] D cA (mW q cA σ) (mW q cA z.2) (some (.int z.1)) 0 0 := by
  refine ctU_of (by decide) (Nat.le_of_ble_eq_true rfl) ?_
  intro p l e s m below meth c ls C hr hnm h hl
  have C : Cx p s m _ meth c cX5_told 2 RX5 D cA := C
  obtain ⟨hx, hb, hml, hown, hts, hK, hlk⟩ := id C
  replace hl : lv_has ls 2 [(0, .ref (q 0)), (1, .int x1)] := hl
  rw [f_X5_told] at hf
  refine lv_aload_n (pc := 0) hx hb dX5_told_0 rfl (lv_at hl 0 rfl) ?_
  refine lv_iconst (pc := 1) (v := 0) hx hb dX5_told_1 (by decide) ?_
  obtain ⟨t1, et1, hf⟩ := ltS hf
  refine g_puti (pc := 2) (v := (0 : Int32)) (ws' := (mW q cA t1)) C h 0 (mW_c0 _ _ _) fp_X5_67 (Nat.le_of_ble_eq_true rfl) ((mW_w0_24 _ _ _ _).trans (congrArg (mW q cA) et1.symm)) dX5_told_2 (fun H locs h => ?_)
  refine lv_iload_n (pc := 5) hx hb dX5_told_5 rfl (lv_at hl 1 rfl) ?_
  have hf : (x1, t1) = z := hf
  subst hf
  exact ret_iU (pc := 6) C hr h dX5_told_6
abbrev rm_X5_isPerson : Room := { frames := 1, cells := 0, slots := 0, locals := 22 }
def f_X5_isPerson (x0 : Int32) : Int32 := (f_X5_in x0 (0 : Int32) (7 : Int32))
set_option maxHeartbeats 400000 in
set_option maxRecDepth 100000 in
theorem k_X5_isPerson {cA : Nat → ClassId} {D : va_G} (x0 : Int32) {z : Int32} (hf : f_X5_isPerson x0 = z) : CtR yX5_isPerson cX5_isPerson 1 (some .boolean) rm_X5_isPerson [.int x0] D cA [] (some (.int z)) 0 0 := by
  refine ctR_of (by decide) (Nat.le_of_ble_eq_true rfl) ?_
  intro p l e s m below meth c ls C hr hnm h hl
  have C : Cx p s m _ meth c cX5_isPerson 1 RX5 D cA := C
  obtain ⟨hx, hb, hml, hown, hts, hK, hlk⟩ := id C
  replace hl : lv_has ls 1 [(0, .int x0)] := hl
  rw [f_X5_isPerson] at hf
  refine lv_iload_n (pc := 0) hx hb dX5_isPerson_0 rfl (lv_at hl 0 rfl) ?_
  refine lv_iconst (pc := 1) (v := 0) hx hb dX5_isPerson_1 (by decide) ?_
  refine lv_bipush (pc := 2) (v := 7) hx hb dX5_isPerson_2 (by decide) ?_
  refine call_SRR (pc := 4) (As := [.int x0, .int (0 : Int32), .int (7 : Int32)]) (rest := []) (wc := []) C h (k_X5_in x0 (0 : Int32) (7 : Int32) rfl) cw_X5_71 [] rfl rfl rfl rfl hl.1 (Nat.le_of_ble_eq_true rfl) dX5_isPerson_4 ⟨Nat.le_of_ble_eq_true rfl, Nat.le_of_ble_eq_true rfl⟩ rfl rfl ⟨Nat.le_of_ble_eq_true rfl, Nat.le_of_ble_eq_true rfl⟩ (fun H locs h => ?_)
  refine W.eq (g2 := F0 m 7 ls [.int (f_X5_in x0 (0 : Int32) (7 : Int32))]) rfl ?_
  have hf : (f_X5_in x0 (0 : Int32) (7 : Int32)) = z := hf
  subst hf
  exact ret_zR (pc := 7) C hr (nb_X5_in rfl) h dX5_isPerson_7
theorem nb_X5_isPerson {x0 : Int32} {z : Int32} (hf : f_X5_isPerson x0 = z) : narrow .boolean (.int z) = .int z := by
  rw [f_X5_isPerson] at hf
  have hf : (f_X5_in x0 (0 : Int32) (7 : Int32)) = z := hf
  subst hf
  exact (nb_X5_in rfl)
abbrev rm_X5_isEnvelope : Room := { frames := 1, cells := 0, slots := 0, locals := 22 }
def f_X5_isEnvelope (σ : Nat → Nat → Int32) (x1 : Int32) : Int32 := (f_X5_in x1 (0 : Int32) ((σ 1 0) - (1 : Int32)))
set_option maxHeartbeats 400000 in
set_option maxRecDepth 100000 in
theorem k_X5_isEnvelope {q : Nat → Nat} {cA : Nat → ClassId} {D : va_G} (σ : Nat → Nat → Int32) (x1 : Int32) {z : Int32} (hf : f_X5_isEnvelope σ x1 = z) : CtR yX5_isEnvelope cX5_isEnvelope 2 (some .boolean) rm_X5_isEnvelope [.ref (q 0), .int x1] D cA (mW q cA σ) (some (.int z)) 0 0 := by
  refine ctR_of (by decide) (Nat.le_of_ble_eq_true rfl) ?_
  intro p l e s m below meth c ls C hr hnm h hl
  have C : Cx p s m _ meth c cX5_isEnvelope 2 RX5 D cA := C
  obtain ⟨hx, hb, hml, hown, hts, hK, hlk⟩ := id C
  replace hl : lv_has ls 2 [(0, .ref (q 0)), (1, .int x1)] := hl
  rw [f_X5_isEnvelope] at hf
  refine lv_iload_n (pc := 0) hx hb dX5_isEnvelope_0 rfl (lv_at hl 1 rfl) ?_
  refine lv_iconst (pc := 1) (v := 0) hx hb dX5_isEnvelope_1 (by decide) ?_
  refine lv_aload_n (pc := 2) hx hb dX5_isEnvelope_2 rfl (lv_at hl 0 rfl) ?_
  refine g_get (pc := 3) (v := .int (σ 1 0)) C h.1 0 (mW_c0 _ _ _) fl_X5_75 rfl dX5_isEnvelope_3 ?_
  refine lv_iconst (pc := 6) (v := 1) hx hb dX5_isEnvelope_6 (by decide) ?_
  refine lv_isub (pc := 7) hx hb dX5_isEnvelope_7 ?_
  refine call_SRR (pc := 8) (As := [.int x1, .int (0 : Int32), .int ((σ 1 0) - (1 : Int32))]) (rest := []) (wc := []) C h (k_X5_in x1 (0 : Int32) ((σ 1 0) - (1 : Int32)) rfl) cw_X5_71 [] rfl rfl rfl rfl hl.1 (Nat.le_of_ble_eq_true rfl) dX5_isEnvelope_8 ⟨Nat.le_of_ble_eq_true rfl, Nat.le_of_ble_eq_true rfl⟩ rfl rfl ⟨Nat.le_of_ble_eq_true rfl, Nat.le_of_ble_eq_true rfl⟩ (fun H locs h => ?_)
  refine W.eq (g2 := F0 m 11 ls [.int (f_X5_in x1 (0 : Int32) ((σ 1 0) - (1 : Int32)))]) rfl ?_
  have hf : (f_X5_in x1 (0 : Int32) ((σ 1 0) - (1 : Int32))) = z := hf
  subst hf
  exact ret_zR (pc := 11) C hr (nb_X5_in rfl) h dX5_isEnvelope_11
theorem nb_X5_isEnvelope {σ : Nat → Nat → Int32} {x1 : Int32} {z : Int32} (hf : f_X5_isEnvelope σ x1 = z) : narrow .boolean (.int z) = .int z := by
  rw [f_X5_isEnvelope] at hf
  have hf : (f_X5_in x1 (0 : Int32) ((σ 1 0) - (1 : Int32))) = z := hf
  subst hf
  exact (nb_X5_in rfl)
abbrev rm_X5_isSlot : Room := { frames := 2, cells := 0, slots := 0, locals := 43 }
def f_X5_isSlot (σ : Nat → Nat → Int32) (x1 x2 : Int32) : Option (Int32) := (if (f_X5_isEnvelope σ x1) = 0 then (some (0 : Int32)) else (if inb x1 6 then (if (f_X5_in x2 (0 : Int32) (((σ 2) x1.toNatClampNeg) - (1 : Int32))) = 0 then (some (0 : Int32)) else (some (1 : Int32))) else none))
set_option maxHeartbeats 400000 in
set_option maxRecDepth 100000 in
theorem k_X5_isSlot {q : Nat → Nat} {cA : Nat → ClassId} {D : va_G} (σ : Nat → Nat → Int32) (x1 x2 : Int32) {z : Int32} (hf : f_X5_isSlot σ x1 x2 = some z) : CtR yX5_isSlot cX5_isSlot 3 (some .boolean) rm_X5_isSlot [.ref (q 0), .int x1, .int x2] D cA (mW q cA σ) (some (.int z)) 0 0 := by
  refine ctR_of (by decide) (Nat.le_of_ble_eq_true rfl) ?_
  intro p l e s m below meth c ls C hr hnm h hl
  have C : Cx p s m _ meth c cX5_isSlot 3 RX5 D cA := C
  obtain ⟨hx, hb, hml, hown, hts, hK, hlk⟩ := id C
  replace hl : lv_has ls 3 [(0, .ref (q 0)), (1, .int x1), (2, .int x2)] := hl
  rw [f_X5_isSlot] at hf
  refine lv_aload_n (pc := 0) hx hb dX5_isSlot_0 rfl (lv_at hl 0 rfl) ?_
  refine lv_iload_n (pc := 1) hx hb dX5_isSlot_1 rfl (lv_at hl 1 rfl) ?_
  refine call_VRsR (pc := 2) (As := [.int x1]) (rest := []) C h (k_X5_isEnvelope σ x1 rfl) cw_X5_78 0 (mW_c0 _ _ _) rfl rfl rfl hl.1 (Nat.le_of_ble_eq_true rfl) dX5_isSlot_2 ⟨Nat.le_of_ble_eq_true rfl, Nat.le_of_ble_eq_true rfl⟩ rfl rfl ⟨Nat.le_of_ble_eq_true rfl, Nat.le_of_ble_eq_true rfl⟩ (fun H locs h => ?_)
  refine W.eq (g2 := F0 m 5 ls [.int (f_X5_isEnvelope σ x1)]) rfl ?_
  refine lv_if_eq (pc := 5) (tgt := 28) hx hb dX5_isSlot_5 (by decide) (fun c9 => ?_) (fun c9 => ?_)
  · have hf := ifT c9 hf
    refine lv_iconst (pc := 28) (v := 0) hx hb dX5_isSlot_28 (by decide) ?_
    have hf : (some (0 : Int32)) = some z := hf
    cases hf
    exact ret_zR (pc := 29) C hr nb0 h dX5_isSlot_29
  · have hf := ifF c9 hf
    refine lv_iload_n (pc := 8) hx hb dX5_isSlot_8 rfl (lv_at hl 2 rfl) ?_
    refine lv_iconst (pc := 9) (v := 0) hx hb dX5_isSlot_9 (by decide) ?_
    refine lv_aload_n (pc := 10) hx hb dX5_isSlot_10 rfl (lv_at hl 0 rfl) ?_
    refine g_get (pc := 11) (v := .ref (q 1)) C h.1 0 (mW_c0 _ _ _) fl_X5_7 rfl dX5_isSlot_11 ?_
    refine lv_iload_n (pc := 14) hx hb dX5_isSlot_14 rfl (lv_at hl 1 rfl) ?_
    obtain ⟨hin, hf⟩ := ifS hf
    refine g_ild (pc := 15) (n := 6) (f := (σ 2)) C h.1 1 (mW_c1 _ _ _) hin dX5_isSlot_15 ?_
    refine lv_iconst (pc := 16) (v := 1) hx hb dX5_isSlot_16 (by decide) ?_
    refine lv_isub (pc := 17) hx hb dX5_isSlot_17 ?_
    refine call_SRR (pc := 18) (As := [.int x2, .int (0 : Int32), .int (((σ 2) x1.toNatClampNeg) - (1 : Int32))]) (rest := []) (wc := []) C h (k_X5_in x2 (0 : Int32) (((σ 2) x1.toNatClampNeg) - (1 : Int32)) rfl) cw_X5_71 [] rfl rfl rfl rfl hl.1 (Nat.le_of_ble_eq_true rfl) dX5_isSlot_18 ⟨Nat.le_of_ble_eq_true rfl, Nat.le_of_ble_eq_true rfl⟩ rfl rfl ⟨Nat.le_of_ble_eq_true rfl, Nat.le_of_ble_eq_true rfl⟩ (fun H locs h => ?_)
    refine W.eq (g2 := F0 m 21 ls [.int (f_X5_in x2 (0 : Int32) (((σ 2) x1.toNatClampNeg) - (1 : Int32)))]) rfl ?_
    refine lv_if_eq (pc := 21) (tgt := 28) hx hb dX5_isSlot_21 (by decide) (fun c9 => ?_) (fun c9 => ?_)
    · have hf := ifT c9 hf
      refine lv_iconst (pc := 28) (v := 0) hx hb dX5_isSlot_28 (by decide) ?_
      have hf : (some (0 : Int32)) = some z := hf
      cases hf
      exact ret_zR (pc := 29) C hr nb0 h dX5_isSlot_29
    · have hf := ifF c9 hf
      refine lv_iconst (pc := 24) (v := 1) hx hb dX5_isSlot_24 (by decide) ?_
      refine lv_goto (pc := 25) (tgt := 29) hx hb dX5_isSlot_25 (by decide) ?_
      have hf : (some (1 : Int32)) = some z := hf
      cases hf
      exact ret_zR (pc := 29) C hr nb1 h dX5_isSlot_29
theorem nb_X5_isSlot {σ : Nat → Nat → Int32} {x1 x2 : Int32} {z : Int32} (hf : f_X5_isSlot σ x1 x2 = some z) : narrow .boolean (.int z) = .int z := by
  rw [f_X5_isSlot] at hf
  by_cases c9 : (f_X5_isEnvelope σ x1) = 0
  · have hf := ifT c9 hf
    have hf : (some (0 : Int32)) = some z := hf
    cases hf
    exact nb0
  · have hf := ifF c9 hf
    obtain ⟨_, hf⟩ := ifS hf
    by_cases c9 : (f_X5_in x2 (0 : Int32) (((σ 2) x1.toNatClampNeg) - (1 : Int32))) = 0
    · have hf := ifT c9 hf
      have hf : (some (0 : Int32)) = some z := hf
      cases hf
      exact nb0
    · have hf := ifF c9 hf
      have hf : (some (1 : Int32)) = some z := hf
      cases hf
      exact nb1
abbrev rm_X5_isEvent : Room := { frames := 2, cells := 0, slots := 0, locals := 43 }
def f_X5_isEvent (σ : Nat → Nat → Int32) (x1 x2 : Int32) : Option (Int32) := (if (f_X5_isEnvelope σ x1) = 0 then (some (0 : Int32)) else (if inb x1 6 then (if (f_X5_in x2 (0 : Int32) (((σ 5) x1.toNatClampNeg) - (1 : Int32))) = 0 then (some (0 : Int32)) else (some (1 : Int32))) else none))
set_option maxHeartbeats 400000 in
set_option maxRecDepth 100000 in
theorem k_X5_isEvent {q : Nat → Nat} {cA : Nat → ClassId} {D : va_G} (σ : Nat → Nat → Int32) (x1 x2 : Int32) {z : Int32} (hf : f_X5_isEvent σ x1 x2 = some z) : CtR yX5_isEvent cX5_isEvent 3 (some .boolean) rm_X5_isEvent [.ref (q 0), .int x1, .int x2] D cA (mW q cA σ) (some (.int z)) 0 0 := by
  refine ctR_of (by decide) (Nat.le_of_ble_eq_true rfl) ?_
  intro p l e s m below meth c ls C hr hnm h hl
  have C : Cx p s m _ meth c cX5_isEvent 3 RX5 D cA := C
  obtain ⟨hx, hb, hml, hown, hts, hK, hlk⟩ := id C
  replace hl : lv_has ls 3 [(0, .ref (q 0)), (1, .int x1), (2, .int x2)] := hl
  rw [f_X5_isEvent] at hf
  refine lv_aload_n (pc := 0) hx hb dX5_isEvent_0 rfl (lv_at hl 0 rfl) ?_
  refine lv_iload_n (pc := 1) hx hb dX5_isEvent_1 rfl (lv_at hl 1 rfl) ?_
  refine call_VRsR (pc := 2) (As := [.int x1]) (rest := []) C h (k_X5_isEnvelope σ x1 rfl) cw_X5_78 0 (mW_c0 _ _ _) rfl rfl rfl hl.1 (Nat.le_of_ble_eq_true rfl) dX5_isEvent_2 ⟨Nat.le_of_ble_eq_true rfl, Nat.le_of_ble_eq_true rfl⟩ rfl rfl ⟨Nat.le_of_ble_eq_true rfl, Nat.le_of_ble_eq_true rfl⟩ (fun H locs h => ?_)
  refine W.eq (g2 := F0 m 5 ls [.int (f_X5_isEnvelope σ x1)]) rfl ?_
  refine lv_if_eq (pc := 5) (tgt := 28) hx hb dX5_isEvent_5 (by decide) (fun c9 => ?_) (fun c9 => ?_)
  · have hf := ifT c9 hf
    refine lv_iconst (pc := 28) (v := 0) hx hb dX5_isEvent_28 (by decide) ?_
    have hf : (some (0 : Int32)) = some z := hf
    cases hf
    exact ret_zR (pc := 29) C hr nb0 h dX5_isEvent_29
  · have hf := ifF c9 hf
    refine lv_iload_n (pc := 8) hx hb dX5_isEvent_8 rfl (lv_at hl 2 rfl) ?_
    refine lv_iconst (pc := 9) (v := 0) hx hb dX5_isEvent_9 (by decide) ?_
    refine lv_aload_n (pc := 10) hx hb dX5_isEvent_10 rfl (lv_at hl 0 rfl) ?_
    refine g_get (pc := 11) (v := .ref (q 4)) C h.1 0 (mW_c0 _ _ _) fl_X5_19 rfl dX5_isEvent_11 ?_
    refine lv_iload_n (pc := 14) hx hb dX5_isEvent_14 rfl (lv_at hl 1 rfl) ?_
    obtain ⟨hin, hf⟩ := ifS hf
    refine g_ild (pc := 15) (n := 6) (f := (σ 5)) C h.1 4 (mW_c4 _ _ _) hin dX5_isEvent_15 ?_
    refine lv_iconst (pc := 16) (v := 1) hx hb dX5_isEvent_16 (by decide) ?_
    refine lv_isub (pc := 17) hx hb dX5_isEvent_17 ?_
    refine call_SRR (pc := 18) (As := [.int x2, .int (0 : Int32), .int (((σ 5) x1.toNatClampNeg) - (1 : Int32))]) (rest := []) (wc := []) C h (k_X5_in x2 (0 : Int32) (((σ 5) x1.toNatClampNeg) - (1 : Int32)) rfl) cw_X5_71 [] rfl rfl rfl rfl hl.1 (Nat.le_of_ble_eq_true rfl) dX5_isEvent_18 ⟨Nat.le_of_ble_eq_true rfl, Nat.le_of_ble_eq_true rfl⟩ rfl rfl ⟨Nat.le_of_ble_eq_true rfl, Nat.le_of_ble_eq_true rfl⟩ (fun H locs h => ?_)
    refine W.eq (g2 := F0 m 21 ls [.int (f_X5_in x2 (0 : Int32) (((σ 5) x1.toNatClampNeg) - (1 : Int32)))]) rfl ?_
    refine lv_if_eq (pc := 21) (tgt := 28) hx hb dX5_isEvent_21 (by decide) (fun c9 => ?_) (fun c9 => ?_)
    · have hf := ifT c9 hf
      refine lv_iconst (pc := 28) (v := 0) hx hb dX5_isEvent_28 (by decide) ?_
      have hf : (some (0 : Int32)) = some z := hf
      cases hf
      exact ret_zR (pc := 29) C hr nb0 h dX5_isEvent_29
    · have hf := ifF c9 hf
      refine lv_iconst (pc := 24) (v := 1) hx hb dX5_isEvent_24 (by decide) ?_
      refine lv_goto (pc := 25) (tgt := 29) hx hb dX5_isEvent_25 (by decide) ?_
      have hf : (some (1 : Int32)) = some z := hf
      cases hf
      exact ret_zR (pc := 29) C hr nb1 h dX5_isEvent_29
theorem nb_X5_isEvent {σ : Nat → Nat → Int32} {x1 x2 : Int32} {z : Int32} (hf : f_X5_isEvent σ x1 x2 = some z) : narrow .boolean (.int z) = .int z := by
  rw [f_X5_isEvent] at hf
  by_cases c9 : (f_X5_isEnvelope σ x1) = 0
  · have hf := ifT c9 hf
    have hf : (some (0 : Int32)) = some z := hf
    cases hf
    exact nb0
  · have hf := ifF c9 hf
    obtain ⟨_, hf⟩ := ifS hf
    by_cases c9 : (f_X5_in x2 (0 : Int32) (((σ 5) x1.toNatClampNeg) - (1 : Int32))) = 0
    · have hf := ifT c9 hf
      have hf : (some (0 : Int32)) = some z := hf
      cases hf
      exact nb0
    · have hf := ifF c9 hf
      have hf : (some (1 : Int32)) = some z := hf
      cases hf
      exact nb1
abbrev rm_X5_areEvents : Room := { frames := 2, cells := 0, slots := 0, locals := 43 }
def f_X5_areEvents (σ : Nat → Nat → Int32) (x1 x2 : Int32) : Option (Int32) := (if (f_X5_isEnvelope σ x1) = 0 then (some (0 : Int32)) else (if inb x1 6 then (if (f_X5_in x2 (0 : Int32) ((σ 5) x1.toNatClampNeg)) = 0 then (some (0 : Int32)) else (some (1 : Int32))) else none))
set_option maxHeartbeats 400000 in
set_option maxRecDepth 100000 in
theorem k_X5_areEvents {q : Nat → Nat} {cA : Nat → ClassId} {D : va_G} (σ : Nat → Nat → Int32) (x1 x2 : Int32) {z : Int32} (hf : f_X5_areEvents σ x1 x2 = some z) : CtR yX5_areEvents cX5_areEvents 3 (some .boolean) rm_X5_areEvents [.ref (q 0), .int x1, .int x2] D cA (mW q cA σ) (some (.int z)) 0 0 := by
  refine ctR_of (by decide) (Nat.le_of_ble_eq_true rfl) ?_
  intro p l e s m below meth c ls C hr hnm h hl
  have C : Cx p s m _ meth c cX5_areEvents 3 RX5 D cA := C
  obtain ⟨hx, hb, hml, hown, hts, hK, hlk⟩ := id C
  replace hl : lv_has ls 3 [(0, .ref (q 0)), (1, .int x1), (2, .int x2)] := hl
  rw [f_X5_areEvents] at hf
  refine lv_aload_n (pc := 0) hx hb dX5_areEvents_0 rfl (lv_at hl 0 rfl) ?_
  refine lv_iload_n (pc := 1) hx hb dX5_areEvents_1 rfl (lv_at hl 1 rfl) ?_
  refine call_VRsR (pc := 2) (As := [.int x1]) (rest := []) C h (k_X5_isEnvelope σ x1 rfl) cw_X5_78 0 (mW_c0 _ _ _) rfl rfl rfl hl.1 (Nat.le_of_ble_eq_true rfl) dX5_areEvents_2 ⟨Nat.le_of_ble_eq_true rfl, Nat.le_of_ble_eq_true rfl⟩ rfl rfl ⟨Nat.le_of_ble_eq_true rfl, Nat.le_of_ble_eq_true rfl⟩ (fun H locs h => ?_)
  refine W.eq (g2 := F0 m 5 ls [.int (f_X5_isEnvelope σ x1)]) rfl ?_
  refine lv_if_eq (pc := 5) (tgt := 26) hx hb dX5_areEvents_5 (by decide) (fun c9 => ?_) (fun c9 => ?_)
  · have hf := ifT c9 hf
    refine lv_iconst (pc := 26) (v := 0) hx hb dX5_areEvents_26 (by decide) ?_
    have hf : (some (0 : Int32)) = some z := hf
    cases hf
    exact ret_zR (pc := 27) C hr nb0 h dX5_areEvents_27
  · have hf := ifF c9 hf
    refine lv_iload_n (pc := 8) hx hb dX5_areEvents_8 rfl (lv_at hl 2 rfl) ?_
    refine lv_iconst (pc := 9) (v := 0) hx hb dX5_areEvents_9 (by decide) ?_
    refine lv_aload_n (pc := 10) hx hb dX5_areEvents_10 rfl (lv_at hl 0 rfl) ?_
    refine g_get (pc := 11) (v := .ref (q 4)) C h.1 0 (mW_c0 _ _ _) fl_X5_19 rfl dX5_areEvents_11 ?_
    refine lv_iload_n (pc := 14) hx hb dX5_areEvents_14 rfl (lv_at hl 1 rfl) ?_
    obtain ⟨hin, hf⟩ := ifS hf
    refine g_ild (pc := 15) (n := 6) (f := (σ 5)) C h.1 4 (mW_c4 _ _ _) hin dX5_areEvents_15 ?_
    refine call_SRR (pc := 16) (As := [.int x2, .int (0 : Int32), .int ((σ 5) x1.toNatClampNeg)]) (rest := []) (wc := []) C h (k_X5_in x2 (0 : Int32) ((σ 5) x1.toNatClampNeg) rfl) cw_X5_71 [] rfl rfl rfl rfl hl.1 (Nat.le_of_ble_eq_true rfl) dX5_areEvents_16 ⟨Nat.le_of_ble_eq_true rfl, Nat.le_of_ble_eq_true rfl⟩ rfl rfl ⟨Nat.le_of_ble_eq_true rfl, Nat.le_of_ble_eq_true rfl⟩ (fun H locs h => ?_)
    refine W.eq (g2 := F0 m 19 ls [.int (f_X5_in x2 (0 : Int32) ((σ 5) x1.toNatClampNeg))]) rfl ?_
    refine lv_if_eq (pc := 19) (tgt := 26) hx hb dX5_areEvents_19 (by decide) (fun c9 => ?_) (fun c9 => ?_)
    · have hf := ifT c9 hf
      refine lv_iconst (pc := 26) (v := 0) hx hb dX5_areEvents_26 (by decide) ?_
      have hf : (some (0 : Int32)) = some z := hf
      cases hf
      exact ret_zR (pc := 27) C hr nb0 h dX5_areEvents_27
    · have hf := ifF c9 hf
      refine lv_iconst (pc := 22) (v := 1) hx hb dX5_areEvents_22 (by decide) ?_
      refine lv_goto (pc := 23) (tgt := 27) hx hb dX5_areEvents_23 (by decide) ?_
      have hf : (some (1 : Int32)) = some z := hf
      cases hf
      exact ret_zR (pc := 27) C hr nb1 h dX5_areEvents_27
theorem nb_X5_areEvents {σ : Nat → Nat → Int32} {x1 x2 : Int32} {z : Int32} (hf : f_X5_areEvents σ x1 x2 = some z) : narrow .boolean (.int z) = .int z := by
  rw [f_X5_areEvents] at hf
  by_cases c9 : (f_X5_isEnvelope σ x1) = 0
  · have hf := ifT c9 hf
    have hf : (some (0 : Int32)) = some z := hf
    cases hf
    exact nb0
  · have hf := ifF c9 hf
    obtain ⟨_, hf⟩ := ifS hf
    by_cases c9 : (f_X5_in x2 (0 : Int32) ((σ 5) x1.toNatClampNeg)) = 0
    · have hf := ifT c9 hf
      have hf : (some (0 : Int32)) = some z := hf
      cases hf
      exact nb0
    · have hf := ifF c9 hf
      have hf : (some (1 : Int32)) = some z := hf
      cases hf
      exact nb1
abbrev rm_X5_has : Room := { frames := 0, cells := 0, slots := 0, locals := 0 }
def f_X5_has (x0 x1 : Int32) : Int32 := (if ((x0 >>> (x1 &&& 31)) &&& (1 : Int32)) = (1 : Int32) then (1 : Int32) else (0 : Int32))
set_option maxHeartbeats 400000 in
set_option maxRecDepth 100000 in
theorem k_X5_has {cA : Nat → ClassId} {D : va_G} (x0 x1 : Int32) {z : Int32} (hf : f_X5_has x0 x1 = z) : CtR yX5_has cX5_has 2 (some .boolean) rm_X5_has [.int x0, .int x1] D cA [] (some (.int z)) 0 0 := by
  refine ctR_of (by decide) (Nat.le_of_ble_eq_true rfl) ?_
  intro p l e s m below meth c ls C hr hnm h hl
  have C : Cx p s m _ meth c cX5_has 2 RX5 D cA := C
  obtain ⟨hx, hb, hml, hown, hts, hK, hlk⟩ := id C
  replace hl : lv_has ls 2 [(0, .int x0), (1, .int x1)] := hl
  rw [f_X5_has] at hf
  refine lv_iload_n (pc := 0) hx hb dX5_has_0 rfl (lv_at hl 0 rfl) ?_
  refine lv_iload_n (pc := 1) hx hb dX5_has_1 rfl (lv_at hl 1 rfl) ?_
  refine lv_ishr (pc := 2) hx hb dX5_has_2 ?_
  refine lv_iconst (pc := 3) (v := 1) hx hb dX5_has_3 (by decide) ?_
  refine lv_iand (pc := 4) hx hb dX5_has_4 ?_
  refine lv_iconst (pc := 5) (v := 1) hx hb dX5_has_5 (by decide) ?_
  refine lv_icmp_ne (pc := 6) (tgt := 13) hx hb dX5_has_6 (by decide) (fun c9 => ?_) (fun c9 => ?_)
  · have hf := ifF c9 hf
    refine lv_iconst (pc := 13) (v := 0) hx hb dX5_has_13 (by decide) ?_
    have hf : (0 : Int32) = z := hf
    subst hf
    exact ret_zR (pc := 14) C hr nb0 h dX5_has_14
  · have hf := ifT c9 hf
    refine lv_iconst (pc := 9) (v := 1) hx hb dX5_has_9 (by decide) ?_
    refine lv_goto (pc := 10) (tgt := 14) hx hb dX5_has_10 (by decide) ?_
    have hf : (1 : Int32) = z := hf
    subst hf
    exact ret_zR (pc := 14) C hr nb1 h dX5_has_14
theorem nb_X5_has {x0 x1 : Int32} {z : Int32} (hf : f_X5_has x0 x1 = z) : narrow .boolean (.int z) = .int z := by
  rw [f_X5_has] at hf
  by_cases c9 : ((x0 >>> (x1 &&& 31)) &&& (1 : Int32)) = (1 : Int32)
  · have hf := ifT c9 hf
    have hf : ((1 : Int32)) = z := hf
    subst hf
    exact nb1
  · have hf := ifF c9 hf
    have hf : ((0 : Int32)) = z := hf
    subst hf
    exact nb0
abbrev rm_X5_many : Room := { frames := 0, cells := 0, slots := 0, locals := 0 }
def f_X5_many_4 : Nat → Int32 → Int32 → Int32 → Option (Int32 × Int32)
  | 0, _, _, _ => none
  | n + 1, x0, x1, x2 => (if (8 : Int32) ≤ x2 then some (x1, x2) else (f_X5_many_4 n x0 (x1 + ((x0 >>> (x2 &&& 31)) &&& (1 : Int32))) (x2 + (1 : Int32))))
def f_X5_many (x0 : Int32) : Option (Int32) := ((f_X5_many_4 FU x0 (0 : Int32) (0 : Int32)).bind fun z1 => (some z1.1))
set_option maxHeartbeats 400000 in
set_option maxRecDepth 100000 in
theorem l_X5_many_4 (C : Cx p s m args meth c cX5_many 3 RX5 D cA) : ∀ (n : Nat) (x0 x1 x2 : Int32) (z : Int32 × Int32), f_X5_many_4 n x0 x1 x2 = some z → ∀ (H : Heap) (locs : List Loc) (ls : Array Slot), SR D s.heap [] H locs → lv_has ls 3 [(0, .int x0), (1, .int x1), (2, .int x2)] → (∀ (H : Heap) (locs : List Loc) (ls : Array Slot), SR D s.heap [] H locs → lv_has ls 3 [(0, .int x0), (1, .int z.1), (2, .int z.2)] → W p l e rm_X5_many s m args below meth c H locs 0 0 Q (F0 m 24 ls [])) → W p l e rm_X5_many s m args below meth c H locs 0 0 Q (F0 m 4 ls []) := by
  obtain ⟨hx, hb, hml, hown, hts, hK, hlk⟩ := id C
  intro n
  induction n with
  | zero => intro x0 x1 x2 z hf; rw [f_X5_many_4] at hf; cases hf
  | succ n ih =>
    intro x0 x1 x2 z hf H locs ls h hl kk
    rw [f_X5_many_4] at hf
    refine lv_iload_n (pc := 4) hx hb dX5_many_4 rfl (lv_at hl 2 rfl) ?_
    refine lv_bipush (pc := 5) (v := 8) hx hb dX5_many_5 (by decide) ?_
    refine lv_icmp_ge (pc := 7) (tgt := 24) hx hb dX5_many_7 (by decide) (fun c9 => ?_) (fun c9 => ?_)
    · have hf := ifT c9 hf
      have hf : some (x1, x2) = some z := hf
      cases hf
      exact kk _ _ _ h (lv_sub hl [0, 1, 2] rfl)
    · have hf := ifF c9 hf
      refine lv_iload_n (pc := 10) hx hb dX5_many_10 rfl (lv_at hl 1 rfl) ?_
      refine lv_iload_n (pc := 11) hx hb dX5_many_11 rfl (lv_at hl 0 rfl) ?_
      refine lv_iload_n (pc := 12) hx hb dX5_many_12 rfl (lv_at hl 2 rfl) ?_
      refine lv_ishr (pc := 13) hx hb dX5_many_13 ?_
      refine lv_iconst (pc := 14) (v := 1) hx hb dX5_many_14 (by decide) ?_
      refine lv_iand (pc := 15) hx hb dX5_many_15 ?_
      refine lv_iadd (pc := 16) hx hb dX5_many_16 ?_
      refine lv_istore_n (pc := 17) (lv' := [(1, .int (x1 + ((x0 >>> (x2 &&& 31)) &&& (1 : Int32)))), (0, .int x0), (2, .int x2)]) hx hb dX5_many_17 rfl hl (by decide) rfl (fun ls hl => ?_)
      refine lv_iinc (pc := 18) (v := (x2 + (1 : Int32))) (lv' := [(2, .int (x2 + (1 : Int32))), (1, .int (x1 + ((x0 >>> (x2 &&& 31)) &&& (1 : Int32)))), (0, .int x0)]) hx hb dX5_many_18 hl (k := 2) rfl rfl (by decide) rfl (fun ls hl => ?_)
      refine lv_goto (pc := 21) (tgt := 4) hx hb dX5_many_21 (by decide) ?_
      exact ih _ _ _ _ hf _ _ _ h (lv_sub hl [2, 1, 0] rfl) kk
set_option maxHeartbeats 400000 in
set_option maxRecDepth 100000 in
theorem k_X5_many {cA : Nat → ClassId} {D : va_G} (x0 : Int32) {z : Int32} (hf : f_X5_many x0 = some z) : CtR yX5_many cX5_many 3 (some .int) rm_X5_many [.int x0] D cA [] (some (.int z)) 0 0 := by
  refine ctR_of (by decide) (Nat.le_of_ble_eq_true rfl) ?_
  intro p l e s m below meth c ls C hr hnm h hl
  have C : Cx p s m _ meth c cX5_many 3 RX5 D cA := C
  obtain ⟨hx, hb, hml, hown, hts, hK, hlk⟩ := id C
  replace hl : lv_has ls 3 [(0, .int x0)] := hl
  rw [f_X5_many] at hf
  refine lv_iconst (pc := 0) (v := 0) hx hb dX5_many_0 (by decide) ?_
  refine lv_istore_n (pc := 1) (lv' := [(1, .int (0 : Int32)), (0, .int x0)]) hx hb dX5_many_1 rfl hl (by decide) rfl (fun ls hl => ?_)
  refine lv_iconst (pc := 2) (v := 0) hx hb dX5_many_2 (by decide) ?_
  refine lv_istore_n (pc := 3) (lv' := [(2, .int (0 : Int32)), (1, .int (0 : Int32)), (0, .int x0)]) hx hb dX5_many_3 rfl hl (by decide) rfl (fun ls hl => ?_)
  obtain ⟨z1, hc1, hf⟩ := bdS hf
  refine l_X5_many_4 C _ _ _ _ _ hc1 _ _ _ h (lv_sub hl [2, 1, 0] rfl) (fun H locs ls h hl => ?_)
  refine lv_iload_n (pc := 24) hx hb dX5_many_24 rfl (lv_at hl 1 rfl) ?_
  have hf : (some z1.1) = some z := hf
  cases hf
  exact ret_iR (pc := 25) C hr h dX5_many_25
abbrev rm_X5_all : Room := { frames := 0, cells := 0, slots := 0, locals := 0 }
def f_X5_all (σ : Nat → Nat → Int32) (x1 : Int32) : Option (Int32) := (if inb x1 6 then (some (((1 : Int32) <<< (((σ 2) x1.toNatClampNeg) &&& 31)) - (1 : Int32))) else none)
set_option maxHeartbeats 400000 in
set_option maxRecDepth 100000 in
theorem k_X5_all {q : Nat → Nat} {cA : Nat → ClassId} {D : va_G} (σ : Nat → Nat → Int32) (x1 : Int32) {z : Int32} (hf : f_X5_all σ x1 = some z) : CtR yX5_all cX5_all 2 (some .int) rm_X5_all [.ref (q 0), .int x1] D cA (mW q cA σ) (some (.int z)) 0 0 := by
  refine ctR_of (by decide) (Nat.le_of_ble_eq_true rfl) ?_
  intro p l e s m below meth c ls C hr hnm h hl
  have C : Cx p s m _ meth c cX5_all 2 RX5 D cA := C
  obtain ⟨hx, hb, hml, hown, hts, hK, hlk⟩ := id C
  replace hl : lv_has ls 2 [(0, .ref (q 0)), (1, .int x1)] := hl
  rw [f_X5_all] at hf
  refine lv_iconst (pc := 0) (v := 1) hx hb dX5_all_0 (by decide) ?_
  refine lv_aload_n (pc := 1) hx hb dX5_all_1 rfl (lv_at hl 0 rfl) ?_
  refine g_get (pc := 2) (v := .ref (q 1)) C h.1 0 (mW_c0 _ _ _) fl_X5_7 rfl dX5_all_2 ?_
  refine lv_iload_n (pc := 5) hx hb dX5_all_5 rfl (lv_at hl 1 rfl) ?_
  obtain ⟨hin, hf⟩ := ifS hf
  refine g_ild (pc := 6) (n := 6) (f := (σ 2)) C h.1 1 (mW_c1 _ _ _) hin dX5_all_6 ?_
  refine lv_ishl (pc := 7) hx hb dX5_all_7 ?_
  refine lv_iconst (pc := 8) (v := 1) hx hb dX5_all_8 (by decide) ?_
  refine lv_isub (pc := 9) hx hb dX5_all_9 ?_
  have hf : (some (((1 : Int32) <<< (((σ 2) x1.toNatClampNeg) &&& 31)) - (1 : Int32))) = some z := hf
  cases hf
  exact ret_iR (pc := 10) C hr h dX5_all_10
end
end
section
section
variable {p : Program} {l : Launch} {e : Env} {R : Room} {s : State} {m : MethodId} {args : Array Value} {below : List Frame} {meth : Method} {c : Code} {Q : State → Prop}
variable {D : va_G} {cA : Nat → ClassId} {A : Nat → Prop} {q : Nat → Nat}
abbrev rm_X5_opens : Room := { frames := 1, cells := 0, slots := 0, locals := 21 }
def f_X5_opens_2 : Nat → (Nat → Nat → Int32) → Int32 → Int32 → Int32 → Option ((Nat → Nat → Int32) × Int32)
  | 0, _, _, _, _ => none
  | n + 1, σ, x1, x2, x3 => (if inb x1 6 then (if ((σ 2) x1.toNatClampNeg) ≤ x3 then some (σ, x3) else (if (f_X5_has (σ 20 0) x3) = 0 then (if inb (((8 : Int32) * x1) + x3) 48 then (if (((σ 7) (((8 : Int32) * x1) + x3).toNatClampNeg) &&& ((σ 19 0) ^^^ (-1 : Int32))) = 0 then (if inb x3 8 then (lt (va_up σ 21 (upd (σ 21) x3.toNatClampNeg x2)) fun t5 => (lt (va_up t5 20 (fun _ => ((t5 20 0) ||| ((1 : Int32) <<< (x3 &&& 31))))) fun t6 => (f_X5_opens_2 n t6 x1 x2 (x3 + (1 : Int32))))) else none) else (if inb x3 8 then (if inb x3 8 then (lt (va_up σ 21 (upd (σ 21) x3.toNatClampNeg ((σ 21) x3.toNatClampNeg))) fun t3 => (lt (va_up t3 20 (fun _ => ((t3 20 0) ||| (0 : Int32)))) fun t4 => (f_X5_opens_2 n t4 x1 x2 (x3 + (1 : Int32))))) else none) else none)) else none) else (if inb x3 8 then (if inb x3 8 then (lt (va_up σ 21 (upd (σ 21) x3.toNatClampNeg ((σ 21) x3.toNatClampNeg))) fun t1 => (lt (va_up t1 20 (fun _ => ((t1 20 0) ||| (0 : Int32)))) fun t2 => (f_X5_opens_2 n t2 x1 x2 (x3 + (1 : Int32))))) else none) else none))) else none)
def f_X5_opens (σ : Nat → Nat → Int32) (x1 x2 : Int32) : Option ((Nat → Nat → Int32)) := ((f_X5_opens_2 FU σ x1 x2 (0 : Int32)).bind fun z7 => (some z7.1))
set_option maxHeartbeats 400000 in
set_option maxRecDepth 100000 in
theorem l_X5_opens_2 (C : Cx p s m args meth c cX5_opens 5 RX5 D cA) : ∀ (n : Nat) (σ : Nat → Nat → Int32) (x1 x2 x3 : Int32) (z : (Nat → Nat → Int32) × Int32), f_X5_opens_2 n σ x1 x2 x3 = some z → ∀ (H : Heap) (locs : List Loc) (ls : Array Slot), St D A s.heap (mW q cA σ) H locs → lv_has ls 5 [(0, .ref (q 0)), (1, .int x1), (2, .int x2), (3, .int x3)] → (∀ (H : Heap) (locs : List Loc) (ls : Array Slot), St D A s.heap (mW q cA z.1) H locs → lv_has ls 5 [(0, .ref (q 0)), (1, .int x1), (2, .int x2), (3, .int z.2)] → W p l e rm_X5_opens s m args below meth c H locs 0 0 Q (F0 m 99 ls [])) → W p l e rm_X5_opens s m args below meth c H locs 0 0 Q (F0 m 2 ls []) := by
  obtain ⟨hx, hb, hml, hown, hts, hK, hlk⟩ := id C
  intro n
  induction n with
  | zero => intro σ x1 x2 x3 z hf; rw [f_X5_opens_2] at hf; cases hf
  | succ n ih =>
    intro σ x1 x2 x3 z hf H locs ls h hl kk
    rw [f_X5_opens_2] at hf
    refine lv_iload_n (pc := 2) hx hb dX5_opens_2 rfl (lv_at hl 3 rfl) ?_
    refine lv_aload_n (pc := 3) hx hb dX5_opens_3 rfl (lv_at hl 0 rfl) ?_
    refine g_get (pc := 4) (v := .ref (q 1)) C h.1 0 (mW_c0 _ _ _) fl_X5_7 rfl dX5_opens_4 ?_
    refine lv_iload_n (pc := 7) hx hb dX5_opens_7 rfl (lv_at hl 1 rfl) ?_
    obtain ⟨hin, hf⟩ := ifS hf
    refine g_ild (pc := 8) (n := 6) (f := (σ 2)) C h.1 1 (mW_c1 _ _ _) hin dX5_opens_8 ?_
    refine lv_icmp_ge (pc := 9) (tgt := 99) hx hb dX5_opens_9 (by decide) (fun c9 => ?_) (fun c9 => ?_)
    · have hf := ifT c9 hf
      have hf : some (σ, x3) = some z := hf
      cases hf
      exact kk _ _ _ h (lv_sub hl [0, 1, 2, 3] rfl)
    · have hf := ifF c9 hf
      refine lv_aload_n (pc := 12) hx hb dX5_opens_12 rfl (lv_at hl 0 rfl) ?_
      refine g_get (pc := 13) (v := .int (σ 20 0)) C h.1 0 (mW_c0 _ _ _) fl_X5_82 rfl dX5_opens_13 ?_
      refine lv_iload_n (pc := 16) hx hb dX5_opens_16 rfl (lv_at hl 3 rfl) ?_
      refine call_SR (pc := 17) (As := [.int (σ 20 0), .int x3]) (rest := []) (wc := []) C h (k_X5_has (σ 20 0) x3 rfl) cw_X5_85 [] rfl rfl rfl rfl hl.1 (Nat.le_of_ble_eq_true rfl) dX5_opens_17 ⟨Nat.le_of_ble_eq_true rfl, Nat.le_of_ble_eq_true rfl⟩ rfl rfl ⟨Nat.le_of_ble_eq_true rfl, Nat.le_of_ble_eq_true rfl⟩ (fun H locs h => ?_)
      refine W.eq (g2 := F0 m 20 ls [.int (f_X5_has (σ 20 0) x3)]) rfl ?_
      refine lv_if_ne (pc := 20) (tgt := 48) hx hb dX5_opens_20 (by decide) (fun c9 => ?_) (fun c9 => ?_)
      · have hf := ifF c9 hf
        refine lv_iconst (pc := 48) (v := 0) hx hb dX5_opens_48 (by decide) ?_
        refine lv_istore (pc := 49) (lv' := [(4, .int (0 : Int32)), (0, .ref (q 0)), (1, .int x1), (2, .int x2), (3, .int x3)]) hx hb dX5_opens_49 hl (by decide) rfl (fun ls hl => ?_)
        refine lv_aload_n (pc := 51) hx hb dX5_opens_51 rfl (lv_at hl 1 rfl) ?_
        refine g_get (pc := 52) (v := .ref (q 17)) C h.1 0 (mW_c0 _ _ _) fl_X5_58 rfl dX5_opens_52 ?_
        refine lv_iload_n (pc := 55) hx hb dX5_opens_55 rfl (lv_at hl 4 rfl) ?_
        refine lv_iload (pc := 56) hx hb dX5_opens_56 (lv_at hl 0 rfl) ?_
        refine lv_if_eq (pc := 58) (tgt := 65) hx hb dX5_opens_58 (by decide) (fun _ => ?_) (fun c9 => absurd c9 (by decide))
        refine lv_aload_n (pc := 65) hx hb dX5_opens_65 rfl (lv_at hl 1 rfl) ?_
        refine g_get (pc := 66) (v := .ref (q 17)) C h.1 0 (mW_c0 _ _ _) fl_X5_58 rfl dX5_opens_66 ?_
        refine lv_iload_n (pc := 69) hx hb dX5_opens_69 rfl (lv_at hl 4 rfl) ?_
        obtain ⟨hin, hf⟩ := ifS hf
        refine g_ild (pc := 70) (n := 8) (f := (σ 21)) C h.1 17 (mW_c17 _ _ _) hin dX5_opens_70 ?_
        obtain ⟨hin, hf⟩ := ifS hf
        obtain ⟨t1, et1, hf⟩ := ltS hf
        refine g_ist (pc := 71) (n := 8) (f := (σ 21)) (ws' := (mW q cA t1)) C h 17 (mW_c17 _ _ _) hin ((mW_w17 _ _ _ _).trans (congrArg (mW q cA) et1.symm)) dX5_opens_71 (fun H locs h => ?_)
        refine lv_aload_n (pc := 72) hx hb dX5_opens_72 rfl (lv_at hl 1 rfl) ?_
        refine lv_dup (pc := 73) hx hb dX5_opens_73 rfl ?_
        refine g_get (pc := 74) (v := .int (t1 20 0)) C h.1 0 (mW_c0 _ _ _) fl_X5_82 rfl dX5_opens_74 ?_
        refine lv_iload (pc := 77) hx hb dX5_opens_77 (lv_at hl 0 rfl) ?_
        refine lv_if_eq (pc := 79) (tgt := 88) hx hb dX5_opens_79 (by decide) (fun _ => ?_) (fun c9 => absurd c9 (by decide))
        refine lv_iconst (pc := 88) (v := 0) hx hb dX5_opens_88 (by decide) ?_
        refine lv_ior (pc := 89) hx hb dX5_opens_89 ?_
        obtain ⟨t2, et2, hf⟩ := ltS hf
        refine g_puti (pc := 90) (v := ((t1 20 0) ||| (0 : Int32))) (ws' := (mW q cA t2)) C h 0 (mW_c0 _ _ _) fp_X5_82 (Nat.le_of_ble_eq_true rfl) ((mW_w0_20 _ _ _ _).trans (congrArg (mW q cA) et2.symm)) dX5_opens_90 (fun H locs h => ?_)
        refine lv_iinc (pc := 93) (v := (x3 + (1 : Int32))) (lv' := [(3, .int (x3 + (1 : Int32))), (4, .int (0 : Int32)), (0, .ref (q 0)), (1, .int x1), (2, .int x2)]) hx hb dX5_opens_93 hl (k := 4) rfl rfl (by decide) rfl (fun ls hl => ?_)
        refine lv_goto (pc := 96) (tgt := 2) hx hb dX5_opens_96 (by decide) ?_
        exact ih _ _ _ _ _ hf _ _ _ h (lv_sub hl [2, 3, 4, 0] rfl) kk
      · have hf := ifT c9 hf
        refine lv_aload_n (pc := 23) hx hb dX5_opens_23 rfl (lv_at hl 0 rfl) ?_
        refine g_get (pc := 24) (v := .ref (q 6)) C h.1 0 (mW_c0 _ _ _) fl_X5_25 rfl dX5_opens_24 ?_
        refine lv_bipush (pc := 27) (v := 8) hx hb dX5_opens_27 (by decide) ?_
        refine lv_iload_n (pc := 29) hx hb dX5_opens_29 rfl (lv_at hl 1 rfl) ?_
        refine lv_imul (pc := 30) hx hb dX5_opens_30 ?_
        refine lv_iload_n (pc := 31) hx hb dX5_opens_31 rfl (lv_at hl 3 rfl) ?_
        refine lv_iadd (pc := 32) hx hb dX5_opens_32 ?_
        obtain ⟨hin, hf⟩ := ifS hf
        refine g_ild (pc := 33) (n := 48) (f := (σ 7)) C h.1 6 (mW_c6 _ _ _) hin dX5_opens_33 ?_
        refine lv_aload_n (pc := 34) hx hb dX5_opens_34 rfl (lv_at hl 0 rfl) ?_
        refine g_get (pc := 35) (v := .int (σ 19 0)) C h.1 0 (mW_c0 _ _ _) fl_X5_89 rfl dX5_opens_35 ?_
        refine lv_iconst (pc := 38) (v := -1) hx hb dX5_opens_38 (by decide) ?_
        refine lv_ixor (pc := 39) hx hb dX5_opens_39 ?_
        refine lv_iand (pc := 40) hx hb dX5_opens_40 ?_
        refine lv_if_ne (pc := 41) (tgt := 48) hx hb dX5_opens_41 (by decide) (fun c9 => ?_) (fun c9 => ?_)
        · have hf := ifF c9 hf
          refine lv_iconst (pc := 48) (v := 0) hx hb dX5_opens_48 (by decide) ?_
          refine lv_istore (pc := 49) (lv' := [(4, .int (0 : Int32)), (0, .ref (q 0)), (1, .int x1), (2, .int x2), (3, .int x3)]) hx hb dX5_opens_49 hl (by decide) rfl (fun ls hl => ?_)
          refine lv_aload_n (pc := 51) hx hb dX5_opens_51 rfl (lv_at hl 1 rfl) ?_
          refine g_get (pc := 52) (v := .ref (q 17)) C h.1 0 (mW_c0 _ _ _) fl_X5_58 rfl dX5_opens_52 ?_
          refine lv_iload_n (pc := 55) hx hb dX5_opens_55 rfl (lv_at hl 4 rfl) ?_
          refine lv_iload (pc := 56) hx hb dX5_opens_56 (lv_at hl 0 rfl) ?_
          refine lv_if_eq (pc := 58) (tgt := 65) hx hb dX5_opens_58 (by decide) (fun _ => ?_) (fun c9 => absurd c9 (by decide))
          refine lv_aload_n (pc := 65) hx hb dX5_opens_65 rfl (lv_at hl 1 rfl) ?_
          refine g_get (pc := 66) (v := .ref (q 17)) C h.1 0 (mW_c0 _ _ _) fl_X5_58 rfl dX5_opens_66 ?_
          refine lv_iload_n (pc := 69) hx hb dX5_opens_69 rfl (lv_at hl 4 rfl) ?_
          obtain ⟨hin, hf⟩ := ifS hf
          refine g_ild (pc := 70) (n := 8) (f := (σ 21)) C h.1 17 (mW_c17 _ _ _) hin dX5_opens_70 ?_
          obtain ⟨hin, hf⟩ := ifS hf
          obtain ⟨t3, et3, hf⟩ := ltS hf
          refine g_ist (pc := 71) (n := 8) (f := (σ 21)) (ws' := (mW q cA t3)) C h 17 (mW_c17 _ _ _) hin ((mW_w17 _ _ _ _).trans (congrArg (mW q cA) et3.symm)) dX5_opens_71 (fun H locs h => ?_)
          refine lv_aload_n (pc := 72) hx hb dX5_opens_72 rfl (lv_at hl 1 rfl) ?_
          refine lv_dup (pc := 73) hx hb dX5_opens_73 rfl ?_
          refine g_get (pc := 74) (v := .int (t3 20 0)) C h.1 0 (mW_c0 _ _ _) fl_X5_82 rfl dX5_opens_74 ?_
          refine lv_iload (pc := 77) hx hb dX5_opens_77 (lv_at hl 0 rfl) ?_
          refine lv_if_eq (pc := 79) (tgt := 88) hx hb dX5_opens_79 (by decide) (fun _ => ?_) (fun c9 => absurd c9 (by decide))
          refine lv_iconst (pc := 88) (v := 0) hx hb dX5_opens_88 (by decide) ?_
          refine lv_ior (pc := 89) hx hb dX5_opens_89 ?_
          obtain ⟨t4, et4, hf⟩ := ltS hf
          refine g_puti (pc := 90) (v := ((t3 20 0) ||| (0 : Int32))) (ws' := (mW q cA t4)) C h 0 (mW_c0 _ _ _) fp_X5_82 (Nat.le_of_ble_eq_true rfl) ((mW_w0_20 _ _ _ _).trans (congrArg (mW q cA) et4.symm)) dX5_opens_90 (fun H locs h => ?_)
          refine lv_iinc (pc := 93) (v := (x3 + (1 : Int32))) (lv' := [(3, .int (x3 + (1 : Int32))), (4, .int (0 : Int32)), (0, .ref (q 0)), (1, .int x1), (2, .int x2)]) hx hb dX5_opens_93 hl (k := 4) rfl rfl (by decide) rfl (fun ls hl => ?_)
          refine lv_goto (pc := 96) (tgt := 2) hx hb dX5_opens_96 (by decide) ?_
          exact ih _ _ _ _ _ hf _ _ _ h (lv_sub hl [2, 3, 4, 0] rfl) kk
        · have hf := ifT c9 hf
          refine lv_iconst (pc := 44) (v := 1) hx hb dX5_opens_44 (by decide) ?_
          refine lv_goto (pc := 45) (tgt := 49) hx hb dX5_opens_45 (by decide) ?_
          refine lv_istore (pc := 49) (lv' := [(4, .int (1 : Int32)), (0, .ref (q 0)), (1, .int x1), (2, .int x2), (3, .int x3)]) hx hb dX5_opens_49 hl (by decide) rfl (fun ls hl => ?_)
          refine lv_aload_n (pc := 51) hx hb dX5_opens_51 rfl (lv_at hl 1 rfl) ?_
          refine g_get (pc := 52) (v := .ref (q 17)) C h.1 0 (mW_c0 _ _ _) fl_X5_58 rfl dX5_opens_52 ?_
          refine lv_iload_n (pc := 55) hx hb dX5_opens_55 rfl (lv_at hl 4 rfl) ?_
          refine lv_iload (pc := 56) hx hb dX5_opens_56 (lv_at hl 0 rfl) ?_
          refine lv_if_eq (pc := 58) (tgt := 65) hx hb dX5_opens_58 (by decide) (fun c9 => absurd c9 (by decide)) (fun _ => ?_)
          refine lv_iload_n (pc := 61) hx hb dX5_opens_61 rfl (lv_at hl 3 rfl) ?_
          refine lv_goto (pc := 62) (tgt := 71) hx hb dX5_opens_62 (by decide) ?_
          obtain ⟨hin, hf⟩ := ifS hf
          obtain ⟨t5, et5, hf⟩ := ltS hf
          refine g_ist (pc := 71) (n := 8) (f := (σ 21)) (ws' := (mW q cA t5)) C h 17 (mW_c17 _ _ _) hin ((mW_w17 _ _ _ _).trans (congrArg (mW q cA) et5.symm)) dX5_opens_71 (fun H locs h => ?_)
          refine lv_aload_n (pc := 72) hx hb dX5_opens_72 rfl (lv_at hl 1 rfl) ?_
          refine lv_dup (pc := 73) hx hb dX5_opens_73 rfl ?_
          refine g_get (pc := 74) (v := .int (t5 20 0)) C h.1 0 (mW_c0 _ _ _) fl_X5_82 rfl dX5_opens_74 ?_
          refine lv_iload (pc := 77) hx hb dX5_opens_77 (lv_at hl 0 rfl) ?_
          refine lv_if_eq (pc := 79) (tgt := 88) hx hb dX5_opens_79 (by decide) (fun c9 => absurd c9 (by decide)) (fun _ => ?_)
          refine lv_iconst (pc := 82) (v := 1) hx hb dX5_opens_82 (by decide) ?_
          refine lv_iload_n (pc := 83) hx hb dX5_opens_83 rfl (lv_at hl 4 rfl) ?_
          refine lv_ishl (pc := 84) hx hb dX5_opens_84 ?_
          refine lv_goto (pc := 85) (tgt := 89) hx hb dX5_opens_85 (by decide) ?_
          refine lv_ior (pc := 89) hx hb dX5_opens_89 ?_
          obtain ⟨t6, et6, hf⟩ := ltS hf
          refine g_puti (pc := 90) (v := ((t5 20 0) ||| ((1 : Int32) <<< (x3 &&& 31)))) (ws' := (mW q cA t6)) C h 0 (mW_c0 _ _ _) fp_X5_82 (Nat.le_of_ble_eq_true rfl) ((mW_w0_20 _ _ _ _).trans (congrArg (mW q cA) et6.symm)) dX5_opens_90 (fun H locs h => ?_)
          refine lv_iinc (pc := 93) (v := (x3 + (1 : Int32))) (lv' := [(3, .int (x3 + (1 : Int32))), (4, .int (1 : Int32)), (0, .ref (q 0)), (1, .int x1), (2, .int x2)]) hx hb dX5_opens_93 hl (k := 4) rfl rfl (by decide) rfl (fun ls hl => ?_)
          refine lv_goto (pc := 96) (tgt := 2) hx hb dX5_opens_96 (by decide) ?_
          exact ih _ _ _ _ _ hf _ _ _ h (lv_sub hl [2, 3, 4, 0] rfl) kk
set_option maxHeartbeats 400000 in
set_option maxRecDepth 100000 in
theorem k_X5_opens {q : Nat → Nat} {cA : Nat → ClassId} {D : va_G} (σ : Nat → Nat → Int32) (x1 x2 : Int32) {z : (Nat → Nat → Int32)} (hf : f_X5_opens σ x1 x2 = some z) : CtU yX5_opens cX5_opens 5 none rm_X5_opens [.ref (q 0), .int x1, .int x2] D cA (mW q cA σ) (mW q cA z) none 0 0 := by
  refine ctU_of (by decide) (Nat.le_of_ble_eq_true rfl) ?_
  intro p l e s m below meth c ls C hr hnm h hl
  have C : Cx p s m _ meth c cX5_opens 5 RX5 D cA := C
  obtain ⟨hx, hb, hml, hown, hts, hK, hlk⟩ := id C
  replace hl : lv_has ls 5 [(0, .ref (q 0)), (1, .int x1), (2, .int x2)] := hl
  rw [f_X5_opens] at hf
  refine lv_iconst (pc := 0) (v := 0) hx hb dX5_opens_0 (by decide) ?_
  refine lv_istore_n (pc := 1) (lv' := [(3, .int (0 : Int32)), (0, .ref (q 0)), (1, .int x1), (2, .int x2)]) hx hb dX5_opens_1 rfl hl (by decide) rfl (fun ls hl => ?_)
  obtain ⟨z7, hc7, hf⟩ := bdS hf
  refine l_X5_opens_2 C _ _ _ _ _ _ hc7 _ _ _ h (lv_sub hl [1, 2, 3, 0] rfl) (fun H locs ls h hl => ?_)
  have hf : (some z7.1) = some z := hf
  cases hf
  exact ret_vU (pc := 99) C hr h dX5_opens_99
abbrev rm_X5_ends : Room := { frames := 0, cells := 0, slots := 0, locals := 0 }
def f_X5_ends (x0 : Int32) : Int32 := (if x0 = (3 : Int32) then (3 : Int32) else (if x0 = (4 : Int32) then (4 : Int32) else (5 : Int32)))
set_option maxHeartbeats 400000 in
set_option maxRecDepth 100000 in
theorem k_X5_ends {cA : Nat → ClassId} {D : va_G} (x0 : Int32) {z : Int32} (hf : f_X5_ends x0 = z) : CtR yX5_ends cX5_ends 1 (some .int) rm_X5_ends [.int x0] D cA [] (some (.int z)) 0 0 := by
  refine ctR_of (by decide) (Nat.le_of_ble_eq_true rfl) ?_
  intro p l e s m below meth c ls C hr hnm h hl
  have C : Cx p s m _ meth c cX5_ends 1 RX5 D cA := C
  obtain ⟨hx, hb, hml, hown, hts, hK, hlk⟩ := id C
  replace hl : lv_has ls 1 [(0, .int x0)] := hl
  rw [f_X5_ends] at hf
  refine lv_iload_n (pc := 0) hx hb dX5_ends_0 rfl (lv_at hl 0 rfl) ?_
  refine lv_iconst (pc := 1) (v := 3) hx hb dX5_ends_1 (by decide) ?_
  refine lv_icmp_ne (pc := 2) (tgt := 9) hx hb dX5_ends_2 (by decide) (fun c9 => ?_) (fun c9 => ?_)
  · have hf := ifF c9 hf
    refine lv_iload_n (pc := 9) hx hb dX5_ends_9 rfl (lv_at hl 0 rfl) ?_
    refine lv_iconst (pc := 10) (v := 4) hx hb dX5_ends_10 (by decide) ?_
    refine lv_icmp_ne (pc := 11) (tgt := 18) hx hb dX5_ends_11 (by decide) (fun c9 => ?_) (fun c9 => ?_)
    · have hf := ifF c9 hf
      refine lv_iconst (pc := 18) (v := 5) hx hb dX5_ends_18 (by decide) ?_
      have hf : (5 : Int32) = z := hf
      subst hf
      exact ret_iR (pc := 19) C hr h dX5_ends_19
    · have hf := ifT c9 hf
      refine lv_iconst (pc := 14) (v := 4) hx hb dX5_ends_14 (by decide) ?_
      refine lv_goto (pc := 15) (tgt := 19) hx hb dX5_ends_15 (by decide) ?_
      have hf : (4 : Int32) = z := hf
      subst hf
      exact ret_iR (pc := 19) C hr h dX5_ends_19
  · have hf := ifT c9 hf
    refine lv_iconst (pc := 5) (v := 3) hx hb dX5_ends_5 (by decide) ?_
    refine lv_goto (pc := 6) (tgt := 19) hx hb dX5_ends_6 (by decide) ?_
    have hf : (3 : Int32) = z := hf
    subst hf
    exact ret_iR (pc := 19) C hr h dX5_ends_19
abbrev rm_X5_tells : Room := { frames := 2, cells := 0, slots := 0, locals := 45 }
def f_X5_tells_17 : Nat → (Nat → Nat → Int32) → Int32 → Int32 → Int32 → Option ((Nat → Nat → Int32) × Int32)
  | 0, _, _, _, _ => none
  | n + 1, σ, x1, x2, x3 => (if (8 : Int32) ≤ x3 then some (σ, x3) else (if inb x3 8 then (lt (va_up σ 22 (upd (σ 22) x3.toNatClampNeg (0 : Int32))) fun t4 => (f_X5_tells_17 n t4 x1 x2 (x3 + (1 : Int32)))) else none))
def f_X5_tells_41 : Nat → (Nat → Nat → Int32) → Int32 → Int32 → Int32 → Option ((Nat → Nat → Int32) × Int32)
  | 0, _, _, _, _ => none
  | n + 1, σ, x1, x2, x3 => (if (((50 : Int32) * x1) + x2) ≤ x3 then some (σ, x3) else (if inb x3 300 then (if ((σ 8) x3.toNatClampNeg) = 0 then (lt (va_up σ 18 (fun _ => (1 : Int32))) fun t18 => (if inb x3 300 then ((f_X5_opens t18 x1 ((t18 11) x3.toNatClampNeg)).bind fun z19 => (f_X5_tells_41 n z19 x1 x2 (x3 + (1 : Int32)))) else none)) else (if inb x3 300 then (if ((σ 8) x3.toNatClampNeg) = (1 : Int32) then (if inb x3 300 then (lt (va_up σ 19 (fun _ => ((σ 19 0) ||| ((1 : Int32) <<< (((σ 10) x3.toNatClampNeg) &&& 31))))) fun t6 => (if inb x3 300 then ((f_X5_opens t6 x1 ((t6 11) x3.toNatClampNeg)).bind fun z7 => ((f_X5_all z7 x1).bind fun z8 => (if (z7 19 0) = z8 then (lt (va_up z7 18 (fun _ => (2 : Int32))) fun t10 => (f_X5_tells_41 n t10 x1 x2 (x3 + (1 : Int32)))) else (lt (va_up z7 18 (fun _ => (1 : Int32))) fun t9 => (f_X5_tells_41 n t9 x1 x2 (x3 + (1 : Int32))))))) else none)) else none) else (if inb x3 300 then (if ((σ 8) x3.toNatClampNeg) = (2 : Int32) then (if inb x3 300 then (lt (va_up σ 19 (fun _ => ((σ 19 0) ||| ((1 : Int32) <<< (((σ 10) x3.toNatClampNeg) &&& 31))))) fun t13 => (if inb x3 300 then ((f_X5_opens t13 x1 ((t13 11) x3.toNatClampNeg)).bind fun z14 => ((f_X5_all z14 x1).bind fun z15 => (if (z14 19 0) = z15 then (lt (va_up z14 18 (fun _ => (2 : Int32))) fun t17 => (f_X5_tells_41 n t17 x1 x2 (x3 + (1 : Int32)))) else (lt (va_up z14 18 (fun _ => (1 : Int32))) fun t16 => (f_X5_tells_41 n t16 x1 x2 (x3 + (1 : Int32))))))) else none)) else none) else (if inb x3 300 then (if ((σ 8) x3.toNatClampNeg) = (6 : Int32) then (if inb x3 300 then (if inb ((σ 10) x3.toNatClampNeg) 8 then (if inb ((σ 10) x3.toNatClampNeg) 8 then (lt (va_up σ 22 (upd (σ 22) ((σ 10) x3.toNatClampNeg).toNatClampNeg (((σ 22) ((σ 10) x3.toNatClampNeg).toNatClampNeg) + (1 : Int32)))) fun t12 => (f_X5_tells_41 n t12 x1 x2 (x3 + (1 : Int32)))) else none) else none) else none) else (if inb x3 300 then (lt (va_up σ 18 (fun _ => (f_X5_ends ((σ 8) x3.toNatClampNeg)))) fun t11 => (f_X5_tells_41 n t11 x1 x2 (x3 + (1 : Int32)))) else none)) else none)) else none)) else none)) else none))
def f_X5_tells (σ : Nat → Nat → Int32) (x1 x2 : Int32) : Option ((Nat → Nat → Int32)) := (lt (va_up σ 18 (fun _ => (0 : Int32))) fun t1 => (lt (va_up t1 19 (fun _ => (0 : Int32))) fun t2 => (lt (va_up t2 20 (fun _ => (0 : Int32))) fun t3 => ((f_X5_tells_17 FU t3 x1 x2 (0 : Int32)).bind fun z5 => ((f_X5_tells_41 FU z5.1 x1 x2 ((50 : Int32) * x1)).bind fun z20 => (some z20.1))))))
set_option maxHeartbeats 400000 in
set_option maxRecDepth 100000 in
theorem l_X5_tells_17 (C : Cx p s m args meth c cX5_tells 4 RX5 D cA) : ∀ (n : Nat) (σ : Nat → Nat → Int32) (x1 x2 x3 : Int32) (z : (Nat → Nat → Int32) × Int32), f_X5_tells_17 n σ x1 x2 x3 = some z → ∀ (H : Heap) (locs : List Loc) (ls : Array Slot), St D A s.heap (mW q cA σ) H locs → lv_has ls 4 [(0, .ref (q 0)), (1, .int x1), (2, .int x2), (3, .int x3)] → (∀ (H : Heap) (locs : List Loc) (ls : Array Slot), St D A s.heap (mW q cA z.1) H locs → lv_has ls 4 [(0, .ref (q 0)), (1, .int x1), (2, .int x2), (3, .int z.2)] → W p l e rm_X5_tells s m args below meth c H locs 0 0 Q (F0 m 36 ls [])) → W p l e rm_X5_tells s m args below meth c H locs 0 0 Q (F0 m 17 ls []) := by
  obtain ⟨hx, hb, hml, hown, hts, hK, hlk⟩ := id C
  intro n
  induction n with
  | zero => intro σ x1 x2 x3 z hf; rw [f_X5_tells_17] at hf; cases hf
  | succ n ih =>
    intro σ x1 x2 x3 z hf H locs ls h hl kk
    rw [f_X5_tells_17] at hf
    refine lv_iload_n (pc := 17) hx hb dX5_tells_17 rfl (lv_at hl 3 rfl) ?_
    refine lv_bipush (pc := 18) (v := 8) hx hb dX5_tells_18 (by decide) ?_
    refine lv_icmp_ge (pc := 20) (tgt := 36) hx hb dX5_tells_20 (by decide) (fun c9 => ?_) (fun c9 => ?_)
    · have hf := ifT c9 hf
      have hf : some (σ, x3) = some z := hf
      cases hf
      exact kk _ _ _ h (lv_sub hl [0, 1, 2, 3] rfl)
    · have hf := ifF c9 hf
      refine lv_aload_n (pc := 23) hx hb dX5_tells_23 rfl (lv_at hl 0 rfl) ?_
      refine g_get (pc := 24) (v := .ref (q 18)) C h.1 0 (mW_c0 _ _ _) fl_X5_61 rfl dX5_tells_24 ?_
      refine lv_iload_n (pc := 27) hx hb dX5_tells_27 rfl (lv_at hl 3 rfl) ?_
      refine lv_iconst (pc := 28) (v := 0) hx hb dX5_tells_28 (by decide) ?_
      obtain ⟨hin, hf⟩ := ifS hf
      obtain ⟨t4, et4, hf⟩ := ltS hf
      refine g_ist (pc := 29) (n := 8) (f := (σ 22)) (ws' := (mW q cA t4)) C h 18 (mW_c18 _ _ _) hin ((mW_w18 _ _ _ _).trans (congrArg (mW q cA) et4.symm)) dX5_tells_29 (fun H locs h => ?_)
      refine lv_iinc (pc := 30) (v := (x3 + (1 : Int32))) (lv' := [(3, .int (x3 + (1 : Int32))), (0, .ref (q 0)), (1, .int x1), (2, .int x2)]) hx hb dX5_tells_30 hl (k := 3) rfl rfl (by decide) rfl (fun ls hl => ?_)
      refine lv_goto (pc := 33) (tgt := 17) hx hb dX5_tells_33 (by decide) ?_
      exact ih _ _ _ _ _ hf _ _ _ h (lv_sub hl [1, 2, 3, 0] rfl) kk
set_option maxHeartbeats 400000 in
set_option maxRecDepth 100000 in
theorem l_X5_tells_41 (C : Cx p s m args meth c cX5_tells 4 RX5 D cA) : ∀ (n : Nat) (σ : Nat → Nat → Int32) (x1 x2 x3 : Int32) (z : (Nat → Nat → Int32) × Int32), f_X5_tells_41 n σ x1 x2 x3 = some z → ∀ (H : Heap) (locs : List Loc) (ls : Array Slot), St D A s.heap (mW q cA σ) H locs → lv_has ls 4 [(0, .ref (q 0)), (1, .int x1), (2, .int x2), (3, .int x3)] → (∀ (H : Heap) (locs : List Loc) (ls : Array Slot), St D A s.heap (mW q cA z.1) H locs → lv_has ls 4 [(0, .ref (q 0)), (1, .int x1), (2, .int x2), (3, .int z.2)] → W p l e rm_X5_tells s m args below meth c H locs 0 0 Q (F0 m 199 ls [])) → W p l e rm_X5_tells s m args below meth c H locs 0 0 Q (F0 m 41 ls []) := by
  obtain ⟨hx, hb, hml, hown, hts, hK, hlk⟩ := id C
  intro n
  induction n with
  | zero => intro σ x1 x2 x3 z hf; rw [f_X5_tells_41] at hf; cases hf
  | succ n ih =>
    intro σ x1 x2 x3 z hf H locs ls h hl kk
    rw [f_X5_tells_41] at hf
    refine lv_iload_n (pc := 41) hx hb dX5_tells_41 rfl (lv_at hl 3 rfl) ?_
    refine lv_bipush (pc := 42) (v := 50) hx hb dX5_tells_42 (by decide) ?_
    refine lv_iload_n (pc := 44) hx hb dX5_tells_44 rfl (lv_at hl 1 rfl) ?_
    refine lv_imul (pc := 45) hx hb dX5_tells_45 ?_
    refine lv_iload_n (pc := 46) hx hb dX5_tells_46 rfl (lv_at hl 2 rfl) ?_
    refine lv_iadd (pc := 47) hx hb dX5_tells_47 ?_
    refine lv_icmp_ge (pc := 48) (tgt := 199) hx hb dX5_tells_48 (by decide) (fun c9 => ?_) (fun c9 => ?_)
    · have hf := ifT c9 hf
      have hf : some (σ, x3) = some z := hf
      cases hf
      exact kk _ _ _ h (lv_sub hl [0, 1, 2, 3] rfl)
    · have hf := ifF c9 hf
      refine lv_aload_n (pc := 51) hx hb dX5_tells_51 rfl (lv_at hl 0 rfl) ?_
      refine g_get (pc := 52) (v := .ref (q 7)) C h.1 0 (mW_c0 _ _ _) fl_X5_28 rfl dX5_tells_52 ?_
      refine lv_iload_n (pc := 55) hx hb dX5_tells_55 rfl (lv_at hl 3 rfl) ?_
      obtain ⟨hin, hf⟩ := ifS hf
      refine g_ild (pc := 56) (n := 300) (f := (σ 8)) C h.1 7 (mW_c7 _ _ _) hin dX5_tells_56 ?_
      refine lv_if_ne (pc := 57) (tgt := 79) hx hb dX5_tells_57 (by decide) (fun c9 => ?_) (fun c9 => ?_)
      · have hf := ifF c9 hf
        refine lv_aload_n (pc := 79) hx hb dX5_tells_79 rfl (lv_at hl 0 rfl) ?_
        refine g_get (pc := 80) (v := .ref (q 7)) C h.1 0 (mW_c0 _ _ _) fl_X5_28 rfl dX5_tells_80 ?_
        refine lv_iload_n (pc := 83) hx hb dX5_tells_83 rfl (lv_at hl 3 rfl) ?_
        obtain ⟨hin, hf⟩ := ifS hf
        refine g_ild (pc := 84) (n := 300) (f := (σ 8)) C h.1 7 (mW_c7 _ _ _) hin dX5_tells_84 ?_
        refine lv_iconst (pc := 85) (v := 1) hx hb dX5_tells_85 (by decide) ?_
        refine lv_icmp_eq (pc := 86) (tgt := 99) hx hb dX5_tells_86 (by decide) (fun c9 => ?_) (fun c9 => ?_)
        · have hf := ifT c9 hf
          refine lv_aload_n (pc := 99) hx hb dX5_tells_99 rfl (lv_at hl 0 rfl) ?_
          refine lv_dup (pc := 100) hx hb dX5_tells_100 rfl ?_
          refine g_get (pc := 101) (v := .int (σ 19 0)) C h.1 0 (mW_c0 _ _ _) fl_X5_89 rfl dX5_tells_101 ?_
          refine lv_iconst (pc := 104) (v := 1) hx hb dX5_tells_104 (by decide) ?_
          refine lv_aload_n (pc := 105) hx hb dX5_tells_105 rfl (lv_at hl 0 rfl) ?_
          refine g_get (pc := 106) (v := .ref (q 9)) C h.1 0 (mW_c0 _ _ _) fl_X5_34 rfl dX5_tells_106 ?_
          refine lv_iload_n (pc := 109) hx hb dX5_tells_109 rfl (lv_at hl 3 rfl) ?_
          obtain ⟨hin, hf⟩ := ifS hf
          refine g_ild (pc := 110) (n := 300) (f := (σ 10)) C h.1 9 (mW_c9 _ _ _) hin dX5_tells_110 ?_
          refine lv_ishl (pc := 111) hx hb dX5_tells_111 ?_
          refine lv_ior (pc := 112) hx hb dX5_tells_112 ?_
          obtain ⟨t6, et6, hf⟩ := ltS hf
          refine g_puti (pc := 113) (v := ((σ 19 0) ||| ((1 : Int32) <<< (((σ 10) x3.toNatClampNeg) &&& 31)))) (ws' := (mW q cA t6)) C h 0 (mW_c0 _ _ _) fp_X5_89 (Nat.le_of_ble_eq_true rfl) ((mW_w0_19 _ _ _ _).trans (congrArg (mW q cA) et6.symm)) dX5_tells_113 (fun H locs h => ?_)
          refine lv_aload_n (pc := 116) hx hb dX5_tells_116 rfl (lv_at hl 0 rfl) ?_
          refine lv_iload_n (pc := 117) hx hb dX5_tells_117 rfl (lv_at hl 1 rfl) ?_
          refine lv_aload_n (pc := 118) hx hb dX5_tells_118 rfl (lv_at hl 0 rfl) ?_
          refine g_get (pc := 119) (v := .ref (q 10)) C h.1 0 (mW_c0 _ _ _) fl_X5_37 rfl dX5_tells_119 ?_
          refine lv_iload_n (pc := 122) hx hb dX5_tells_122 rfl (lv_at hl 3 rfl) ?_
          obtain ⟨hin, hf⟩ := ifS hf
          refine g_ild (pc := 123) (n := 300) (f := (t6 11)) C h.1 10 (mW_c10 _ _ _) hin dX5_tells_123 ?_
          obtain ⟨z7, hc7, hf⟩ := bdS hf
          refine call_VUs (pc := 124) (As := [.int x1, .int ((t6 11) x3.toNatClampNeg)]) (rest := []) C h (k_X5_opens t6 x1 ((t6 11) x3.toNatClampNeg) hc7) cw_X5_95 0 (mW_c0 _ _ _) rfl (mW_fst _ _ _ _) rfl rfl hl.1 (Nat.le_of_ble_eq_true rfl) dX5_tells_124 ⟨Nat.le_of_ble_eq_true rfl, Nat.le_of_ble_eq_true rfl⟩ rfl rfl ⟨Nat.le_of_ble_eq_true rfl, Nat.le_of_ble_eq_true rfl⟩ (fun H locs h => ?_)
          refine W.eq (g2 := F0 m 127 ls []) rfl ?_
          refine lv_aload_n (pc := 127) hx hb dX5_tells_127 rfl (lv_at hl 0 rfl) ?_
          refine lv_aload_n (pc := 128) hx hb dX5_tells_128 rfl (lv_at hl 0 rfl) ?_
          refine g_get (pc := 129) (v := .int (z7 19 0)) C h.1 0 (mW_c0 _ _ _) fl_X5_89 rfl dX5_tells_129 ?_
          refine lv_aload_n (pc := 132) hx hb dX5_tells_132 rfl (lv_at hl 0 rfl) ?_
          refine lv_iload_n (pc := 133) hx hb dX5_tells_133 rfl (lv_at hl 1 rfl) ?_
          obtain ⟨z8, hc8, hf⟩ := bdS hf
          refine call_VRs (pc := 134) (As := [.int x1]) (rest := [.int (z7 19 0), .ref (q 0)]) C h (k_X5_all z7 x1 hc8) cw_X5_99 0 (mW_c0 _ _ _) rfl rfl rfl hl.1 (Nat.le_of_ble_eq_true rfl) dX5_tells_134 ⟨Nat.le_of_ble_eq_true rfl, Nat.le_of_ble_eq_true rfl⟩ rfl rfl ⟨Nat.le_of_ble_eq_true rfl, Nat.le_of_ble_eq_true rfl⟩ (fun H locs h => ?_)
          refine W.eq (g2 := F0 m 137 ls [.int z8, .int (z7 19 0), .ref (q 0)]) rfl ?_
          refine lv_icmp_ne (pc := 137) (tgt := 144) hx hb dX5_tells_137 (by decide) (fun c9 => ?_) (fun c9 => ?_)
          · have hf := ifF c9 hf
            refine lv_iconst (pc := 144) (v := 1) hx hb dX5_tells_144 (by decide) ?_
            obtain ⟨t9, et9, hf⟩ := ltS hf
            refine g_puti (pc := 145) (v := (1 : Int32)) (ws' := (mW q cA t9)) C h 0 (mW_c0 _ _ _) fp_X5_92 (Nat.le_of_ble_eq_true rfl) ((mW_w0_18 _ _ _ _).trans (congrArg (mW q cA) et9.symm)) dX5_tells_145 (fun H locs h => ?_)
            refine lv_goto (pc := 148) (tgt := 193) hx hb dX5_tells_148 (by decide) ?_
            refine lv_iinc (pc := 193) (v := (x3 + (1 : Int32))) (lv' := [(3, .int (x3 + (1 : Int32))), (0, .ref (q 0)), (1, .int x1), (2, .int x2)]) hx hb dX5_tells_193 hl (k := 3) rfl rfl (by decide) rfl (fun ls hl => ?_)
            refine lv_goto (pc := 196) (tgt := 41) hx hb dX5_tells_196 (by decide) ?_
            exact ih _ _ _ _ _ hf _ _ _ h (lv_sub hl [1, 2, 3, 0] rfl) kk
          · have hf := ifT c9 hf
            refine lv_iconst (pc := 140) (v := 2) hx hb dX5_tells_140 (by decide) ?_
            refine lv_goto (pc := 141) (tgt := 145) hx hb dX5_tells_141 (by decide) ?_
            obtain ⟨t10, et10, hf⟩ := ltS hf
            refine g_puti (pc := 145) (v := (2 : Int32)) (ws' := (mW q cA t10)) C h 0 (mW_c0 _ _ _) fp_X5_92 (Nat.le_of_ble_eq_true rfl) ((mW_w0_18 _ _ _ _).trans (congrArg (mW q cA) et10.symm)) dX5_tells_145 (fun H locs h => ?_)
            refine lv_goto (pc := 148) (tgt := 193) hx hb dX5_tells_148 (by decide) ?_
            refine lv_iinc (pc := 193) (v := (x3 + (1 : Int32))) (lv' := [(3, .int (x3 + (1 : Int32))), (0, .ref (q 0)), (1, .int x1), (2, .int x2)]) hx hb dX5_tells_193 hl (k := 3) rfl rfl (by decide) rfl (fun ls hl => ?_)
            refine lv_goto (pc := 196) (tgt := 41) hx hb dX5_tells_196 (by decide) ?_
            exact ih _ _ _ _ _ hf _ _ _ h (lv_sub hl [1, 2, 3, 0] rfl) kk
        · have hf := ifF c9 hf
          refine lv_aload_n (pc := 89) hx hb dX5_tells_89 rfl (lv_at hl 0 rfl) ?_
          refine g_get (pc := 90) (v := .ref (q 7)) C h.1 0 (mW_c0 _ _ _) fl_X5_28 rfl dX5_tells_90 ?_
          refine lv_iload_n (pc := 93) hx hb dX5_tells_93 rfl (lv_at hl 3 rfl) ?_
          obtain ⟨hin, hf⟩ := ifS hf
          refine g_ild (pc := 94) (n := 300) (f := (σ 8)) C h.1 7 (mW_c7 _ _ _) hin dX5_tells_94 ?_
          refine lv_iconst (pc := 95) (v := 2) hx hb dX5_tells_95 (by decide) ?_
          refine lv_icmp_ne (pc := 96) (tgt := 151) hx hb dX5_tells_96 (by decide) (fun c9 => ?_) (fun c9 => ?_)
          · have hf := ifF c9 hf
            refine lv_aload_n (pc := 151) hx hb dX5_tells_151 rfl (lv_at hl 0 rfl) ?_
            refine g_get (pc := 152) (v := .ref (q 7)) C h.1 0 (mW_c0 _ _ _) fl_X5_28 rfl dX5_tells_152 ?_
            refine lv_iload_n (pc := 155) hx hb dX5_tells_155 rfl (lv_at hl 3 rfl) ?_
            obtain ⟨hin, hf⟩ := ifS hf
            refine g_ild (pc := 156) (n := 300) (f := (σ 8)) C h.1 7 (mW_c7 _ _ _) hin dX5_tells_156 ?_
            refine lv_bipush (pc := 157) (v := 6) hx hb dX5_tells_157 (by decide) ?_
            refine lv_icmp_ne (pc := 159) (tgt := 180) hx hb dX5_tells_159 (by decide) (fun c9 => ?_) (fun c9 => ?_)
            · have hf := ifF c9 hf
              refine lv_aload_n (pc := 180) hx hb dX5_tells_180 rfl (lv_at hl 0 rfl) ?_
              refine lv_aload_n (pc := 181) hx hb dX5_tells_181 rfl (lv_at hl 0 rfl) ?_
              refine g_get (pc := 182) (v := .ref (q 7)) C h.1 0 (mW_c0 _ _ _) fl_X5_28 rfl dX5_tells_182 ?_
              refine lv_iload_n (pc := 185) hx hb dX5_tells_185 rfl (lv_at hl 3 rfl) ?_
              obtain ⟨hin, hf⟩ := ifS hf
              refine g_ild (pc := 186) (n := 300) (f := (σ 8)) C h.1 7 (mW_c7 _ _ _) hin dX5_tells_186 ?_
              refine call_SR (pc := 187) (As := [.int ((σ 8) x3.toNatClampNeg)]) (rest := [.ref (q 0)]) (wc := []) C h (k_X5_ends ((σ 8) x3.toNatClampNeg) rfl) cw_X5_103 [] rfl rfl rfl rfl hl.1 (Nat.le_of_ble_eq_true rfl) dX5_tells_187 ⟨Nat.le_of_ble_eq_true rfl, Nat.le_of_ble_eq_true rfl⟩ rfl rfl ⟨Nat.le_of_ble_eq_true rfl, Nat.le_of_ble_eq_true rfl⟩ (fun H locs h => ?_)
              refine W.eq (g2 := F0 m 190 ls [.int (f_X5_ends ((σ 8) x3.toNatClampNeg)), .ref (q 0)]) rfl ?_
              obtain ⟨t11, et11, hf⟩ := ltS hf
              refine g_puti (pc := 190) (v := (f_X5_ends ((σ 8) x3.toNatClampNeg))) (ws' := (mW q cA t11)) C h 0 (mW_c0 _ _ _) fp_X5_92 (Nat.le_of_ble_eq_true rfl) ((mW_w0_18 _ _ _ _).trans (congrArg (mW q cA) et11.symm)) dX5_tells_190 (fun H locs h => ?_)
              refine lv_iinc (pc := 193) (v := (x3 + (1 : Int32))) (lv' := [(3, .int (x3 + (1 : Int32))), (0, .ref (q 0)), (1, .int x1), (2, .int x2)]) hx hb dX5_tells_193 hl (k := 3) rfl rfl (by decide) rfl (fun ls hl => ?_)
              refine lv_goto (pc := 196) (tgt := 41) hx hb dX5_tells_196 (by decide) ?_
              exact ih _ _ _ _ _ hf _ _ _ h (lv_sub hl [1, 2, 3, 0] rfl) kk
            · have hf := ifT c9 hf
              refine lv_aload_n (pc := 162) hx hb dX5_tells_162 rfl (lv_at hl 0 rfl) ?_
              refine g_get (pc := 163) (v := .ref (q 18)) C h.1 0 (mW_c0 _ _ _) fl_X5_61 rfl dX5_tells_163 ?_
              refine lv_aload_n (pc := 166) hx hb dX5_tells_166 rfl (lv_at hl 0 rfl) ?_
              refine g_get (pc := 167) (v := .ref (q 9)) C h.1 0 (mW_c0 _ _ _) fl_X5_34 rfl dX5_tells_167 ?_
              refine lv_iload_n (pc := 170) hx hb dX5_tells_170 rfl (lv_at hl 3 rfl) ?_
              obtain ⟨hin, hf⟩ := ifS hf
              refine g_ild (pc := 171) (n := 300) (f := (σ 10)) C h.1 9 (mW_c9 _ _ _) hin dX5_tells_171 ?_
              refine lv_dup2_11 (pc := 172) hx hb dX5_tells_172 rfl rfl ?_
              obtain ⟨hin, hf⟩ := ifS hf
              refine g_ild (pc := 173) (n := 8) (f := (σ 22)) C h.1 18 (mW_c18 _ _ _) hin dX5_tells_173 ?_
              refine lv_iconst (pc := 174) (v := 1) hx hb dX5_tells_174 (by decide) ?_
              refine lv_iadd (pc := 175) hx hb dX5_tells_175 ?_
              obtain ⟨hin, hf⟩ := ifS hf
              obtain ⟨t12, et12, hf⟩ := ltS hf
              refine g_ist (pc := 176) (n := 8) (f := (σ 22)) (ws' := (mW q cA t12)) C h 18 (mW_c18 _ _ _) hin ((mW_w18 _ _ _ _).trans (congrArg (mW q cA) et12.symm)) dX5_tells_176 (fun H locs h => ?_)
              refine lv_goto (pc := 177) (tgt := 193) hx hb dX5_tells_177 (by decide) ?_
              refine lv_iinc (pc := 193) (v := (x3 + (1 : Int32))) (lv' := [(3, .int (x3 + (1 : Int32))), (0, .ref (q 0)), (1, .int x1), (2, .int x2)]) hx hb dX5_tells_193 hl (k := 3) rfl rfl (by decide) rfl (fun ls hl => ?_)
              refine lv_goto (pc := 196) (tgt := 41) hx hb dX5_tells_196 (by decide) ?_
              exact ih _ _ _ _ _ hf _ _ _ h (lv_sub hl [1, 2, 3, 0] rfl) kk
          · have hf := ifT c9 hf
            refine lv_aload_n (pc := 99) hx hb dX5_tells_99 rfl (lv_at hl 0 rfl) ?_
            refine lv_dup (pc := 100) hx hb dX5_tells_100 rfl ?_
            refine g_get (pc := 101) (v := .int (σ 19 0)) C h.1 0 (mW_c0 _ _ _) fl_X5_89 rfl dX5_tells_101 ?_
            refine lv_iconst (pc := 104) (v := 1) hx hb dX5_tells_104 (by decide) ?_
            refine lv_aload_n (pc := 105) hx hb dX5_tells_105 rfl (lv_at hl 0 rfl) ?_
            refine g_get (pc := 106) (v := .ref (q 9)) C h.1 0 (mW_c0 _ _ _) fl_X5_34 rfl dX5_tells_106 ?_
            refine lv_iload_n (pc := 109) hx hb dX5_tells_109 rfl (lv_at hl 3 rfl) ?_
            obtain ⟨hin, hf⟩ := ifS hf
            refine g_ild (pc := 110) (n := 300) (f := (σ 10)) C h.1 9 (mW_c9 _ _ _) hin dX5_tells_110 ?_
            refine lv_ishl (pc := 111) hx hb dX5_tells_111 ?_
            refine lv_ior (pc := 112) hx hb dX5_tells_112 ?_
            obtain ⟨t13, et13, hf⟩ := ltS hf
            refine g_puti (pc := 113) (v := ((σ 19 0) ||| ((1 : Int32) <<< (((σ 10) x3.toNatClampNeg) &&& 31)))) (ws' := (mW q cA t13)) C h 0 (mW_c0 _ _ _) fp_X5_89 (Nat.le_of_ble_eq_true rfl) ((mW_w0_19 _ _ _ _).trans (congrArg (mW q cA) et13.symm)) dX5_tells_113 (fun H locs h => ?_)
            refine lv_aload_n (pc := 116) hx hb dX5_tells_116 rfl (lv_at hl 0 rfl) ?_
            refine lv_iload_n (pc := 117) hx hb dX5_tells_117 rfl (lv_at hl 1 rfl) ?_
            refine lv_aload_n (pc := 118) hx hb dX5_tells_118 rfl (lv_at hl 0 rfl) ?_
            refine g_get (pc := 119) (v := .ref (q 10)) C h.1 0 (mW_c0 _ _ _) fl_X5_37 rfl dX5_tells_119 ?_
            refine lv_iload_n (pc := 122) hx hb dX5_tells_122 rfl (lv_at hl 3 rfl) ?_
            obtain ⟨hin, hf⟩ := ifS hf
            refine g_ild (pc := 123) (n := 300) (f := (t13 11)) C h.1 10 (mW_c10 _ _ _) hin dX5_tells_123 ?_
            obtain ⟨z14, hc14, hf⟩ := bdS hf
            refine call_VUs (pc := 124) (As := [.int x1, .int ((t13 11) x3.toNatClampNeg)]) (rest := []) C h (k_X5_opens t13 x1 ((t13 11) x3.toNatClampNeg) hc14) cw_X5_95 0 (mW_c0 _ _ _) rfl (mW_fst _ _ _ _) rfl rfl hl.1 (Nat.le_of_ble_eq_true rfl) dX5_tells_124 ⟨Nat.le_of_ble_eq_true rfl, Nat.le_of_ble_eq_true rfl⟩ rfl rfl ⟨Nat.le_of_ble_eq_true rfl, Nat.le_of_ble_eq_true rfl⟩ (fun H locs h => ?_)
            refine W.eq (g2 := F0 m 127 ls []) rfl ?_
            refine lv_aload_n (pc := 127) hx hb dX5_tells_127 rfl (lv_at hl 0 rfl) ?_
            refine lv_aload_n (pc := 128) hx hb dX5_tells_128 rfl (lv_at hl 0 rfl) ?_
            refine g_get (pc := 129) (v := .int (z14 19 0)) C h.1 0 (mW_c0 _ _ _) fl_X5_89 rfl dX5_tells_129 ?_
            refine lv_aload_n (pc := 132) hx hb dX5_tells_132 rfl (lv_at hl 0 rfl) ?_
            refine lv_iload_n (pc := 133) hx hb dX5_tells_133 rfl (lv_at hl 1 rfl) ?_
            obtain ⟨z15, hc15, hf⟩ := bdS hf
            refine call_VRs (pc := 134) (As := [.int x1]) (rest := [.int (z14 19 0), .ref (q 0)]) C h (k_X5_all z14 x1 hc15) cw_X5_99 0 (mW_c0 _ _ _) rfl rfl rfl hl.1 (Nat.le_of_ble_eq_true rfl) dX5_tells_134 ⟨Nat.le_of_ble_eq_true rfl, Nat.le_of_ble_eq_true rfl⟩ rfl rfl ⟨Nat.le_of_ble_eq_true rfl, Nat.le_of_ble_eq_true rfl⟩ (fun H locs h => ?_)
            refine W.eq (g2 := F0 m 137 ls [.int z15, .int (z14 19 0), .ref (q 0)]) rfl ?_
            refine lv_icmp_ne (pc := 137) (tgt := 144) hx hb dX5_tells_137 (by decide) (fun c9 => ?_) (fun c9 => ?_)
            · have hf := ifF c9 hf
              refine lv_iconst (pc := 144) (v := 1) hx hb dX5_tells_144 (by decide) ?_
              obtain ⟨t16, et16, hf⟩ := ltS hf
              refine g_puti (pc := 145) (v := (1 : Int32)) (ws' := (mW q cA t16)) C h 0 (mW_c0 _ _ _) fp_X5_92 (Nat.le_of_ble_eq_true rfl) ((mW_w0_18 _ _ _ _).trans (congrArg (mW q cA) et16.symm)) dX5_tells_145 (fun H locs h => ?_)
              refine lv_goto (pc := 148) (tgt := 193) hx hb dX5_tells_148 (by decide) ?_
              refine lv_iinc (pc := 193) (v := (x3 + (1 : Int32))) (lv' := [(3, .int (x3 + (1 : Int32))), (0, .ref (q 0)), (1, .int x1), (2, .int x2)]) hx hb dX5_tells_193 hl (k := 3) rfl rfl (by decide) rfl (fun ls hl => ?_)
              refine lv_goto (pc := 196) (tgt := 41) hx hb dX5_tells_196 (by decide) ?_
              exact ih _ _ _ _ _ hf _ _ _ h (lv_sub hl [1, 2, 3, 0] rfl) kk
            · have hf := ifT c9 hf
              refine lv_iconst (pc := 140) (v := 2) hx hb dX5_tells_140 (by decide) ?_
              refine lv_goto (pc := 141) (tgt := 145) hx hb dX5_tells_141 (by decide) ?_
              obtain ⟨t17, et17, hf⟩ := ltS hf
              refine g_puti (pc := 145) (v := (2 : Int32)) (ws' := (mW q cA t17)) C h 0 (mW_c0 _ _ _) fp_X5_92 (Nat.le_of_ble_eq_true rfl) ((mW_w0_18 _ _ _ _).trans (congrArg (mW q cA) et17.symm)) dX5_tells_145 (fun H locs h => ?_)
              refine lv_goto (pc := 148) (tgt := 193) hx hb dX5_tells_148 (by decide) ?_
              refine lv_iinc (pc := 193) (v := (x3 + (1 : Int32))) (lv' := [(3, .int (x3 + (1 : Int32))), (0, .ref (q 0)), (1, .int x1), (2, .int x2)]) hx hb dX5_tells_193 hl (k := 3) rfl rfl (by decide) rfl (fun ls hl => ?_)
              refine lv_goto (pc := 196) (tgt := 41) hx hb dX5_tells_196 (by decide) ?_
              exact ih _ _ _ _ _ hf _ _ _ h (lv_sub hl [1, 2, 3, 0] rfl) kk
      · have hf := ifT c9 hf
        refine lv_aload_n (pc := 60) hx hb dX5_tells_60 rfl (lv_at hl 0 rfl) ?_
        refine lv_iconst (pc := 61) (v := 1) hx hb dX5_tells_61 (by decide) ?_
        obtain ⟨t18, et18, hf⟩ := ltS hf
        refine g_puti (pc := 62) (v := (1 : Int32)) (ws' := (mW q cA t18)) C h 0 (mW_c0 _ _ _) fp_X5_92 (Nat.le_of_ble_eq_true rfl) ((mW_w0_18 _ _ _ _).trans (congrArg (mW q cA) et18.symm)) dX5_tells_62 (fun H locs h => ?_)
        refine lv_aload_n (pc := 65) hx hb dX5_tells_65 rfl (lv_at hl 0 rfl) ?_
        refine lv_iload_n (pc := 66) hx hb dX5_tells_66 rfl (lv_at hl 1 rfl) ?_
        refine lv_aload_n (pc := 67) hx hb dX5_tells_67 rfl (lv_at hl 0 rfl) ?_
        refine g_get (pc := 68) (v := .ref (q 10)) C h.1 0 (mW_c0 _ _ _) fl_X5_37 rfl dX5_tells_68 ?_
        refine lv_iload_n (pc := 71) hx hb dX5_tells_71 rfl (lv_at hl 3 rfl) ?_
        obtain ⟨hin, hf⟩ := ifS hf
        refine g_ild (pc := 72) (n := 300) (f := (t18 11)) C h.1 10 (mW_c10 _ _ _) hin dX5_tells_72 ?_
        obtain ⟨z19, hc19, hf⟩ := bdS hf
        refine call_VUs (pc := 73) (As := [.int x1, .int ((t18 11) x3.toNatClampNeg)]) (rest := []) C h (k_X5_opens t18 x1 ((t18 11) x3.toNatClampNeg) hc19) cw_X5_95 0 (mW_c0 _ _ _) rfl (mW_fst _ _ _ _) rfl rfl hl.1 (Nat.le_of_ble_eq_true rfl) dX5_tells_73 ⟨Nat.le_of_ble_eq_true rfl, Nat.le_of_ble_eq_true rfl⟩ rfl rfl ⟨Nat.le_of_ble_eq_true rfl, Nat.le_of_ble_eq_true rfl⟩ (fun H locs h => ?_)
        refine W.eq (g2 := F0 m 76 ls []) rfl ?_
        refine lv_goto (pc := 76) (tgt := 193) hx hb dX5_tells_76 (by decide) ?_
        refine lv_iinc (pc := 193) (v := (x3 + (1 : Int32))) (lv' := [(3, .int (x3 + (1 : Int32))), (0, .ref (q 0)), (1, .int x1), (2, .int x2)]) hx hb dX5_tells_193 hl (k := 3) rfl rfl (by decide) rfl (fun ls hl => ?_)
        refine lv_goto (pc := 196) (tgt := 41) hx hb dX5_tells_196 (by decide) ?_
        exact ih _ _ _ _ _ hf _ _ _ h (lv_sub hl [1, 2, 3, 0] rfl) kk
set_option maxHeartbeats 400000 in
set_option maxRecDepth 100000 in
theorem k_X5_tells {q : Nat → Nat} {cA : Nat → ClassId} {D : va_G} (σ : Nat → Nat → Int32) (x1 x2 : Int32) {z : (Nat → Nat → Int32)} (hf : f_X5_tells σ x1 x2 = some z) : CtU yX5_tells cX5_tells 4 none rm_X5_tells [.ref (q 0), .int x1, .int x2] D cA (mW q cA σ) (mW q cA z) none 0 0 := by
  refine ctU_of (by decide) (Nat.le_of_ble_eq_true rfl) ?_
  intro p l e s m below meth c ls C hr hnm h hl
  have C : Cx p s m _ meth c cX5_tells 4 RX5 D cA := C
  obtain ⟨hx, hb, hml, hown, hts, hK, hlk⟩ := id C
  replace hl : lv_has ls 4 [(0, .ref (q 0)), (1, .int x1), (2, .int x2)] := hl
  rw [f_X5_tells] at hf
  refine lv_aload_n (pc := 0) hx hb dX5_tells_0 rfl (lv_at hl 0 rfl) ?_
  refine lv_iconst (pc := 1) (v := 0) hx hb dX5_tells_1 (by decide) ?_
  obtain ⟨t1, et1, hf⟩ := ltS hf
  refine g_puti (pc := 2) (v := (0 : Int32)) (ws' := (mW q cA t1)) C h 0 (mW_c0 _ _ _) fp_X5_92 (Nat.le_of_ble_eq_true rfl) ((mW_w0_18 _ _ _ _).trans (congrArg (mW q cA) et1.symm)) dX5_tells_2 (fun H locs h => ?_)
  refine lv_aload_n (pc := 5) hx hb dX5_tells_5 rfl (lv_at hl 0 rfl) ?_
  refine lv_iconst (pc := 6) (v := 0) hx hb dX5_tells_6 (by decide) ?_
  obtain ⟨t2, et2, hf⟩ := ltS hf
  refine g_puti (pc := 7) (v := (0 : Int32)) (ws' := (mW q cA t2)) C h 0 (mW_c0 _ _ _) fp_X5_89 (Nat.le_of_ble_eq_true rfl) ((mW_w0_19 _ _ _ _).trans (congrArg (mW q cA) et2.symm)) dX5_tells_7 (fun H locs h => ?_)
  refine lv_aload_n (pc := 10) hx hb dX5_tells_10 rfl (lv_at hl 0 rfl) ?_
  refine lv_iconst (pc := 11) (v := 0) hx hb dX5_tells_11 (by decide) ?_
  obtain ⟨t3, et3, hf⟩ := ltS hf
  refine g_puti (pc := 12) (v := (0 : Int32)) (ws' := (mW q cA t3)) C h 0 (mW_c0 _ _ _) fp_X5_82 (Nat.le_of_ble_eq_true rfl) ((mW_w0_20 _ _ _ _).trans (congrArg (mW q cA) et3.symm)) dX5_tells_12 (fun H locs h => ?_)
  refine lv_iconst (pc := 15) (v := 0) hx hb dX5_tells_15 (by decide) ?_
  refine lv_istore_n (pc := 16) (lv' := [(3, .int (0 : Int32)), (0, .ref (q 0)), (1, .int x1), (2, .int x2)]) hx hb dX5_tells_16 rfl hl (by decide) rfl (fun ls hl => ?_)
  obtain ⟨z5, hc5, hf⟩ := bdS hf
  refine l_X5_tells_17 C _ _ _ _ _ _ hc5 _ _ _ h (lv_sub hl [1, 2, 3, 0] rfl) (fun H locs ls h hl => ?_)
  refine lv_bipush (pc := 36) (v := 50) hx hb dX5_tells_36 (by decide) ?_
  refine lv_iload_n (pc := 38) hx hb dX5_tells_38 rfl (lv_at hl 1 rfl) ?_
  refine lv_imul (pc := 39) hx hb dX5_tells_39 ?_
  refine lv_istore_n (pc := 40) (lv' := [(3, .int ((50 : Int32) * x1)), (0, .ref (q 0)), (1, .int x1), (2, .int x2)]) hx hb dX5_tells_40 rfl hl (by decide) rfl (fun ls hl => ?_)
  obtain ⟨z20, hc20, hf⟩ := bdS hf
  refine l_X5_tells_41 C _ _ _ _ _ _ hc20 _ _ _ h (lv_sub hl [1, 2, 3, 0] rfl) (fun H locs ls h hl => ?_)
  have hf : (some z20.1) = some z := hf
  cases hf
  exact ret_vU (pc := 199) C hr h dX5_tells_199
abbrev rm_X5_looks : Room := { frames := 3, cells := 0, slots := 0, locals := 68 }
def f_X5_looks (σ : Nat → Nat → Int32) (x1 : Int32) : Option ((Nat → Nat → Int32)) := (if inb x1 6 then ((f_X5_tells σ x1 ((σ 5) x1.toNatClampNeg)).bind fun z1 => (some z1)) else none)
set_option maxHeartbeats 400000 in
set_option maxRecDepth 100000 in
theorem k_X5_looks {q : Nat → Nat} {cA : Nat → ClassId} {D : va_G} (σ : Nat → Nat → Int32) (x1 : Int32) {z : (Nat → Nat → Int32)} (hf : f_X5_looks σ x1 = some z) : CtU yX5_looks cX5_looks 2 none rm_X5_looks [.ref (q 0), .int x1] D cA (mW q cA σ) (mW q cA z) none 0 0 := by
  refine ctU_of (by decide) (Nat.le_of_ble_eq_true rfl) ?_
  intro p l e s m below meth c ls C hr hnm h hl
  have C : Cx p s m _ meth c cX5_looks 2 RX5 D cA := C
  obtain ⟨hx, hb, hml, hown, hts, hK, hlk⟩ := id C
  replace hl : lv_has ls 2 [(0, .ref (q 0)), (1, .int x1)] := hl
  rw [f_X5_looks] at hf
  refine lv_aload_n (pc := 0) hx hb dX5_looks_0 rfl (lv_at hl 0 rfl) ?_
  refine lv_iload_n (pc := 1) hx hb dX5_looks_1 rfl (lv_at hl 1 rfl) ?_
  refine lv_aload_n (pc := 2) hx hb dX5_looks_2 rfl (lv_at hl 0 rfl) ?_
  refine g_get (pc := 3) (v := .ref (q 4)) C h.1 0 (mW_c0 _ _ _) fl_X5_19 rfl dX5_looks_3 ?_
  refine lv_iload_n (pc := 6) hx hb dX5_looks_6 rfl (lv_at hl 1 rfl) ?_
  obtain ⟨hin, hf⟩ := ifS hf
  refine g_ild (pc := 7) (n := 6) (f := (σ 5)) C h.1 4 (mW_c4 _ _ _) hin dX5_looks_7 ?_
  obtain ⟨z1, hc1, hf⟩ := bdS hf
  refine call_VUs (pc := 8) (As := [.int x1, .int ((σ 5) x1.toNatClampNeg)]) (rest := []) C h (k_X5_tells σ x1 ((σ 5) x1.toNatClampNeg) hc1) cw_X5_106 0 (mW_c0 _ _ _) rfl (mW_fst _ _ _ _) rfl rfl hl.1 (Nat.le_of_ble_eq_true rfl) dX5_looks_8 ⟨Nat.le_of_ble_eq_true rfl, Nat.le_of_ble_eq_true rfl⟩ rfl rfl ⟨Nat.le_of_ble_eq_true rfl, Nat.le_of_ble_eq_true rfl⟩ (fun H locs h => ?_)
  refine W.eq (g2 := F0 m 11 ls []) rfl ?_
  have hf : (some z1) = some z := hf
  cases hf
  exact ret_vU (pc := 11) C hr h dX5_looks_11
abbrev rm_X5_isIn : Room := { frames := 4, cells := 0, slots := 0, locals := 89 }
def f_X5_isIn (σ : Nat → Nat → Int32) (x1 x2 : Int32) : Option (Int32 × (Nat → Nat → Int32)) := ((f_X5_looks σ x1).bind fun z1 => (if (z1 18 0) = x2 then (some ((1 : Int32), z1)) else (some ((0 : Int32), z1))))
set_option maxHeartbeats 400000 in
set_option maxRecDepth 100000 in
theorem k_X5_isIn {q : Nat → Nat} {cA : Nat → ClassId} {D : va_G} (σ : Nat → Nat → Int32) (x1 x2 : Int32) {z : Int32 × (Nat → Nat → Int32)} (hf : f_X5_isIn σ x1 x2 = some z) : CtU yX5_isIn cX5_isIn 3 (some .boolean) rm_X5_isIn [.ref (q 0), .int x1, .int x2] D cA (mW q cA σ) (mW q cA z.2) (some (.int z.1)) 0 0 := by
  refine ctU_of (by decide) (Nat.le_of_ble_eq_true rfl) ?_
  intro p l e s m below meth c ls C hr hnm h hl
  have C : Cx p s m _ meth c cX5_isIn 3 RX5 D cA := C
  obtain ⟨hx, hb, hml, hown, hts, hK, hlk⟩ := id C
  replace hl : lv_has ls 3 [(0, .ref (q 0)), (1, .int x1), (2, .int x2)] := hl
  rw [f_X5_isIn] at hf
  refine lv_aload_n (pc := 0) hx hb dX5_isIn_0 rfl (lv_at hl 0 rfl) ?_
  refine lv_iload_n (pc := 1) hx hb dX5_isIn_1 rfl (lv_at hl 1 rfl) ?_
  obtain ⟨z1, hc1, hf⟩ := bdS hf
  refine call_VUs (pc := 2) (As := [.int x1]) (rest := []) C h (k_X5_looks σ x1 hc1) cw_X5_109 0 (mW_c0 _ _ _) rfl (mW_fst _ _ _ _) rfl rfl hl.1 (Nat.le_of_ble_eq_true rfl) dX5_isIn_2 ⟨Nat.le_of_ble_eq_true rfl, Nat.le_of_ble_eq_true rfl⟩ rfl rfl ⟨Nat.le_of_ble_eq_true rfl, Nat.le_of_ble_eq_true rfl⟩ (fun H locs h => ?_)
  refine W.eq (g2 := F0 m 5 ls []) rfl ?_
  refine lv_aload_n (pc := 5) hx hb dX5_isIn_5 rfl (lv_at hl 0 rfl) ?_
  refine g_get (pc := 6) (v := .int (z1 18 0)) C h.1 0 (mW_c0 _ _ _) fl_X5_92 rfl dX5_isIn_6 ?_
  refine lv_iload_n (pc := 9) hx hb dX5_isIn_9 rfl (lv_at hl 2 rfl) ?_
  refine lv_icmp_ne (pc := 10) (tgt := 17) hx hb dX5_isIn_10 (by decide) (fun c9 => ?_) (fun c9 => ?_)
  · have hf := ifF c9 hf
    refine lv_iconst (pc := 17) (v := 0) hx hb dX5_isIn_17 (by decide) ?_
    have hf : (some ((0 : Int32), z1)) = some z := hf
    cases hf
    exact ret_zU (pc := 18) C hr nb0 h dX5_isIn_18
  · have hf := ifT c9 hf
    refine lv_iconst (pc := 13) (v := 1) hx hb dX5_isIn_13 (by decide) ?_
    refine lv_goto (pc := 14) (tgt := 18) hx hb dX5_isIn_14 (by decide) ?_
    have hf : (some ((1 : Int32), z1)) = some z := hf
    cases hf
    exact ret_zU (pc := 18) C hr nb1 h dX5_isIn_18
theorem nb_X5_isIn {σ : Nat → Nat → Int32} {x1 x2 : Int32} {z : Int32 × (Nat → Nat → Int32)} (hf : f_X5_isIn σ x1 x2 = some z) : narrow .boolean (.int z.1) = .int z.1 := by
  rw [f_X5_isIn] at hf
  obtain ⟨z1, hc1, hf⟩ := bdS hf
  by_cases c9 : (z1 18 0) = x2
  · have hf := ifT c9 hf
    have hf : (some ((1 : Int32), z1)) = some z := hf
    cases hf
    exact nb1
  · have hf := ifF c9 hf
    have hf : (some ((0 : Int32), z1)) = some z := hf
    cases hf
    exact nb0
abbrev rm_X5_open : Room := { frames := 0, cells := 0, slots := 0, locals := 0 }
def f_X5_open (σ : Nat → Nat → Int32) : Int32 := (if (σ 18 0) = (1 : Int32) then ((σ 20 0) &&& ((σ 19 0) ^^^ (-1 : Int32))) else (0 : Int32))
set_option maxHeartbeats 400000 in
set_option maxRecDepth 100000 in
theorem k_X5_open {q : Nat → Nat} {cA : Nat → ClassId} {D : va_G} (σ : Nat → Nat → Int32) {z : Int32} (hf : f_X5_open σ = z) : CtR yX5_open cX5_open 1 (some .int) rm_X5_open [.ref (q 0)] D cA (mW q cA σ) (some (.int z)) 0 0 := by
  refine ctR_of (by decide) (Nat.le_of_ble_eq_true rfl) ?_
  intro p l e s m below meth c ls C hr hnm h hl
  have C : Cx p s m _ meth c cX5_open 1 RX5 D cA := C
  obtain ⟨hx, hb, hml, hown, hts, hK, hlk⟩ := id C
  replace hl : lv_has ls 1 [(0, .ref (q 0))] := hl
  rw [f_X5_open] at hf
  refine lv_aload_n (pc := 0) hx hb dX5_open_0 rfl (lv_at hl 0 rfl) ?_
  refine g_get (pc := 1) (v := .int (σ 18 0)) C h.1 0 (mW_c0 _ _ _) fl_X5_92 rfl dX5_open_1 ?_
  refine lv_iconst (pc := 4) (v := 1) hx hb dX5_open_4 (by decide) ?_
  refine lv_icmp_ne (pc := 5) (tgt := 22) hx hb dX5_open_5 (by decide) (fun c9 => ?_) (fun c9 => ?_)
  · have hf := ifF c9 hf
    refine lv_iconst (pc := 22) (v := 0) hx hb dX5_open_22 (by decide) ?_
    have hf : (0 : Int32) = z := hf
    subst hf
    exact ret_iR (pc := 23) C hr h dX5_open_23
  · have hf := ifT c9 hf
    refine lv_aload_n (pc := 8) hx hb dX5_open_8 rfl (lv_at hl 0 rfl) ?_
    refine g_get (pc := 9) (v := .int (σ 20 0)) C h.1 0 (mW_c0 _ _ _) fl_X5_82 rfl dX5_open_9 ?_
    refine lv_aload_n (pc := 12) hx hb dX5_open_12 rfl (lv_at hl 0 rfl) ?_
    refine g_get (pc := 13) (v := .int (σ 19 0)) C h.1 0 (mW_c0 _ _ _) fl_X5_89 rfl dX5_open_13 ?_
    refine lv_iconst (pc := 16) (v := -1) hx hb dX5_open_16 (by decide) ?_
    refine lv_ixor (pc := 17) hx hb dX5_open_17 ?_
    refine lv_iand (pc := 18) hx hb dX5_open_18 ?_
    refine lv_goto (pc := 19) (tgt := 23) hx hb dX5_open_19 (by decide) ?_
    have hf : ((σ 20 0) &&& ((σ 19 0) ^^^ (-1 : Int32))) = z := hf
    subst hf
    exact ret_iR (pc := 23) C hr h dX5_open_23
abbrev rm_X5_notes : Room := { frames := 0, cells := 0, slots := 0, locals := 0 }
def f_X5_notes (σ : Nat → Nat → Int32) (x1 x2 x3 x4 : Int32) : Option ((Nat → Nat → Int32)) := (if inb x1 6 then (if inb (((50 : Int32) * x1) + ((σ 5) x1.toNatClampNeg)) 300 then (lt (va_up σ 8 (upd (σ 8) (((50 : Int32) * x1) + ((σ 5) x1.toNatClampNeg)).toNatClampNeg x2)) fun t1 => (if inb (((50 : Int32) * x1) + ((σ 5) x1.toNatClampNeg)) 300 then (lt (va_up t1 9 (upd (t1 9) (((50 : Int32) * x1) + ((σ 5) x1.toNatClampNeg)).toNatClampNeg x3)) fun t2 => (if inb (((50 : Int32) * x1) + ((σ 5) x1.toNatClampNeg)) 300 then (lt (va_up t2 10 (upd (t2 10) (((50 : Int32) * x1) + ((σ 5) x1.toNatClampNeg)).toNatClampNeg x4)) fun t3 => (if inb (((50 : Int32) * x1) + ((σ 5) x1.toNatClampNeg)) 300 then (lt (va_up t3 11 (upd (t3 11) (((50 : Int32) * x1) + ((σ 5) x1.toNatClampNeg)).toNatClampNeg (t3 0 0))) fun t4 => (if inb x1 6 then (if inb x1 6 then (lt (va_up t4 5 (upd (t4 5) x1.toNatClampNeg (((t4 5) x1.toNatClampNeg) + (1 : Int32)))) fun t5 => (some t5)) else none) else none)) else none)) else none)) else none)) else none) else none)
set_option maxHeartbeats 400000 in
set_option maxRecDepth 100000 in
theorem k_X5_notes {q : Nat → Nat} {cA : Nat → ClassId} {D : va_G} (σ : Nat → Nat → Int32) (x1 x2 x3 x4 : Int32) {z : (Nat → Nat → Int32)} (hf : f_X5_notes σ x1 x2 x3 x4 = some z) : CtU yX5_notes cX5_notes 6 none rm_X5_notes [.ref (q 0), .int x1, .int x2, .int x3, .int x4] D cA (mW q cA σ) (mW q cA z) none 0 0 := by
  refine ctU_of (by decide) (Nat.le_of_ble_eq_true rfl) ?_
  intro p l e s m below meth c ls C hr hnm h hl
  have C : Cx p s m _ meth c cX5_notes 6 RX5 D cA := C
  obtain ⟨hx, hb, hml, hown, hts, hK, hlk⟩ := id C
  replace hl : lv_has ls 6 [(0, .ref (q 0)), (1, .int x1), (2, .int x2), (3, .int x3), (4, .int x4)] := hl
  rw [f_X5_notes] at hf
  refine lv_bipush (pc := 0) (v := 50) hx hb dX5_notes_0 (by decide) ?_
  refine lv_iload_n (pc := 2) hx hb dX5_notes_2 rfl (lv_at hl 1 rfl) ?_
  refine lv_imul (pc := 3) hx hb dX5_notes_3 ?_
  refine lv_aload_n (pc := 4) hx hb dX5_notes_4 rfl (lv_at hl 0 rfl) ?_
  refine g_get (pc := 5) (v := .ref (q 4)) C h.1 0 (mW_c0 _ _ _) fl_X5_19 rfl dX5_notes_5 ?_
  refine lv_iload_n (pc := 8) hx hb dX5_notes_8 rfl (lv_at hl 1 rfl) ?_
  obtain ⟨hin, hf⟩ := ifS hf
  refine g_ild (pc := 9) (n := 6) (f := (σ 5)) C h.1 4 (mW_c4 _ _ _) hin dX5_notes_9 ?_
  refine lv_iadd (pc := 10) hx hb dX5_notes_10 ?_
  refine lv_istore (pc := 11) (lv' := [(5, .int (((50 : Int32) * x1) + ((σ 5) x1.toNatClampNeg))), (0, .ref (q 0)), (1, .int x1), (2, .int x2), (3, .int x3), (4, .int x4)]) hx hb dX5_notes_11 hl (by decide) rfl (fun ls hl => ?_)
  refine lv_aload_n (pc := 13) hx hb dX5_notes_13 rfl (lv_at hl 1 rfl) ?_
  refine g_get (pc := 14) (v := .ref (q 7)) C h.1 0 (mW_c0 _ _ _) fl_X5_28 rfl dX5_notes_14 ?_
  refine lv_iload (pc := 17) hx hb dX5_notes_17 (lv_at hl 0 rfl) ?_
  refine lv_iload_n (pc := 19) hx hb dX5_notes_19 rfl (lv_at hl 3 rfl) ?_
  obtain ⟨hin, hf⟩ := ifS hf
  obtain ⟨t1, et1, hf⟩ := ltS hf
  refine g_ist (pc := 20) (n := 300) (f := (σ 8)) (ws' := (mW q cA t1)) C h 7 (mW_c7 _ _ _) hin ((mW_w7 _ _ _ _).trans (congrArg (mW q cA) et1.symm)) dX5_notes_20 (fun H locs h => ?_)
  refine lv_aload_n (pc := 21) hx hb dX5_notes_21 rfl (lv_at hl 1 rfl) ?_
  refine g_get (pc := 22) (v := .ref (q 8)) C h.1 0 (mW_c0 _ _ _) fl_X5_31 rfl dX5_notes_22 ?_
  refine lv_iload (pc := 25) hx hb dX5_notes_25 (lv_at hl 0 rfl) ?_
  refine lv_iload_n (pc := 27) hx hb dX5_notes_27 rfl (lv_at hl 4 rfl) ?_
  obtain ⟨hin, hf⟩ := ifS hf
  obtain ⟨t2, et2, hf⟩ := ltS hf
  refine g_ist (pc := 28) (n := 300) (f := (t1 9)) (ws' := (mW q cA t2)) C h 8 (mW_c8 _ _ _) hin ((mW_w8 _ _ _ _).trans (congrArg (mW q cA) et2.symm)) dX5_notes_28 (fun H locs h => ?_)
  refine lv_aload_n (pc := 29) hx hb dX5_notes_29 rfl (lv_at hl 1 rfl) ?_
  refine g_get (pc := 30) (v := .ref (q 9)) C h.1 0 (mW_c0 _ _ _) fl_X5_34 rfl dX5_notes_30 ?_
  refine lv_iload (pc := 33) hx hb dX5_notes_33 (lv_at hl 0 rfl) ?_
  refine lv_iload (pc := 35) hx hb dX5_notes_35 (lv_at hl 5 rfl) ?_
  obtain ⟨hin, hf⟩ := ifS hf
  obtain ⟨t3, et3, hf⟩ := ltS hf
  refine g_ist (pc := 37) (n := 300) (f := (t2 10)) (ws' := (mW q cA t3)) C h 9 (mW_c9 _ _ _) hin ((mW_w9 _ _ _ _).trans (congrArg (mW q cA) et3.symm)) dX5_notes_37 (fun H locs h => ?_)
  refine lv_aload_n (pc := 38) hx hb dX5_notes_38 rfl (lv_at hl 1 rfl) ?_
  refine g_get (pc := 39) (v := .ref (q 10)) C h.1 0 (mW_c0 _ _ _) fl_X5_37 rfl dX5_notes_39 ?_
  refine lv_iload (pc := 42) hx hb dX5_notes_42 (lv_at hl 0 rfl) ?_
  refine lv_aload_n (pc := 44) hx hb dX5_notes_44 rfl (lv_at hl 1 rfl) ?_
  refine g_get (pc := 45) (v := .int (t3 0 0)) C h.1 0 (mW_c0 _ _ _) fl_X5_113 rfl dX5_notes_45 ?_
  obtain ⟨hin, hf⟩ := ifS hf
  obtain ⟨t4, et4, hf⟩ := ltS hf
  refine g_ist (pc := 48) (n := 300) (f := (t3 11)) (ws' := (mW q cA t4)) C h 10 (mW_c10 _ _ _) hin ((mW_w10 _ _ _ _).trans (congrArg (mW q cA) et4.symm)) dX5_notes_48 (fun H locs h => ?_)
  refine lv_aload_n (pc := 49) hx hb dX5_notes_49 rfl (lv_at hl 1 rfl) ?_
  refine g_get (pc := 50) (v := .ref (q 4)) C h.1 0 (mW_c0 _ _ _) fl_X5_19 rfl dX5_notes_50 ?_
  refine lv_iload_n (pc := 53) hx hb dX5_notes_53 rfl (lv_at hl 2 rfl) ?_
  refine lv_dup2_11 (pc := 54) hx hb dX5_notes_54 rfl rfl ?_
  obtain ⟨hin, hf⟩ := ifS hf
  refine g_ild (pc := 55) (n := 6) (f := (t4 5)) C h.1 4 (mW_c4 _ _ _) hin dX5_notes_55 ?_
  refine lv_iconst (pc := 56) (v := 1) hx hb dX5_notes_56 (by decide) ?_
  refine lv_iadd (pc := 57) hx hb dX5_notes_57 ?_
  obtain ⟨hin, hf⟩ := ifS hf
  obtain ⟨t5, et5, hf⟩ := ltS hf
  refine g_ist (pc := 58) (n := 6) (f := (t4 5)) (ws' := (mW q cA t5)) C h 4 (mW_c4 _ _ _) hin ((mW_w4 _ _ _ _).trans (congrArg (mW q cA) et5.symm)) dX5_notes_58 (fun H locs h => ?_)
  have hf : (some t5) = some z := hf
  cases hf
  exact ret_vU (pc := 59) C hr h dX5_notes_59
abbrev rm_X5_closes : Room := { frames := 4, cells := 0, slots := 0, locals := 89 }
def f_X5_closes (σ : Nat → Nat → Int32) (x1 x2 x3 x4 : Int32) : Option (Int32 × (Nat → Nat → Int32)) := ((f_X5_looks σ x1).bind fun z1 => ((f_X5_notes z1 x1 x2 x3 x4).bind fun z2 => ((f_X5_all z2 x1).bind fun z3 => ((f_X5_many (z3 &&& ((z2 19 0) ^^^ (-1 : Int32)))).bind fun z4 => (some (z4, z2))))))
set_option maxHeartbeats 400000 in
set_option maxRecDepth 100000 in
theorem k_X5_closes {q : Nat → Nat} {cA : Nat → ClassId} {D : va_G} (σ : Nat → Nat → Int32) (x1 x2 x3 x4 : Int32) {z : Int32 × (Nat → Nat → Int32)} (hf : f_X5_closes σ x1 x2 x3 x4 = some z) : CtU yX5_closes cX5_closes 5 (some .int) rm_X5_closes [.ref (q 0), .int x1, .int x2, .int x3, .int x4] D cA (mW q cA σ) (mW q cA z.2) (some (.int z.1)) 0 0 := by
  refine ctU_of (by decide) (Nat.le_of_ble_eq_true rfl) ?_
  intro p l e s m below meth c ls C hr hnm h hl
  have C : Cx p s m _ meth c cX5_closes 5 RX5 D cA := C
  obtain ⟨hx, hb, hml, hown, hts, hK, hlk⟩ := id C
  replace hl : lv_has ls 5 [(0, .ref (q 0)), (1, .int x1), (2, .int x2), (3, .int x3), (4, .int x4)] := hl
  rw [f_X5_closes] at hf
  refine lv_aload_n (pc := 0) hx hb dX5_closes_0 rfl (lv_at hl 0 rfl) ?_
  refine lv_iload_n (pc := 1) hx hb dX5_closes_1 rfl (lv_at hl 1 rfl) ?_
  obtain ⟨z1, hc1, hf⟩ := bdS hf
  refine call_VUs (pc := 2) (As := [.int x1]) (rest := []) C h (k_X5_looks σ x1 hc1) cw_X5_109 0 (mW_c0 _ _ _) rfl (mW_fst _ _ _ _) rfl rfl hl.1 (Nat.le_of_ble_eq_true rfl) dX5_closes_2 ⟨Nat.le_of_ble_eq_true rfl, Nat.le_of_ble_eq_true rfl⟩ rfl rfl ⟨Nat.le_of_ble_eq_true rfl, Nat.le_of_ble_eq_true rfl⟩ (fun H locs h => ?_)
  refine W.eq (g2 := F0 m 5 ls []) rfl ?_
  refine lv_aload_n (pc := 5) hx hb dX5_closes_5 rfl (lv_at hl 0 rfl) ?_
  refine lv_iload_n (pc := 6) hx hb dX5_closes_6 rfl (lv_at hl 1 rfl) ?_
  refine lv_iload_n (pc := 7) hx hb dX5_closes_7 rfl (lv_at hl 2 rfl) ?_
  refine lv_iload_n (pc := 8) hx hb dX5_closes_8 rfl (lv_at hl 3 rfl) ?_
  refine lv_iload (pc := 9) hx hb dX5_closes_9 (lv_at hl 4 rfl) ?_
  obtain ⟨z2, hc2, hf⟩ := bdS hf
  refine call_VUs (pc := 11) (As := [.int x1, .int x2, .int x3, .int x4]) (rest := []) C h (k_X5_notes z1 x1 x2 x3 x4 hc2) cw_X5_116 0 (mW_c0 _ _ _) rfl (mW_fst _ _ _ _) rfl rfl hl.1 (Nat.le_of_ble_eq_true rfl) dX5_closes_11 ⟨Nat.le_of_ble_eq_true rfl, Nat.le_of_ble_eq_true rfl⟩ rfl rfl ⟨Nat.le_of_ble_eq_true rfl, Nat.le_of_ble_eq_true rfl⟩ (fun H locs h => ?_)
  refine W.eq (g2 := F0 m 14 ls []) rfl ?_
  refine lv_aload_n (pc := 14) hx hb dX5_closes_14 rfl (lv_at hl 0 rfl) ?_
  refine lv_iload_n (pc := 15) hx hb dX5_closes_15 rfl (lv_at hl 1 rfl) ?_
  obtain ⟨z3, hc3, hf⟩ := bdS hf
  refine call_VRs (pc := 16) (As := [.int x1]) (rest := []) C h (k_X5_all z2 x1 hc3) cw_X5_99 0 (mW_c0 _ _ _) rfl rfl rfl hl.1 (Nat.le_of_ble_eq_true rfl) dX5_closes_16 ⟨Nat.le_of_ble_eq_true rfl, Nat.le_of_ble_eq_true rfl⟩ rfl rfl ⟨Nat.le_of_ble_eq_true rfl, Nat.le_of_ble_eq_true rfl⟩ (fun H locs h => ?_)
  refine W.eq (g2 := F0 m 19 ls [.int z3]) rfl ?_
  refine lv_aload_n (pc := 19) hx hb dX5_closes_19 rfl (lv_at hl 0 rfl) ?_
  refine g_get (pc := 20) (v := .int (z2 19 0)) C h.1 0 (mW_c0 _ _ _) fl_X5_89 rfl dX5_closes_20 ?_
  refine lv_iconst (pc := 23) (v := -1) hx hb dX5_closes_23 (by decide) ?_
  refine lv_ixor (pc := 24) hx hb dX5_closes_24 ?_
  refine lv_iand (pc := 25) hx hb dX5_closes_25 ?_
  obtain ⟨z4, hc4, hf⟩ := bdS hf
  refine call_SR (pc := 26) (As := [.int (z3 &&& ((z2 19 0) ^^^ (-1 : Int32)))]) (rest := []) (wc := []) C h (k_X5_many (z3 &&& ((z2 19 0) ^^^ (-1 : Int32))) hc4) cw_X5_120 [] rfl rfl rfl rfl hl.1 (Nat.le_of_ble_eq_true rfl) dX5_closes_26 ⟨Nat.le_of_ble_eq_true rfl, Nat.le_of_ble_eq_true rfl⟩ rfl rfl ⟨Nat.le_of_ble_eq_true rfl, Nat.le_of_ble_eq_true rfl⟩ (fun H locs h => ?_)
  refine W.eq (g2 := F0 m 29 ls [.int z4]) rfl ?_
  have hf : (some (z4, z2)) = some z := hf
  cases hf
  exact ret_iU (pc := 29) C hr h dX5_closes_29
abbrev rm_X5_draft : Room := { frames := 1, cells := 0, slots := 0, locals := 23 }
def f_X5_draft (σ : Nat → Nat → Int32) : Int32 × (Nat → Nat → Int32) := (if (6 : Int32) ≤ (σ 1 0) then (if (f_X5_goes σ (0 : Int32) (1 : Int32) (1 : Int32)).1 = 0 then ((0 : Int32), (f_X5_goes σ (0 : Int32) (1 : Int32) (1 : Int32)).2) else (lt (va_up (f_X5_goes σ (0 : Int32) (1 : Int32) (1 : Int32)).2 1 (fun _ => (((f_X5_goes σ (0 : Int32) (1 : Int32) (1 : Int32)).2 1 0) + (1 : Int32)))) fun t1 => (((t1 1 0) - (1 : Int32)), t1))) else (if (f_X5_goes σ (1 : Int32) (1 : Int32) (1 : Int32)).1 = 0 then ((0 : Int32), (f_X5_goes σ (1 : Int32) (1 : Int32) (1 : Int32)).2) else (lt (va_up (f_X5_goes σ (1 : Int32) (1 : Int32) (1 : Int32)).2 1 (fun _ => (((f_X5_goes σ (1 : Int32) (1 : Int32) (1 : Int32)).2 1 0) + (1 : Int32)))) fun t2 => (((t2 1 0) - (1 : Int32)), t2))))
set_option maxHeartbeats 400000 in
set_option maxRecDepth 100000 in
theorem k_X5_draft {q : Nat → Nat} {cA : Nat → ClassId} {D : va_G} (σ : Nat → Nat → Int32) {z : Int32 × (Nat → Nat → Int32)} (hf : f_X5_draft σ = z) : CtU yX5_draft cX5_draft 1 (some .int) rm_X5_draft [.ref (q 0)] D cA (mW q cA σ) (mW q cA z.2) (some (.int z.1)) 0 0 := by
  refine ctU_of (by decide) (Nat.le_of_ble_eq_true rfl) ?_
  intro p l e s m below meth c ls C hr hnm h hl
  have C : Cx p s m _ meth c cX5_draft 1 RX5 D cA := C
  obtain ⟨hx, hb, hml, hown, hts, hK, hlk⟩ := id C
  replace hl : lv_has ls 1 [(0, .ref (q 0))] := hl
  rw [f_X5_draft] at hf
  refine lv_aload_n (pc := 0) hx hb dX5_draft_0 rfl (lv_at hl 0 rfl) ?_
  refine lv_aload_n (pc := 1) hx hb dX5_draft_1 rfl (lv_at hl 0 rfl) ?_
  refine g_get (pc := 2) (v := .int (σ 1 0)) C h.1 0 (mW_c0 _ _ _) fl_X5_75 rfl dX5_draft_2 ?_
  refine lv_bipush (pc := 5) (v := 6) hx hb dX5_draft_5 (by decide) ?_
  refine lv_icmp_ge (pc := 7) (tgt := 14) hx hb dX5_draft_7 (by decide) (fun c9 => ?_) (fun c9 => ?_)
  · have hf := ifT c9 hf
    refine lv_iconst (pc := 14) (v := 0) hx hb dX5_draft_14 (by decide) ?_
    refine lv_iconst (pc := 15) (v := 1) hx hb dX5_draft_15 (by decide) ?_
    refine lv_iconst (pc := 16) (v := 1) hx hb dX5_draft_16 (by decide) ?_
    refine call_VUs (pc := 17) (As := [.int (0 : Int32), .int (1 : Int32), .int (1 : Int32)]) (rest := []) C h (k_X5_goes σ (0 : Int32) (1 : Int32) (1 : Int32) rfl) cw_X5_123 0 (mW_c0 _ _ _) rfl (mW_fst _ _ _ _) rfl rfl hl.1 (Nat.le_of_ble_eq_true rfl) dX5_draft_17 ⟨Nat.le_of_ble_eq_true rfl, Nat.le_of_ble_eq_true rfl⟩ rfl rfl ⟨Nat.le_of_ble_eq_true rfl, Nat.le_of_ble_eq_true rfl⟩ (fun H locs h => ?_)
    refine W.eq (g2 := F0 m 20 ls [.int (f_X5_goes σ (0 : Int32) (1 : Int32) (1 : Int32)).1]) rfl ?_
    refine lv_if_ne (pc := 20) (tgt := 25) hx hb dX5_draft_20 (by decide) (fun c9 => ?_) (fun c9 => ?_)
    · have hf := ifF c9 hf
      refine lv_aload_n (pc := 25) hx hb dX5_draft_25 rfl (lv_at hl 0 rfl) ?_
      refine lv_dup (pc := 26) hx hb dX5_draft_26 rfl ?_
      refine g_get (pc := 27) (v := .int ((f_X5_goes σ (0 : Int32) (1 : Int32) (1 : Int32)).2 1 0)) C h.1 0 (mW_c0 _ _ _) fl_X5_75 rfl dX5_draft_27 ?_
      refine lv_iconst (pc := 30) (v := 1) hx hb dX5_draft_30 (by decide) ?_
      refine lv_iadd (pc := 31) hx hb dX5_draft_31 ?_
      obtain ⟨t1, et1, hf⟩ := ltS hf
      refine g_puti (pc := 32) (v := (((f_X5_goes σ (0 : Int32) (1 : Int32) (1 : Int32)).2 1 0) + (1 : Int32))) (ws' := (mW q cA t1)) C h 0 (mW_c0 _ _ _) fp_X5_75 (Nat.le_of_ble_eq_true rfl) ((mW_w0_1 _ _ _ _).trans (congrArg (mW q cA) et1.symm)) dX5_draft_32 (fun H locs h => ?_)
      refine lv_aload_n (pc := 35) hx hb dX5_draft_35 rfl (lv_at hl 0 rfl) ?_
      refine g_get (pc := 36) (v := .int (t1 1 0)) C h.1 0 (mW_c0 _ _ _) fl_X5_75 rfl dX5_draft_36 ?_
      refine lv_iconst (pc := 39) (v := 1) hx hb dX5_draft_39 (by decide) ?_
      refine lv_isub (pc := 40) hx hb dX5_draft_40 ?_
      have hf : (((t1 1 0) - (1 : Int32)), t1) = z := hf
      subst hf
      exact ret_iU (pc := 41) C hr h dX5_draft_41
    · have hf := ifT c9 hf
      refine lv_iconst (pc := 23) (v := 0) hx hb dX5_draft_23 (by decide) ?_
      have hf : ((0 : Int32), (f_X5_goes σ (0 : Int32) (1 : Int32) (1 : Int32)).2) = z := hf
      subst hf
      exact ret_iU (pc := 24) C hr h dX5_draft_24
  · have hf := ifF c9 hf
    refine lv_iconst (pc := 10) (v := 1) hx hb dX5_draft_10 (by decide) ?_
    refine lv_goto (pc := 11) (tgt := 15) hx hb dX5_draft_11 (by decide) ?_
    refine lv_iconst (pc := 15) (v := 1) hx hb dX5_draft_15 (by decide) ?_
    refine lv_iconst (pc := 16) (v := 1) hx hb dX5_draft_16 (by decide) ?_
    refine call_VUs (pc := 17) (As := [.int (1 : Int32), .int (1 : Int32), .int (1 : Int32)]) (rest := []) C h (k_X5_goes σ (1 : Int32) (1 : Int32) (1 : Int32) rfl) cw_X5_123 0 (mW_c0 _ _ _) rfl (mW_fst _ _ _ _) rfl rfl hl.1 (Nat.le_of_ble_eq_true rfl) dX5_draft_17 ⟨Nat.le_of_ble_eq_true rfl, Nat.le_of_ble_eq_true rfl⟩ rfl rfl ⟨Nat.le_of_ble_eq_true rfl, Nat.le_of_ble_eq_true rfl⟩ (fun H locs h => ?_)
    refine W.eq (g2 := F0 m 20 ls [.int (f_X5_goes σ (1 : Int32) (1 : Int32) (1 : Int32)).1]) rfl ?_
    refine lv_if_ne (pc := 20) (tgt := 25) hx hb dX5_draft_20 (by decide) (fun c9 => ?_) (fun c9 => ?_)
    · have hf := ifF c9 hf
      refine lv_aload_n (pc := 25) hx hb dX5_draft_25 rfl (lv_at hl 0 rfl) ?_
      refine lv_dup (pc := 26) hx hb dX5_draft_26 rfl ?_
      refine g_get (pc := 27) (v := .int ((f_X5_goes σ (1 : Int32) (1 : Int32) (1 : Int32)).2 1 0)) C h.1 0 (mW_c0 _ _ _) fl_X5_75 rfl dX5_draft_27 ?_
      refine lv_iconst (pc := 30) (v := 1) hx hb dX5_draft_30 (by decide) ?_
      refine lv_iadd (pc := 31) hx hb dX5_draft_31 ?_
      obtain ⟨t2, et2, hf⟩ := ltS hf
      refine g_puti (pc := 32) (v := (((f_X5_goes σ (1 : Int32) (1 : Int32) (1 : Int32)).2 1 0) + (1 : Int32))) (ws' := (mW q cA t2)) C h 0 (mW_c0 _ _ _) fp_X5_75 (Nat.le_of_ble_eq_true rfl) ((mW_w0_1 _ _ _ _).trans (congrArg (mW q cA) et2.symm)) dX5_draft_32 (fun H locs h => ?_)
      refine lv_aload_n (pc := 35) hx hb dX5_draft_35 rfl (lv_at hl 0 rfl) ?_
      refine g_get (pc := 36) (v := .int (t2 1 0)) C h.1 0 (mW_c0 _ _ _) fl_X5_75 rfl dX5_draft_36 ?_
      refine lv_iconst (pc := 39) (v := 1) hx hb dX5_draft_39 (by decide) ?_
      refine lv_isub (pc := 40) hx hb dX5_draft_40 ?_
      have hf : (((t2 1 0) - (1 : Int32)), t2) = z := hf
      subst hf
      exact ret_iU (pc := 41) C hr h dX5_draft_41
    · have hf := ifT c9 hf
      refine lv_iconst (pc := 23) (v := 0) hx hb dX5_draft_23 (by decide) ?_
      have hf : ((0 : Int32), (f_X5_goes σ (1 : Int32) (1 : Int32) (1 : Int32)).2) = z := hf
      subst hf
      exact ret_iU (pc := 24) C hr h dX5_draft_24
abbrev rm_X5_adds : Room := { frames := 0, cells := 0, slots := 0, locals := 0 }
def f_X5_adds (σ : Nat → Nat → Int32) (x1 x2 x3 : Int32) : Option (Int32 × (Nat → Nat → Int32)) := (if inb x1 6 then (if inb (((8 : Int32) * x1) + ((σ 2) x1.toNatClampNeg)) 48 then (lt (va_up σ 6 (upd (σ 6) (((8 : Int32) * x1) + ((σ 2) x1.toNatClampNeg)).toNatClampNeg x2)) fun t1 => (if inb x1 6 then (if inb (((8 : Int32) * x1) + ((t1 2) x1.toNatClampNeg)) 48 then (lt (va_up t1 7 (upd (t1 7) (((8 : Int32) * x1) + ((t1 2) x1.toNatClampNeg)).toNatClampNeg x3)) fun t2 => (if inb x1 6 then (if inb x1 6 then (lt (va_up t2 2 (upd (t2 2) x1.toNatClampNeg (((t2 2) x1.toNatClampNeg) + (1 : Int32)))) fun t3 => (if inb x1 6 then (some ((((t3 2) x1.toNatClampNeg) - (1 : Int32)), t3)) else none)) else none) else none)) else none) else none)) else none) else none)
set_option maxHeartbeats 400000 in
set_option maxRecDepth 100000 in
theorem k_X5_adds {q : Nat → Nat} {cA : Nat → ClassId} {D : va_G} (σ : Nat → Nat → Int32) (x1 x2 x3 : Int32) {z : Int32 × (Nat → Nat → Int32)} (hf : f_X5_adds σ x1 x2 x3 = some z) : CtU yX5_adds cX5_adds 4 (some .int) rm_X5_adds [.ref (q 0), .int x1, .int x2, .int x3] D cA (mW q cA σ) (mW q cA z.2) (some (.int z.1)) 0 0 := by
  refine ctU_of (by decide) (Nat.le_of_ble_eq_true rfl) ?_
  intro p l e s m below meth c ls C hr hnm h hl
  have C : Cx p s m _ meth c cX5_adds 4 RX5 D cA := C
  obtain ⟨hx, hb, hml, hown, hts, hK, hlk⟩ := id C
  replace hl : lv_has ls 4 [(0, .ref (q 0)), (1, .int x1), (2, .int x2), (3, .int x3)] := hl
  rw [f_X5_adds] at hf
  refine lv_aload_n (pc := 0) hx hb dX5_adds_0 rfl (lv_at hl 0 rfl) ?_
  refine g_get (pc := 1) (v := .ref (q 5)) C h.1 0 (mW_c0 _ _ _) fl_X5_22 rfl dX5_adds_1 ?_
  refine lv_bipush (pc := 4) (v := 8) hx hb dX5_adds_4 (by decide) ?_
  refine lv_iload_n (pc := 6) hx hb dX5_adds_6 rfl (lv_at hl 1 rfl) ?_
  refine lv_imul (pc := 7) hx hb dX5_adds_7 ?_
  refine lv_aload_n (pc := 8) hx hb dX5_adds_8 rfl (lv_at hl 0 rfl) ?_
  refine g_get (pc := 9) (v := .ref (q 1)) C h.1 0 (mW_c0 _ _ _) fl_X5_7 rfl dX5_adds_9 ?_
  refine lv_iload_n (pc := 12) hx hb dX5_adds_12 rfl (lv_at hl 1 rfl) ?_
  obtain ⟨hin, hf⟩ := ifS hf
  refine g_ild (pc := 13) (n := 6) (f := (σ 2)) C h.1 1 (mW_c1 _ _ _) hin dX5_adds_13 ?_
  refine lv_iadd (pc := 14) hx hb dX5_adds_14 ?_
  refine lv_iload_n (pc := 15) hx hb dX5_adds_15 rfl (lv_at hl 2 rfl) ?_
  obtain ⟨hin, hf⟩ := ifS hf
  obtain ⟨t1, et1, hf⟩ := ltS hf
  refine g_ist (pc := 16) (n := 48) (f := (σ 6)) (ws' := (mW q cA t1)) C h 5 (mW_c5 _ _ _) hin ((mW_w5 _ _ _ _).trans (congrArg (mW q cA) et1.symm)) dX5_adds_16 (fun H locs h => ?_)
  refine lv_aload_n (pc := 17) hx hb dX5_adds_17 rfl (lv_at hl 0 rfl) ?_
  refine g_get (pc := 18) (v := .ref (q 6)) C h.1 0 (mW_c0 _ _ _) fl_X5_25 rfl dX5_adds_18 ?_
  refine lv_bipush (pc := 21) (v := 8) hx hb dX5_adds_21 (by decide) ?_
  refine lv_iload_n (pc := 23) hx hb dX5_adds_23 rfl (lv_at hl 1 rfl) ?_
  refine lv_imul (pc := 24) hx hb dX5_adds_24 ?_
  refine lv_aload_n (pc := 25) hx hb dX5_adds_25 rfl (lv_at hl 0 rfl) ?_
  refine g_get (pc := 26) (v := .ref (q 1)) C h.1 0 (mW_c0 _ _ _) fl_X5_7 rfl dX5_adds_26 ?_
  refine lv_iload_n (pc := 29) hx hb dX5_adds_29 rfl (lv_at hl 1 rfl) ?_
  obtain ⟨hin, hf⟩ := ifS hf
  refine g_ild (pc := 30) (n := 6) (f := (t1 2)) C h.1 1 (mW_c1 _ _ _) hin dX5_adds_30 ?_
  refine lv_iadd (pc := 31) hx hb dX5_adds_31 ?_
  refine lv_iload_n (pc := 32) hx hb dX5_adds_32 rfl (lv_at hl 3 rfl) ?_
  obtain ⟨hin, hf⟩ := ifS hf
  obtain ⟨t2, et2, hf⟩ := ltS hf
  refine g_ist (pc := 33) (n := 48) (f := (t1 7)) (ws' := (mW q cA t2)) C h 6 (mW_c6 _ _ _) hin ((mW_w6 _ _ _ _).trans (congrArg (mW q cA) et2.symm)) dX5_adds_33 (fun H locs h => ?_)
  refine lv_aload_n (pc := 34) hx hb dX5_adds_34 rfl (lv_at hl 0 rfl) ?_
  refine g_get (pc := 35) (v := .ref (q 1)) C h.1 0 (mW_c0 _ _ _) fl_X5_7 rfl dX5_adds_35 ?_
  refine lv_iload_n (pc := 38) hx hb dX5_adds_38 rfl (lv_at hl 1 rfl) ?_
  refine lv_dup2_11 (pc := 39) hx hb dX5_adds_39 rfl rfl ?_
  obtain ⟨hin, hf⟩ := ifS hf
  refine g_ild (pc := 40) (n := 6) (f := (t2 2)) C h.1 1 (mW_c1 _ _ _) hin dX5_adds_40 ?_
  refine lv_iconst (pc := 41) (v := 1) hx hb dX5_adds_41 (by decide) ?_
  refine lv_iadd (pc := 42) hx hb dX5_adds_42 ?_
  obtain ⟨hin, hf⟩ := ifS hf
  obtain ⟨t3, et3, hf⟩ := ltS hf
  refine g_ist (pc := 43) (n := 6) (f := (t2 2)) (ws' := (mW q cA t3)) C h 1 (mW_c1 _ _ _) hin ((mW_w1 _ _ _ _).trans (congrArg (mW q cA) et3.symm)) dX5_adds_43 (fun H locs h => ?_)
  refine lv_aload_n (pc := 44) hx hb dX5_adds_44 rfl (lv_at hl 0 rfl) ?_
  refine g_get (pc := 45) (v := .ref (q 1)) C h.1 0 (mW_c0 _ _ _) fl_X5_7 rfl dX5_adds_45 ?_
  refine lv_iload_n (pc := 48) hx hb dX5_adds_48 rfl (lv_at hl 1 rfl) ?_
  obtain ⟨hin, hf⟩ := ifS hf
  refine g_ild (pc := 49) (n := 6) (f := (t3 2)) C h.1 1 (mW_c1 _ _ _) hin dX5_adds_49 ?_
  refine lv_iconst (pc := 50) (v := 1) hx hb dX5_adds_50 (by decide) ?_
  refine lv_isub (pc := 51) hx hb dX5_adds_51 ?_
  have hf : (some ((((t3 2) x1.toNatClampNeg) - (1 : Int32)), t3)) = some z := hf
  cases hf
  exact ret_iU (pc := 52) C hr h dX5_adds_52
end
end
section
theorem zz_look : True := trivial
end
