/-! My layer: one list of words for all methods, one context, one state predicate; rows over them. -/
section GB
def WS : List Cond := lw_tbl.filter goodWord
theorem ws_mem {w : Cond} (h : w ∈ lw_tbl) (g : goodWord w = true) : w ∈ WS := List.mem_filter.mpr ⟨h, g⟩
theorem wm {w : Cond} (i : Nat) (h : tables_1[i]? = some w) (g : goodWord w = true) : w ∈ WS := ws_mem (List.mem_append_right _ (List.mem_of_getElem? h)) g
theorem wsel {w : Cond} (i : Nat) (h : (k2_sels lw_privs)[i]? = some w) (g : goodWord w = true) : w ∈ WS := ws_mem (List.mem_append_left _ (List.mem_of_getElem? h)) g
theorem ws_goodIn {ws : List Cond} (h : ∀ w ∈ ws, w ∈ WS) : GoodIn WS ws := fun w hw => ⟨h w hw, good_of_word (List.mem_filter.mp (h w hw)).2⟩
def mws (y : MethodName) (cc : ByteArray) (maxL : Nat) (ret : Option FieldType) : List Cond := .code y cc maxL ret :: WS
theorem mws_in {y : MethodName} {cc : ByteArray} {maxL : Nat} {ret : Option FieldType} (h : Cond.code y cc maxL ret ∈ WS) : ∀ w ∈ mws y cc maxL ret, w ∈ WS := fun w hw => by
  rcases List.mem_cons.mp hw with rfl | h2
  · exact h
  · exact h2
def tyl (cA : Nat → ClassId) : List (ClassId × FieldType) := [(cA 0, .int), (cA 1, .object RX0), (cA 2, .object RX3)]
def NwG (U : State) : Prop := va_Nw (.methodLinkNest RX4 30 yX3_init RX4) U ∧ va_Nw (.methodLinkNest RX4 42 yX0_init RX4) U ∧ va_Nw (.methodLinkNest RX0 34 yX1_init RX4) U ∧ va_Nw (.methodLinkNest RX0 46 yX4_has RX4) U
def KG (D : va_G) (cA : Nat → ClassId) (U : State) : Prop := va_K D vwCl (tyl cA) U ∧ NwG U
theorem KG.warm {D : va_G} {cA : Nat → ClassId} {s U : State} (hW : s.WarmedH U.vm) (h : KG D cA s) : KG D cA U :=
  ⟨va_K.moved hW.alike h.1, va_Nw.warmM hW h.2.1, va_Nw.warmM hW h.2.2.1, va_Nw.warmM hW h.2.2.2.1, va_Nw.warmM hW h.2.2.2.2⟩
theorem KG.same {D : va_G} {cA : Nat → ClassId} {s U : State} (hv : s.vm = U.vm) (h : KG D cA s) : KG D cA U :=
  ⟨va_K.moved (by rw [hv]; exact Vm.Alike.refl _) h.1, va_Nw.same rfl hv h.2.1, va_Nw.same rfl hv h.2.2.1, va_Nw.same rfl hv h.2.2.2.1, va_Nw.same rfl hv h.2.2.2.2⟩
/-- a method's fixed facts -/
def Cx (p : Program) (s : State) (m : MethodId) (args : Array Value) (meth : Method) (c : Code) (cc : ByteArray) (nL : Nat) (own : String) (D : va_G) (cA : Nat → ClassId) : Prop :=
  p.tables.exec = Jvm.exec ∧ c.code = cc ∧ c.maxLocals = nL ∧ s.vm.findClass own = some m.cls ∧ (∀ w ∈ WS, w.before args s = true) ∧ KG D cA s ∧ meth.locks = false
/-- the world of a walk that may write its cells -/
def St (D : va_G) (A : Nat → Prop) (H0 : Heap) (ws : va_W) (H : Heap) (locs : List Loc) : Prop := va_P D vwCl ws H ∧ va_D A ws ∧ va_S A H0 H locs ∧ ∀ q : Nat, H0.size ≤ q → A q
/-- the world of a walk that writes none of the old cells -/
def SR (D : va_G) (H0 : Heap) (ws : va_W) (H : Heap) (locs : List Loc) : Prop := va_P D vwCl ws H ∧ va_D (fun _ => True) ws ∧ va_S (fun q => H0.size ≤ q) H0 H locs
def PreC (D : va_G) (cA : Nat → ClassId) (sz : Nat) (ws : va_W) (As : List Value) : Array Value → State → Prop := va_Pc As (fun U => U.heap.size = sz ∧ va_P D vwCl ws U.heap ∧ KG D cA U ∧ va_D (fun _ => True) ws)
theorem PreC.blind {D : va_G} {cA : Nat → ClassId} {sz : Nat} {ws : va_W} {As : List Value} : FrameBlind (PreC D cA sz ws As) := fun a U g mk h => ⟨h.1, h.2.1, h.2.2.1, KG.same (s := U) (U := U.calling g mk a) rfl h.2.2.2.1, h.2.2.2.2⟩
def PostU (D : va_G) (ws ws' : va_W) (sz : Nat) (v : Option Value) : Array Value → State → Outcome → State → Prop := fun _ st oc t => oc = .returned v ∧ va_P D vwCl ws' t.heap ∧ va_F (va_A ws sz) st t
def PostR (v : Option Value) : Array Value → State → Outcome → State → Prop := fun _ st oc t => oc = .returned v ∧ va_F (fun q => st.heap.size ≤ q) st t
def CtU (y : MethodName) (cc : ByteArray) (maxL : Nat) (ret : Option FieldType) (rm : Room) (As : List Value) (D : va_G) (cA : Nat → ClassId) (ws ws' : va_W) (v : Option Value) (mc ms : Nat) : Prop :=
  ∀ (l : Launch) (sz : Nat), Met l y (mws y cc maxL ret) rm (PreC D cA sz ws As) (PostU D ws ws' sz v) mc ms (va_A ws sz)
def CtR (y : MethodName) (cc : ByteArray) (maxL : Nat) (ret : Option FieldType) (rm : Room) (As : List Value) (D : va_G) (cA : Nat → ClassId) (ws : va_W) (v : Option Value) (mc ms : Nat) : Prop :=
  ∀ (l : Launch) (sz : Nat), Met l y (mws y cc maxL ret) rm (PreC D cA sz ws As) (PostR v) mc ms (fun q => sz ≤ q)
/-- cells of a world by others at the same addresses -/
def putl (ws : va_W) (zs : List (Nat × (Nat × va_E))) : va_W := zs.foldl (fun w x => w.set x.1 x.2) ws
theorem putl_at : ∀ (zs : List (Nat × (Nat × va_E))) (ws : va_W) (k : Nat) (q : Nat × va_E), (putl ws zs)[k]? = some q → (∃ x ∈ zs, x.1 = k ∧ x.2 = q) ∨ (ws[k]? = some q ∧ ∀ x ∈ zs, x.1 ≠ k)
  | [], ws, k, q, h => Or.inr ⟨h, fun x hx => by cases hx⟩
  | z :: zs, ws, k, q, h => by
    rcases putl_at zs (ws.set z.1 z.2) k q h with ⟨x, h1, h2⟩ | ⟨h1, h2⟩
    · exact Or.inl ⟨x, List.mem_cons_of_mem _ h1, h2⟩
    · by_cases hz : z.1 = k
      · subst hz
        by_cases hl : z.1 < ws.length
        · rw [List.getElem?_set_self hl] at h1
          exact Or.inl ⟨z, List.mem_cons_self, rfl, Option.some.inj h1⟩
        · rw [List.getElem?_eq_none (by simp; omega)] at h1
          cases h1
      · rw [List.getElem?_set_ne hz] at h1
        refine Or.inr ⟨h1, fun x hx => ?_⟩
        rcases List.mem_cons.mp hx with rfl | h3
        · exact hz
        · exact h2 x h3
theorem zip_at {isC : List Nat} {wc wc' ws : va_W} (hC : isC.map (fun i => ws[i]?) = wc.map some) (hf : wc'.map (fun q => q.1) = wc.map (fun q => q.1)) {x : Nat × (Nat × va_E)} (hx : x ∈ isC.zip wc') : ∃ (j : Nat) (q : Nat × va_E), wc'[j]? = some x.2 ∧ wc[j]? = some q ∧ ws[x.1]? = some q ∧ q.1 = x.2.1 := by
  obtain ⟨j, hj⟩ := List.getElem?_of_mem hx
  rw [List.getElem?_zip_eq_some] at hj
  obtain ⟨h1, h2⟩ := hj
  have h3 : (isC.map (fun i => ws[i]?))[j]? = some (ws[x.1]?) := by rw [List.getElem?_map, h1]; rfl
  rw [hC, List.getElem?_map] at h3
  have h4 : (wc'.map (fun q => q.1))[j]? = some x.2.1 := by rw [List.getElem?_map, h2]; rfl
  rw [hf, List.getElem?_map] at h4
  cases hq : wc[j]? with
  | none => rw [hq] at h3; cases h3
  | some q =>
    rw [hq] at h3 h4
    exact ⟨j, q, h2, hq, (Option.some.inj h3).symm, Option.some.inj h4⟩
theorem map_at {isC : List Nat} {wc ws : va_W} (hC : isC.map (fun i => ws[i]?) = wc.map some) {j : Nat} {q : Nat × va_E} (hq : wc[j]? = some q) : ∃ i, isC[j]? = some i ∧ ws[i]? = some q := by
  have h1 : (isC.map (fun i => ws[i]?))[j]? = some (some q) := by rw [hC, List.getElem?_map, hq]; rfl
  rw [List.getElem?_map] at h1
  cases hi : isC[j]? with
  | none => rw [hi] at h1; cases h1
  | some i => rw [hi] at h1; exact ⟨i, rfl, Option.some.inj h1⟩
theorem sub_P {D : va_G} {ws wc : va_W} {H : Heap} (h : va_P D vwCl ws H) {isC : List Nat} (hC : isC.map (fun i => ws[i]?) = wc.map some) : va_P D vwCl wc H := fun j q hq => by
  obtain ⟨i, -, h2⟩ := map_at hC hq
  exact h i q h2
theorem sub_D {A : Nat → Prop} {ws wc : va_W} (h : va_D A ws) {isC : List Nat} (hC : isC.map (fun i => ws[i]?) = wc.map some) (hn : va_nd isC = true) : va_D A wc := by
  refine ⟨fun i j x y hi hj hxy => ?_, fun k q hk => ?_⟩
  · obtain ⟨a, h1, h2⟩ := map_at hC hi
    obtain ⟨b, h3, h4⟩ := map_at hC hj
    have hab := h.1 a b x y h2 h4 hxy
    subst hab
    exact va_nd_inj isC hn i j a h1 h3
  · obtain ⟨a, -, h2⟩ := map_at hC hk
    exact h.2 a q h2
theorem join_S {D : va_G} {A : Nat → Prop} {ws wc wc' : va_W} {H H1 : Heap} {isC : List Nat} (hP : va_P D vwCl ws H) (hD : va_D A ws) (hC : isC.map (fun i => ws[i]?) = wc.map some) (hf : wc'.map (fun q => q.1) = wc.map (fun q => q.1)) (hl : isC.length = wc'.length)
    (hk : ∀ q : Nat, q < H.size → ¬ va_A wc H.size q → H1[q]? = H[q]?) (hP1 : va_P D vwCl wc' H1) : va_P D vwCl (putl ws (isC.zip wc')) H1 ∧ va_D A (putl ws (isC.zip wc')) := by
  have key : ∀ (k : Nat) (q : Nat × va_E), (putl ws (isC.zip wc'))[k]? = some q → ∃ q0, ws[k]? = some q0 ∧ q0.1 = q.1 := by
    intro k q hq
    rcases putl_at _ _ _ _ hq with ⟨x, hx, h1, h2⟩ | ⟨h1, -⟩
    · obtain ⟨j, q0, -, -, h3, h4⟩ := zip_at hC hf hx
      exact ⟨q0, by rw [← h1]; exact h3, by rw [← h2]; exact h4⟩
    · exact ⟨q, h1, rfl⟩
  refine ⟨fun k q hq => ?_, fun i j x y hi hj hxy => ?_, fun k q hq => ?_⟩
  · rcases putl_at _ _ _ _ hq with ⟨x, hx, h1, h2⟩ | ⟨h1, h2⟩
    · obtain ⟨j, q0, h3, -⟩ := zip_at hC hf hx
      rw [← h2]
      exact hP1 j _ h3
    · refine (hP k q h1).kept (hk q.1 (hP k q h1).lt (fun hz => ?_))
      rcases hz with ⟨j, e, hj⟩ | hz
      · obtain ⟨i, hi1, hi2⟩ := map_at hC hj
        have hik := hD.1 k i q (q.1, e) h1 hi2 rfl
        subst hik
        have hjl : j < isC.length := (List.getElem?_eq_some_iff.mp hi1).1
        have hjl' : j < wc'.length := by omega
        have hm : (k, wc'[j]) ∈ isC.zip wc' := List.mem_of_getElem? (i := j) (by rw [List.getElem?_zip_eq_some]; exact ⟨hi1, List.getElem?_eq_getElem hjl'⟩)
        exact h2 _ hm rfl
      · have := (hP k q h1).lt
        omega
  · obtain ⟨x0, h1, h2⟩ := key i x hi
    obtain ⟨y0, h3, h4⟩ := key j y hj
    exact hD.1 i j x0 y0 h1 h3 (h2.trans (hxy.trans h4.symm))
  · obtain ⟨q0, h1, h2⟩ := key k q hq
    rw [← h2]
    exact hD.2 k q0 h1
end GB
