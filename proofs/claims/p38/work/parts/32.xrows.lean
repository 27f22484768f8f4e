/-! The desk's cells by their places; the desk's own two finders -/
section
variable {p : Program} {l : Launch} {e : Env} {R : Room} {s : State} {m : MethodId} {args : Array Value} {below : List Frame} {meth : Method} {c : Code} {H : Heap} {locs : List Loc} {cells slots : Nat} {Q : State → Prop}
variable {cc : ByteArray} {nL : Nat} {own : String} {D : va_G} {cA : Nat → ClassId} {A : Nat → Prop} {ws ws' : va_W} {pc : Nat} {ls : Array Slot} {rest : List Value} {H0 : Heap}
def xb {α β : Type} (x : Option (String ⊕ α)) (k : α → Option (String ⊕ β)) : Option (String ⊕ β) := match x with
  | none => none
  | some (.inl E) => some (.inl E)
  | some (.inr v) => k v
def xn {α β : Type} (x : Option (String ⊕ α)) (k : α → Option β) : Option β := match x with
  | some (.inr v) => k v
  | _ => none
theorem xbR {α β : Type} {x : Option (String ⊕ α)} {k : α → Option (String ⊕ β)} {z : β} (h : xb x k = some (.inr z)) : ∃ v, x = some (.inr v) ∧ k v = some (.inr z) := by
  match x, h with
  | none, h => cases h
  | some (.inl E), h => cases h
  | some (.inr v), h => exact ⟨v, rfl, h⟩
theorem xbT {α β : Type} {x : Option (String ⊕ α)} {k : α → Option (String ⊕ β)} {E : String} (h : xb x k = some (.inl E)) : x = some (.inl E) ∨ ∃ v, x = some (.inr v) ∧ k v = some (.inl E) := by
  match x, h with
  | none, h => cases h
  | some (.inl E'), h =>
    have h : some (Sum.inl E') = some (Sum.inl E) := h
    cases h
    exact Or.inl rfl
  | some (.inr v), h => exact Or.inr ⟨v, rfl, h⟩
theorem xnS {α β : Type} {x : Option (String ⊕ α)} {k : α → Option β} {z : β} (h : xn x k = some z) : ∃ v, x = some (.inr v) ∧ k v = some z := by
  match x, h with
  | none, h => cases h
  | some (.inl E), h => cases h
  | some (.inr v), h => exact ⟨v, rfl, h⟩
theorem ret_vR (C : Cx p s m args meth c cc nL own D cA) (hr : meth.sig.returnType = none) (h : SR D s.heap ws H locs) (hdg : decode cc pc = .ok (.return_, 1)) :
    W p l e R s m args below meth c H locs cells slots (MQ below (PostR none) args s cells slots (fun q => s.heap.size ≤ q)) (F0 m pc ls []) :=
  W.vret C.1 C.2.1 hr (fun t ht hW => ⟨rfl, h.2.2.F ht⟩) h.2.2.2.2 hdg (hlocks := C.2.2.2.2.2.2)
theorem ret_aR (C : Cx p s m args meth c cc nL own D cA) {rn : String} (hr : meth.sig.returnType = some (.object rn)) {a : Nat} (h : SR D s.heap ws H locs) (hdg : decode cc pc = .ok (.areturn, 1)) :
    W p l e R s m args below meth c H locs cells slots (MQ below (PostR (some (.ref a))) args s cells slots (fun q => s.heap.size ≤ q)) (F0 m pc ls [.ref a]) :=
  W.aret C.1 C.2.1 hr (Or.inl ⟨_, rfl⟩) (Or.inr ⟨_, rfl⟩) (fun t ht hW => ⟨rfl, h.2.2.F ht⟩) h.2.2.2.2 hdg (hlocks := C.2.2.2.2.2.2)
theorem ret_fR (C : Cx p s m args meth c cc nL own D cA) (hr : meth.sig.returnType = some .float) {v : UInt32} (h : SR D s.heap ws H locs) (hdg : decode cc pc = .ok (.freturn, 1)) :
    W p l e R s m args below meth c H locs cells slots (MQ below (PostR (some (.float v))) args s cells slots (fun q => s.heap.size ≤ q)) (F0 m pc ls [.float v]) :=
  W.fret C.1 C.2.1 hr (fun t ht hW => ⟨rfl, h.2.2.F ht⟩) h.2.2.2.2 hdg (hlocks := C.2.2.2.2.2.2)
theorem ret_fU (C : Cx p s m args meth c cc nL own D cA) (hr : meth.sig.returnType = some .float) {v : UInt32} (h : St D (va_A ws s.heap.size) s.heap ws' H locs) (hdg : decode cc pc = .ok (.freturn, 1)) :
    W p l e R s m args below meth c H locs cells slots (MQ below (PostU D ws ws' s.heap.size (some (.float v))) args s cells slots (va_A ws s.heap.size)) (F0 m pc ls [.float v]) :=
  W.fret C.1 C.2.1 hr (fun t ht hW => ⟨rfl, by rw [ht]; exact h.1, h.2.2.1.F ht⟩) h.2.2.1.2.2 hdg (hlocks := C.2.2.2.2.2.2)
/-- a person's standin as a state of its own; an envelope with the row of the ways -/
def ds (σ0 : Nat → Nat → Int32) (p : Nat) : Nat → Nat → Int32 := fun c _ => σ0 (3 + p) c
def eo (τ : Nat → Nat → Int32) (g : Nat → Int32) : Nat → Nat → Int32 := fun c => if c = 17 then g else τ c
def eoq (a b : Nat → Nat) : Nat → Nat := fun i => if i < 20 then a i else b (i - 17)
theorem p8 {p : Nat} {P : Nat → Prop} (hp : p < 8) (h0 : P 0) (h1 : P 1) (h2 : P 2) (h3 : P 3) (h4 : P 4) (h5 : P 5) (h6 : P 6) (h7 : P 7) : P p := by
  rcases (show p = 0 ∨ p = 1 ∨ p = 2 ∨ p = 3 ∨ p = 4 ∨ p = 5 ∨ p = 6 ∨ p = 7 by omega) with rfl | rfl | rfl | rfl | rfl | rfl | rfl | rfl <;> assumption
theorem sW_c0 (n : Nat) (q0 : Nat → Nat) (q : Nat → Nat → Nat) (cA : Nat → ClassId) (σ0 : Nat → Nat → Int32) (σ : Nat → Nat → Nat → Int32) : (sW n q0 q cA σ0 σ)[0]? = some (q0 0, .inr (4, [.ref (q0 1), .ref (q0 2), .ref (q0 3), .int (nI n), .int (σ0 1 0)])) := rfl
theorem sW_c1 (n : Nat) (q0 : Nat → Nat) (q : Nat → Nat → Nat) (cA : Nat → ClassId) (σ0 : Nat → Nat → Int32) (σ : Nat → Nat → Nat → Int32) : (sW n q0 q cA σ0 σ)[1]? = some (q0 1, .inl (cA 1, 6, .inr (.inr (.inr (.inr (fun i => if i < n then some (q i 0) else none)))))) := rfl
theorem sW_c2 (n : Nat) (q0 : Nat → Nat) (q : Nat → Nat → Nat) (cA : Nat → ClassId) (σ0 : Nat → Nat → Int32) (σ : Nat → Nat → Nat → Int32) : (sW n q0 q cA σ0 σ)[2]? = some (q0 2, .inl (cA 2, 8, .inr (.inr (.inr (.inr (fun i => if i < 8 then some (q0 (5 + i)) else none)))))) := rfl
theorem sW_c3 (n : Nat) (q0 : Nat → Nat) (q : Nat → Nat → Nat) (cA : Nat → ClassId) (σ0 : Nat → Nat → Int32) (σ : Nat → Nat → Nat → Int32) : (sW n q0 q cA σ0 σ)[3]? = some (q0 3, .inr (2, [.ref (q0 4)])) := rfl
theorem sW_c4 (n : Nat) (q0 : Nat → Nat) (q : Nat → Nat → Nat) (cA : Nat → ClassId) (σ0 : Nat → Nat → Int32) (σ : Nat → Nat → Nat → Int32) : (sW n q0 q cA σ0 σ)[4]? = some (q0 4, .inl (cA 0, 256, .inl (σ0 2))) := rfl
theorem sW_cs {p : Nat} (hp : p < 8) (n : Nat) (q0 : Nat → Nat) (q : Nat → Nat → Nat) (cA : Nat → ClassId) (σ0 : Nat → Nat → Int32) (σ : Nat → Nat → Nat → Int32) : (sW n q0 q cA σ0 σ)[5 + p]? = some (q0 (5 + p), .inr (3, [.int (σ0 (3 + p) 0), .int (σ0 (3 + p) 1), .int (σ0 (3 + p) 2), .int (σ0 (3 + p) 3), .int (σ0 (3 + p) 4)])) := p8 (P := fun p => (sW n q0 q cA σ0 σ)[5 + p]? = some (q0 (5 + p), .inr (3, [.int (σ0 (3 + p) 0), .int (σ0 (3 + p) 1), .int (σ0 (3 + p) 2), .int (σ0 (3 + p) 3), .int (σ0 (3 + p) 4)]))) hp rfl rfl rfl rfl rfl rfl rfl rfl
theorem sW_ds {p : Nat} (hp : p < 8) (n : Nat) (q0 : Nat → Nat) (q : Nat → Nat → Nat) (cA : Nat → ClassId) (σ0 : Nat → Nat → Int32) (σ : Nat → Nat → Nat → Int32) : [5 + p].map (fun i => (sW n q0 q cA σ0 σ)[i]?) = (dW (fun i => q0 (5 + p)) cA (ds σ0 p)).map some := by
  show [(sW n q0 q cA σ0 σ)[5 + p]?] = _
  rw [sW_cs hp]
  rfl
theorem sW_f (n : Nat) (q0 : Nat → Nat) (q : Nat → Nat → Nat) (cA : Nat → ClassId) (σ0 : Nat → Nat → Int32) (σ : Nat → Nat → Nat → Int32) : (List.range 13).map (fun i => (sW n q0 q cA σ0 σ)[i]?) = (fW n q0 q cA σ0).map some := rfl
theorem sW_ws0 {p : Nat} (hp : p < 8) (n : Nat) (q0 : Nat → Nat) (q : Nat → Nat → Nat) (cA : Nat → ClassId) (σ0 : Nat → Nat → Int32) (σ : Nat → Nat → Nat → Int32) (v : Int32) : (sW n q0 q cA σ0 σ).set (5 + p) (q0 (5 + p), .inr (3, [.int (σ0 (3 + p) 0), .int (σ0 (3 + p) 1), .int (σ0 (3 + p) 2), .int (σ0 (3 + p) 3), .int (σ0 (3 + p) 4)].set 0 (.int v))) = (sW n q0 q cA (va_up σ0 (3 + p) (upd (σ0 (3 + p)) 0 v)) σ) := p8 (P := fun p => (sW n q0 q cA σ0 σ).set (5 + p) (q0 (5 + p), .inr (3, [.int (σ0 (3 + p) 0), .int (σ0 (3 + p) 1), .int (σ0 (3 + p) 2), .int (σ0 (3 + p) 3), .int (σ0 (3 + p) 4)].set 0 (.int v))) = (sW n q0 q cA (va_up σ0 (3 + p) (upd (σ0 (3 + p)) 0 v)) σ)) hp rfl rfl rfl rfl rfl rfl rfl rfl
theorem sW_ws1 {p : Nat} (hp : p < 8) (n : Nat) (q0 : Nat → Nat) (q : Nat → Nat → Nat) (cA : Nat → ClassId) (σ0 : Nat → Nat → Int32) (σ : Nat → Nat → Nat → Int32) (v : Int32) : (sW n q0 q cA σ0 σ).set (5 + p) (q0 (5 + p), .inr (3, [.int (σ0 (3 + p) 0), .int (σ0 (3 + p) 1), .int (σ0 (3 + p) 2), .int (σ0 (3 + p) 3), .int (σ0 (3 + p) 4)].set 1 (.int v))) = (sW n q0 q cA (va_up σ0 (3 + p) (upd (σ0 (3 + p)) 1 v)) σ) := p8 (P := fun p => (sW n q0 q cA σ0 σ).set (5 + p) (q0 (5 + p), .inr (3, [.int (σ0 (3 + p) 0), .int (σ0 (3 + p) 1), .int (σ0 (3 + p) 2), .int (σ0 (3 + p) 3), .int (σ0 (3 + p) 4)].set 1 (.int v))) = (sW n q0 q cA (va_up σ0 (3 + p) (upd (σ0 (3 + p)) 1 v)) σ)) hp rfl rfl rfl rfl rfl rfl rfl rfl
theorem sW_ws2 {p : Nat} (hp : p < 8) (n : Nat) (q0 : Nat → Nat) (q : Nat → Nat → Nat) (cA : Nat → ClassId) (σ0 : Nat → Nat → Int32) (σ : Nat → Nat → Nat → Int32) (v : Int32) : (sW n q0 q cA σ0 σ).set (5 + p) (q0 (5 + p), .inr (3, [.int (σ0 (3 + p) 0), .int (σ0 (3 + p) 1), .int (σ0 (3 + p) 2), .int (σ0 (3 + p) 3), .int (σ0 (3 + p) 4)].set 2 (.int v))) = (sW n q0 q cA (va_up σ0 (3 + p) (upd (σ0 (3 + p)) 2 v)) σ) := p8 (P := fun p => (sW n q0 q cA σ0 σ).set (5 + p) (q0 (5 + p), .inr (3, [.int (σ0 (3 + p) 0), .int (σ0 (3 + p) 1), .int (σ0 (3 + p) 2), .int (σ0 (3 + p) 3), .int (σ0 (3 + p) 4)].set 2 (.int v))) = (sW n q0 q cA (va_up σ0 (3 + p) (upd (σ0 (3 + p)) 2 v)) σ)) hp rfl rfl rfl rfl rfl rfl rfl rfl
theorem sW_ws3 {p : Nat} (hp : p < 8) (n : Nat) (q0 : Nat → Nat) (q : Nat → Nat → Nat) (cA : Nat → ClassId) (σ0 : Nat → Nat → Int32) (σ : Nat → Nat → Nat → Int32) (v : Int32) : (sW n q0 q cA σ0 σ).set (5 + p) (q0 (5 + p), .inr (3, [.int (σ0 (3 + p) 0), .int (σ0 (3 + p) 1), .int (σ0 (3 + p) 2), .int (σ0 (3 + p) 3), .int (σ0 (3 + p) 4)].set 3 (.int v))) = (sW n q0 q cA (va_up σ0 (3 + p) (upd (σ0 (3 + p)) 3 v)) σ) := p8 (P := fun p => (sW n q0 q cA σ0 σ).set (5 + p) (q0 (5 + p), .inr (3, [.int (σ0 (3 + p) 0), .int (σ0 (3 + p) 1), .int (σ0 (3 + p) 2), .int (σ0 (3 + p) 3), .int (σ0 (3 + p) 4)].set 3 (.int v))) = (sW n q0 q cA (va_up σ0 (3 + p) (upd (σ0 (3 + p)) 3 v)) σ)) hp rfl rfl rfl rfl rfl rfl rfl rfl
theorem sW_ws4 {p : Nat} (hp : p < 8) (n : Nat) (q0 : Nat → Nat) (q : Nat → Nat → Nat) (cA : Nat → ClassId) (σ0 : Nat → Nat → Int32) (σ : Nat → Nat → Nat → Int32) (v : Int32) : (sW n q0 q cA σ0 σ).set (5 + p) (q0 (5 + p), .inr (3, [.int (σ0 (3 + p) 0), .int (σ0 (3 + p) 1), .int (σ0 (3 + p) 2), .int (σ0 (3 + p) 3), .int (σ0 (3 + p) 4)].set 4 (.int v))) = (sW n q0 q cA (va_up σ0 (3 + p) (upd (σ0 (3 + p)) 4 v)) σ) := p8 (P := fun p => (sW n q0 q cA σ0 σ).set (5 + p) (q0 (5 + p), .inr (3, [.int (σ0 (3 + p) 0), .int (σ0 (3 + p) 1), .int (σ0 (3 + p) 2), .int (σ0 (3 + p) 3), .int (σ0 (3 + p) 4)].set 4 (.int v))) = (sW n q0 q cA (va_up σ0 (3 + p) (upd (σ0 (3 + p)) 4 v)) σ)) hp rfl rfl rfl rfl rfl rfl rfl rfl
theorem sW_w0_4 (n : Nat) (q0 : Nat → Nat) (q : Nat → Nat → Nat) (cA : Nat → ClassId) (σ0 : Nat → Nat → Int32) (σ : Nat → Nat → Nat → Int32) (v : Int32) : (sW n q0 q cA σ0 σ).set 0 (q0 0, .inr (4, [.ref (q0 1), .ref (q0 2), .ref (q0 3), .int (nI n), .int (σ0 1 0)].set 4 (.int v))) = (sW n q0 q cA (va_up σ0 1 (fun _ => v)) σ) := rfl
theorem fkW_c0 (n k : Nat) (q0 : Nat → Nat) (q : Nat → Nat → Nat) (cA : Nat → ClassId) (σ0 τ : Nat → Nat → Int32) (σ : Nat → Nat → Nat → Int32) : (fkW n k q0 q cA σ0 τ σ)[0]? = some (q0 0, .inr (4, [.ref (q0 1), .ref (q0 2), .ref (q0 3), .int (nI n), .int (σ0 1 0)])) := rfl
theorem fkW_c1 (n k : Nat) (q0 : Nat → Nat) (q : Nat → Nat → Nat) (cA : Nat → ClassId) (σ0 τ : Nat → Nat → Int32) (σ : Nat → Nat → Nat → Int32) : (fkW n k q0 q cA σ0 τ σ)[1]? = some (q0 1, .inl (cA 1, 6, .inr (.inr (.inr (.inr (fun i => if i < n then some (q i 0) else none)))))) := rfl
theorem fkW_c2 (n k : Nat) (q0 : Nat → Nat) (q : Nat → Nat → Nat) (cA : Nat → ClassId) (σ0 τ : Nat → Nat → Int32) (σ : Nat → Nat → Nat → Int32) : (fkW n k q0 q cA σ0 τ σ)[2]? = some (q0 2, .inl (cA 2, 8, .inr (.inr (.inr (.inr (fun i => if i < 8 then some (q0 (5 + i)) else none)))))) := rfl
theorem fkW_c3 (n k : Nat) (q0 : Nat → Nat) (q : Nat → Nat → Nat) (cA : Nat → ClassId) (σ0 τ : Nat → Nat → Int32) (σ : Nat → Nat → Nat → Int32) : (fkW n k q0 q cA σ0 τ σ)[3]? = some (q0 3, .inr (2, [.ref (q0 4)])) := rfl
theorem fkW_c4 (n k : Nat) (q0 : Nat → Nat) (q : Nat → Nat → Nat) (cA : Nat → ClassId) (σ0 τ : Nat → Nat → Int32) (σ : Nat → Nat → Nat → Int32) : (fkW n k q0 q cA σ0 τ σ)[4]? = some (q0 4, .inl (cA 0, 256, .inl (σ0 2))) := rfl
theorem fkW_cs {p : Nat} (hp : p < 8) (n k : Nat) (q0 : Nat → Nat) (q : Nat → Nat → Nat) (cA : Nat → ClassId) (σ0 τ : Nat → Nat → Int32) (σ : Nat → Nat → Nat → Int32) : (fkW n k q0 q cA σ0 τ σ)[5 + p]? = some (q0 (5 + p), .inr (3, [.int (σ0 (3 + p) 0), .int (σ0 (3 + p) 1), .int (σ0 (3 + p) 2), .int (σ0 (3 + p) 3), .int (σ0 (3 + p) 4)])) := p8 (P := fun p => (fkW n k q0 q cA σ0 τ σ)[5 + p]? = some (q0 (5 + p), .inr (3, [.int (σ0 (3 + p) 0), .int (σ0 (3 + p) 1), .int (σ0 (3 + p) 2), .int (σ0 (3 + p) 3), .int (σ0 (3 + p) 4)]))) hp rfl rfl rfl rfl rfl rfl rfl rfl
theorem fkW_ds {p : Nat} (hp : p < 8) (n k : Nat) (q0 : Nat → Nat) (q : Nat → Nat → Nat) (cA : Nat → ClassId) (σ0 τ : Nat → Nat → Int32) (σ : Nat → Nat → Nat → Int32) : [5 + p].map (fun i => (fkW n k q0 q cA σ0 τ σ)[i]?) = (dW (fun i => q0 (5 + p)) cA (ds σ0 p)).map some := by
  show [(fkW n k q0 q cA σ0 τ σ)[5 + p]?] = _
  rw [fkW_cs hp]
  rfl
theorem fkW_f (n k : Nat) (q0 : Nat → Nat) (q : Nat → Nat → Nat) (cA : Nat → ClassId) (σ0 τ : Nat → Nat → Int32) (σ : Nat → Nat → Nat → Int32) : (List.range 13).map (fun i => (fkW n k q0 q cA σ0 τ σ)[i]?) = (fW n q0 q cA σ0).map some := rfl
theorem fkW_ws0 {p : Nat} (hp : p < 8) (n k : Nat) (q0 : Nat → Nat) (q : Nat → Nat → Nat) (cA : Nat → ClassId) (σ0 τ : Nat → Nat → Int32) (σ : Nat → Nat → Nat → Int32) (v : Int32) : (fkW n k q0 q cA σ0 τ σ).set (5 + p) (q0 (5 + p), .inr (3, [.int (σ0 (3 + p) 0), .int (σ0 (3 + p) 1), .int (σ0 (3 + p) 2), .int (σ0 (3 + p) 3), .int (σ0 (3 + p) 4)].set 0 (.int v))) = (fkW n k q0 q cA (va_up σ0 (3 + p) (upd (σ0 (3 + p)) 0 v)) τ σ) := p8 (P := fun p => (fkW n k q0 q cA σ0 τ σ).set (5 + p) (q0 (5 + p), .inr (3, [.int (σ0 (3 + p) 0), .int (σ0 (3 + p) 1), .int (σ0 (3 + p) 2), .int (σ0 (3 + p) 3), .int (σ0 (3 + p) 4)].set 0 (.int v))) = (fkW n k q0 q cA (va_up σ0 (3 + p) (upd (σ0 (3 + p)) 0 v)) τ σ)) hp rfl rfl rfl rfl rfl rfl rfl rfl
theorem fkW_ws1 {p : Nat} (hp : p < 8) (n k : Nat) (q0 : Nat → Nat) (q : Nat → Nat → Nat) (cA : Nat → ClassId) (σ0 τ : Nat → Nat → Int32) (σ : Nat → Nat → Nat → Int32) (v : Int32) : (fkW n k q0 q cA σ0 τ σ).set (5 + p) (q0 (5 + p), .inr (3, [.int (σ0 (3 + p) 0), .int (σ0 (3 + p) 1), .int (σ0 (3 + p) 2), .int (σ0 (3 + p) 3), .int (σ0 (3 + p) 4)].set 1 (.int v))) = (fkW n k q0 q cA (va_up σ0 (3 + p) (upd (σ0 (3 + p)) 1 v)) τ σ) := p8 (P := fun p => (fkW n k q0 q cA σ0 τ σ).set (5 + p) (q0 (5 + p), .inr (3, [.int (σ0 (3 + p) 0), .int (σ0 (3 + p) 1), .int (σ0 (3 + p) 2), .int (σ0 (3 + p) 3), .int (σ0 (3 + p) 4)].set 1 (.int v))) = (fkW n k q0 q cA (va_up σ0 (3 + p) (upd (σ0 (3 + p)) 1 v)) τ σ)) hp rfl rfl rfl rfl rfl rfl rfl rfl
theorem fkW_ws2 {p : Nat} (hp : p < 8) (n k : Nat) (q0 : Nat → Nat) (q : Nat → Nat → Nat) (cA : Nat → ClassId) (σ0 τ : Nat → Nat → Int32) (σ : Nat → Nat → Nat → Int32) (v : Int32) : (fkW n k q0 q cA σ0 τ σ).set (5 + p) (q0 (5 + p), .inr (3, [.int (σ0 (3 + p) 0), .int (σ0 (3 + p) 1), .int (σ0 (3 + p) 2), .int (σ0 (3 + p) 3), .int (σ0 (3 + p) 4)].set 2 (.int v))) = (fkW n k q0 q cA (va_up σ0 (3 + p) (upd (σ0 (3 + p)) 2 v)) τ σ) := p8 (P := fun p => (fkW n k q0 q cA σ0 τ σ).set (5 + p) (q0 (5 + p), .inr (3, [.int (σ0 (3 + p) 0), .int (σ0 (3 + p) 1), .int (σ0 (3 + p) 2), .int (σ0 (3 + p) 3), .int (σ0 (3 + p) 4)].set 2 (.int v))) = (fkW n k q0 q cA (va_up σ0 (3 + p) (upd (σ0 (3 + p)) 2 v)) τ σ)) hp rfl rfl rfl rfl rfl rfl rfl rfl
theorem fkW_ws3 {p : Nat} (hp : p < 8) (n k : Nat) (q0 : Nat → Nat) (q : Nat → Nat → Nat) (cA : Nat → ClassId) (σ0 τ : Nat → Nat → Int32) (σ : Nat → Nat → Nat → Int32) (v : Int32) : (fkW n k q0 q cA σ0 τ σ).set (5 + p) (q0 (5 + p), .inr (3, [.int (σ0 (3 + p) 0), .int (σ0 (3 + p) 1), .int (σ0 (3 + p) 2), .int (σ0 (3 + p) 3), .int (σ0 (3 + p) 4)].set 3 (.int v))) = (fkW n k q0 q cA (va_up σ0 (3 + p) (upd (σ0 (3 + p)) 3 v)) τ σ) := p8 (P := fun p => (fkW n k q0 q cA σ0 τ σ).set (5 + p) (q0 (5 + p), .inr (3, [.int (σ0 (3 + p) 0), .int (σ0 (3 + p) 1), .int (σ0 (3 + p) 2), .int (σ0 (3 + p) 3), .int (σ0 (3 + p) 4)].set 3 (.int v))) = (fkW n k q0 q cA (va_up σ0 (3 + p) (upd (σ0 (3 + p)) 3 v)) τ σ)) hp rfl rfl rfl rfl rfl rfl rfl rfl
theorem fkW_ws4 {p : Nat} (hp : p < 8) (n k : Nat) (q0 : Nat → Nat) (q : Nat → Nat → Nat) (cA : Nat → ClassId) (σ0 τ : Nat → Nat → Int32) (σ : Nat → Nat → Nat → Int32) (v : Int32) : (fkW n k q0 q cA σ0 τ σ).set (5 + p) (q0 (5 + p), .inr (3, [.int (σ0 (3 + p) 0), .int (σ0 (3 + p) 1), .int (σ0 (3 + p) 2), .int (σ0 (3 + p) 3), .int (σ0 (3 + p) 4)].set 4 (.int v))) = (fkW n k q0 q cA (va_up σ0 (3 + p) (upd (σ0 (3 + p)) 4 v)) τ σ) := p8 (P := fun p => (fkW n k q0 q cA σ0 τ σ).set (5 + p) (q0 (5 + p), .inr (3, [.int (σ0 (3 + p) 0), .int (σ0 (3 + p) 1), .int (σ0 (3 + p) 2), .int (σ0 (3 + p) 3), .int (σ0 (3 + p) 4)].set 4 (.int v))) = (fkW n k q0 q cA (va_up σ0 (3 + p) (upd (σ0 (3 + p)) 4 v)) τ σ)) hp rfl rfl rfl rfl rfl rfl rfl rfl
theorem fkW_w0_4 (n k : Nat) (q0 : Nat → Nat) (q : Nat → Nat → Nat) (cA : Nat → ClassId) (σ0 τ : Nat → Nat → Int32) (σ : Nat → Nat → Nat → Int32) (v : Int32) : (fkW n k q0 q cA σ0 τ σ).set 0 (q0 0, .inr (4, [.ref (q0 1), .ref (q0 2), .ref (q0 3), .int (nI n), .int (σ0 1 0)].set 4 (.int v))) = (fkW n k q0 q cA (va_up σ0 1 (fun _ => v)) τ σ) := rfl
theorem fkW_c13 (n k : Nat) (q0 : Nat → Nat) (q : Nat → Nat → Nat) (cA : Nat → ClassId) (σ0 τ : Nat → Nat → Int32) (σ : Nat → Nat → Nat → Int32) : (fkW n k q0 q cA σ0 τ σ)[13]? = some (q k 0, .inr (0, [.ref (q k 1), .ref (q k 2), .ref (q k 3), .ref (q k 4), .ref (q k 5), .ref (q k 11), .int (τ 10 0), .int (τ 11 0), .int (τ 12 0), .int (τ 13 0), .int (τ 14 0), .int (τ 15 0), .int (τ 16 0)])) := rfl
theorem fkW_w13_6 (n k : Nat) (q0 : Nat → Nat) (q : Nat → Nat → Nat) (cA : Nat → ClassId) (σ0 τ : Nat → Nat → Int32) (σ : Nat → Nat → Nat → Int32) (v : Int32) : (fkW n k q0 q cA σ0 τ σ).set 13 (q k 0, .inr (0, [.ref (q k 1), .ref (q k 2), .ref (q k 3), .ref (q k 4), .ref (q k 5), .ref (q k 11), .int (τ 10 0), .int (τ 11 0), .int (τ 12 0), .int (τ 13 0), .int (τ 14 0), .int (τ 15 0), .int (τ 16 0)].set 6 (.int v))) = (fkW n k q0 q cA σ0 (va_up τ 10 (fun _ => v)) σ) := rfl
theorem fkW_w13_7 (n k : Nat) (q0 : Nat → Nat) (q : Nat → Nat → Nat) (cA : Nat → ClassId) (σ0 τ : Nat → Nat → Int32) (σ : Nat → Nat → Nat → Int32) (v : Int32) : (fkW n k q0 q cA σ0 τ σ).set 13 (q k 0, .inr (0, [.ref (q k 1), .ref (q k 2), .ref (q k 3), .ref (q k 4), .ref (q k 5), .ref (q k 11), .int (τ 10 0), .int (τ 11 0), .int (τ 12 0), .int (τ 13 0), .int (τ 14 0), .int (τ 15 0), .int (τ 16 0)].set 7 (.int v))) = (fkW n k q0 q cA σ0 (va_up τ 11 (fun _ => v)) σ) := rfl
theorem fkW_w13_8 (n k : Nat) (q0 : Nat → Nat) (q : Nat → Nat → Nat) (cA : Nat → ClassId) (σ0 τ : Nat → Nat → Int32) (σ : Nat → Nat → Nat → Int32) (v : Int32) : (fkW n k q0 q cA σ0 τ σ).set 13 (q k 0, .inr (0, [.ref (q k 1), .ref (q k 2), .ref (q k 3), .ref (q k 4), .ref (q k 5), .ref (q k 11), .int (τ 10 0), .int (τ 11 0), .int (τ 12 0), .int (τ 13 0), .int (τ 14 0), .int (τ 15 0), .int (τ 16 0)].set 8 (.int v))) = (fkW n k q0 q cA σ0 (va_up τ 12 (fun _ => v)) σ) := rfl
theorem fkW_w13_9 (n k : Nat) (q0 : Nat → Nat) (q : Nat → Nat → Nat) (cA : Nat → ClassId) (σ0 τ : Nat → Nat → Int32) (σ : Nat → Nat → Nat → Int32) (v : Int32) : (fkW n k q0 q cA σ0 τ σ).set 13 (q k 0, .inr (0, [.ref (q k 1), .ref (q k 2), .ref (q k 3), .ref (q k 4), .ref (q k 5), .ref (q k 11), .int (τ 10 0), .int (τ 11 0), .int (τ 12 0), .int (τ 13 0), .int (τ 14 0), .int (τ 15 0), .int (τ 16 0)].set 9 (.int v))) = (fkW n k q0 q cA σ0 (va_up τ 13 (fun _ => v)) σ) := rfl
theorem fkW_w13_10 (n k : Nat) (q0 : Nat → Nat) (q : Nat → Nat → Nat) (cA : Nat → ClassId) (σ0 τ : Nat → Nat → Int32) (σ : Nat → Nat → Nat → Int32) (v : Int32) : (fkW n k q0 q cA σ0 τ σ).set 13 (q k 0, .inr (0, [.ref (q k 1), .ref (q k 2), .ref (q k 3), .ref (q k 4), .ref (q k 5), .ref (q k 11), .int (τ 10 0), .int (τ 11 0), .int (τ 12 0), .int (τ 13 0), .int (τ 14 0), .int (τ 15 0), .int (τ 16 0)].set 10 (.int v))) = (fkW n k q0 q cA σ0 (va_up τ 14 (fun _ => v)) σ) := rfl
theorem fkW_w13_11 (n k : Nat) (q0 : Nat → Nat) (q : Nat → Nat → Nat) (cA : Nat → ClassId) (σ0 τ : Nat → Nat → Int32) (σ : Nat → Nat → Nat → Int32) (v : Int32) : (fkW n k q0 q cA σ0 τ σ).set 13 (q k 0, .inr (0, [.ref (q k 1), .ref (q k 2), .ref (q k 3), .ref (q k 4), .ref (q k 5), .ref (q k 11), .int (τ 10 0), .int (τ 11 0), .int (τ 12 0), .int (τ 13 0), .int (τ 14 0), .int (τ 15 0), .int (τ 16 0)].set 11 (.int v))) = (fkW n k q0 q cA σ0 (va_up τ 15 (fun _ => v)) σ) := rfl
theorem fkW_w13_12 (n k : Nat) (q0 : Nat → Nat) (q : Nat → Nat → Nat) (cA : Nat → ClassId) (σ0 τ : Nat → Nat → Int32) (σ : Nat → Nat → Nat → Int32) (v : Int32) : (fkW n k q0 q cA σ0 τ σ).set 13 (q k 0, .inr (0, [.ref (q k 1), .ref (q k 2), .ref (q k 3), .ref (q k 4), .ref (q k 5), .ref (q k 11), .int (τ 10 0), .int (τ 11 0), .int (τ 12 0), .int (τ 13 0), .int (τ 14 0), .int (τ 15 0), .int (τ 16 0)].set 12 (.int v))) = (fkW n k q0 q cA σ0 (va_up τ 16 (fun _ => v)) σ) := rfl
theorem fkW_c14 (n k : Nat) (q0 : Nat → Nat) (q : Nat → Nat → Nat) (cA : Nat → ClassId) (σ0 τ : Nat → Nat → Int32) (σ : Nat → Nat → Nat → Int32) : (fkW n k q0 q cA σ0 τ σ)[14]? = some (q k 1, .inr (2, [.ref (q k 6)])) := rfl
theorem fkW_c15 (n k : Nat) (q0 : Nat → Nat) (q : Nat → Nat → Nat) (cA : Nat → ClassId) (σ0 τ : Nat → Nat → Int32) (σ : Nat → Nat → Nat → Int32) : (fkW n k q0 q cA σ0 τ σ)[15]? = some (q k 2, .inr (2, [.ref (q k 7)])) := rfl
theorem fkW_c16 (n k : Nat) (q0 : Nat → Nat) (q : Nat → Nat → Nat) (cA : Nat → ClassId) (σ0 τ : Nat → Nat → Int32) (σ : Nat → Nat → Nat → Int32) : (fkW n k q0 q cA σ0 τ σ)[16]? = some (q k 3, .inr (2, [.ref (q k 8)])) := rfl
theorem fkW_c17 (n k : Nat) (q0 : Nat → Nat) (q : Nat → Nat → Nat) (cA : Nat → ClassId) (σ0 τ : Nat → Nat → Int32) (σ : Nat → Nat → Nat → Int32) : (fkW n k q0 q cA σ0 τ σ)[17]? = some (q k 4, .inr (2, [.ref (q k 9)])) := rfl
theorem fkW_c18 (n k : Nat) (q0 : Nat → Nat) (q : Nat → Nat → Nat) (cA : Nat → ClassId) (σ0 τ : Nat → Nat → Int32) (σ : Nat → Nat → Nat → Int32) : (fkW n k q0 q cA σ0 τ σ)[18]? = some (q k 5, .inr (2, [.ref (q k 10)])) := rfl
theorem fkW_c19 (n k : Nat) (q0 : Nat → Nat) (q : Nat → Nat → Nat) (cA : Nat → ClassId) (σ0 τ : Nat → Nat → Int32) (σ : Nat → Nat → Nat → Int32) : (fkW n k q0 q cA σ0 τ σ)[19]? = some (q k 6, .inl (cA 0, 8, .inl (τ 0))) := rfl
theorem fkW_c20 (n k : Nat) (q0 : Nat → Nat) (q : Nat → Nat → Nat) (cA : Nat → ClassId) (σ0 τ : Nat → Nat → Int32) (σ : Nat → Nat → Nat → Int32) : (fkW n k q0 q cA σ0 τ σ)[20]? = some (q k 7, .inl (cA 0, 8, .inl (τ 1))) := rfl
theorem fkW_c21 (n k : Nat) (q0 : Nat → Nat) (q : Nat → Nat → Nat) (cA : Nat → ClassId) (σ0 τ : Nat → Nat → Int32) (σ : Nat → Nat → Nat → Int32) : (fkW n k q0 q cA σ0 τ σ)[21]? = some (q k 8, .inl (cA 0, 8, .inl (τ 2))) := rfl
theorem fkW_c22 (n k : Nat) (q0 : Nat → Nat) (q : Nat → Nat → Nat) (cA : Nat → ClassId) (σ0 τ : Nat → Nat → Int32) (σ : Nat → Nat → Nat → Int32) : (fkW n k q0 q cA σ0 τ σ)[22]? = some (q k 9, .inl (cA 0, 8, .inl (τ 3))) := rfl
theorem fkW_c23 (n k : Nat) (q0 : Nat → Nat) (q : Nat → Nat → Nat) (cA : Nat → ClassId) (σ0 τ : Nat → Nat → Int32) (σ : Nat → Nat → Nat → Int32) : (fkW n k q0 q cA σ0 τ σ)[23]? = some (q k 10, .inl (cA 0, 8, .inl (τ 4))) := rfl
theorem fkW_c24 (n k : Nat) (q0 : Nat → Nat) (q : Nat → Nat → Nat) (cA : Nat → ClassId) (σ0 τ : Nat → Nat → Int32) (σ : Nat → Nat → Nat → Int32) : (fkW n k q0 q cA σ0 τ σ)[24]? = some (q k 11, .inr (1, [.ref (q k 12), .ref (q k 13), .ref (q k 14), .ref (q k 15), .int (τ 9 0)])) := rfl
theorem fkW_c25 (n k : Nat) (q0 : Nat → Nat) (q : Nat → Nat → Nat) (cA : Nat → ClassId) (σ0 τ : Nat → Nat → Int32) (σ : Nat → Nat → Nat → Int32) : (fkW n k q0 q cA σ0 τ σ)[25]? = some (q k 12, .inr (2, [.ref (q k 16)])) := rfl
theorem fkW_c26 (n k : Nat) (q0 : Nat → Nat) (q : Nat → Nat → Nat) (cA : Nat → ClassId) (σ0 τ : Nat → Nat → Int32) (σ : Nat → Nat → Nat → Int32) : (fkW n k q0 q cA σ0 τ σ)[26]? = some (q k 13, .inr (2, [.ref (q k 17)])) := rfl
theorem fkW_c27 (n k : Nat) (q0 : Nat → Nat) (q : Nat → Nat → Nat) (cA : Nat → ClassId) (σ0 τ : Nat → Nat → Int32) (σ : Nat → Nat → Nat → Int32) : (fkW n k q0 q cA σ0 τ σ)[27]? = some (q k 14, .inr (2, [.ref (q k 18)])) := rfl
theorem fkW_c28 (n k : Nat) (q0 : Nat → Nat) (q : Nat → Nat → Nat) (cA : Nat → ClassId) (σ0 τ : Nat → Nat → Int32) (σ : Nat → Nat → Nat → Int32) : (fkW n k q0 q cA σ0 τ σ)[28]? = some (q k 15, .inr (2, [.ref (q k 19)])) := rfl
theorem fkW_c29 (n k : Nat) (q0 : Nat → Nat) (q : Nat → Nat → Nat) (cA : Nat → ClassId) (σ0 τ : Nat → Nat → Int32) (σ : Nat → Nat → Nat → Int32) : (fkW n k q0 q cA σ0 τ σ)[29]? = some (q k 16, .inl (cA 0, 49, .inl (τ 5))) := rfl
theorem fkW_c30 (n k : Nat) (q0 : Nat → Nat) (q : Nat → Nat → Nat) (cA : Nat → ClassId) (σ0 τ : Nat → Nat → Int32) (σ : Nat → Nat → Nat → Int32) : (fkW n k q0 q cA σ0 τ σ)[30]? = some (q k 17, .inl (cA 0, 49, .inl (τ 6))) := rfl
theorem fkW_c31 (n k : Nat) (q0 : Nat → Nat) (q : Nat → Nat → Nat) (cA : Nat → ClassId) (σ0 τ : Nat → Nat → Int32) (σ : Nat → Nat → Nat → Int32) : (fkW n k q0 q cA σ0 τ σ)[31]? = some (q k 18, .inl (cA 0, 49, .inl (τ 7))) := rfl
theorem fkW_c32 (n k : Nat) (q0 : Nat → Nat) (q : Nat → Nat → Nat) (cA : Nat → ClassId) (σ0 τ : Nat → Nat → Int32) (σ : Nat → Nat → Nat → Int32) : (fkW n k q0 q cA σ0 τ σ)[32]? = some (q k 19, .inl (cA 0, 49, .inl (τ 8))) := rfl
theorem fkW_e (n k : Nat) (q0 : Nat → Nat) (q : Nat → Nat → Nat) (cA : Nat → ClassId) (σ0 τ : Nat → Nat → Int32) (σ : Nat → Nat → Nat → Int32) : [13, 14, 15, 16, 17, 18, 19, 20, 21, 22, 23, 24, 25, 26, 27, 28, 29, 30, 31, 32].map (fun i => (fkW n k q0 q cA σ0 τ σ)[i]?) = (eW (q k) cA τ).map some := rfl
theorem putl_seg : ∀ (b b' a c : va_W), b.length = b'.length → putl (a ++ (b ++ c)) ((List.range' a.length b.length).zip b') = a ++ (b' ++ c)
  | [], [], a, c, _ => rfl
  | [], y :: b', a, c, h => by simp at h
  | x :: b, [], a, c, h => by simp at h
  | x :: b, y :: b', a, c, h => by
    have ih := putl_seg b b' (a ++ [y]) c (by simpa using h)
    have e1 : (a ++ (x :: b ++ c)).set a.length y = (a ++ [y]) ++ (b ++ c) := by simp
    show putl ((a ++ (x :: b ++ c)).set a.length y) ((List.range' (a.length + 1) b.length).zip b') = _
    rw [e1]
    rw [List.length_append] at ih
    exact ih.trans (by simp)
theorem putl_app (ws : va_W) (z1 z2 : List (Nat × (Nat × va_E))) : putl ws (z1 ++ z2) = putl (putl ws z1) z2 := List.foldl_append
theorem fkW_ep (n k : Nat) (q0 : Nat → Nat) (q : Nat → Nat → Nat) (cA : Nat → ClassId) (σ0 τ : Nat → Nat → Int32) (σ : Nat → Nat → Nat → Int32) (τ1 : Nat → Nat → Int32) : putl (fkW n k q0 q cA σ0 τ σ) ([13, 14, 15, 16, 17, 18, 19, 20, 21, 22, 23, 24, 25, 26, 27, 28, 29, 30, 31, 32].zip (eW (q k) cA τ1)) = (fkW n k q0 q cA σ0 τ1 σ) :=
  putl_seg (eW (q k) cA τ) (eW (q k) cA τ1) (fW n q0 q cA σ0) (eR n k q cA σ) rfl
theorem fkW_h (n k : Nat) (q0 : Nat → Nat) (q : Nat → Nat → Nat) (cA : Nat → ClassId) (σ0 τ : Nat → Nat → Int32) (σ : Nat → Nat → Nat → Int32) : [24, 25, 26, 27, 28, 29, 30, 31, 32].map (fun i => (fkW n k q0 q cA σ0 τ σ)[i]?) = (hW (fun i => q k (i + 11)) cA (hs τ)).map some := rfl
theorem fkW_eo (n k : Nat) (q0 : Nat → Nat) (q : Nat → Nat → Nat) (cA : Nat → ClassId) (σ0 τ : Nat → Nat → Int32) (σ : Nat → Nat → Nat → Int32) : [13, 14, 15, 16, 17, 18, 19, 20, 21, 22, 23, 24, 25, 26, 27, 28, 29, 30, 31, 32, 3, 4].map (fun i => (fkW n k q0 q cA σ0 τ σ)[i]?) = (eoW (eoq (q k) q0) cA (eo τ (σ0 2))).map some := rfl
theorem fkW_eop (n k : Nat) (q0 : Nat → Nat) (q : Nat → Nat → Nat) (cA : Nat → ClassId) (σ0 τ : Nat → Nat → Int32) (σ : Nat → Nat → Nat → Int32) (τ1 : Nat → Nat → Int32) : putl (fkW n k q0 q cA σ0 τ σ) ([13, 14, 15, 16, 17, 18, 19, 20, 21, 22, 23, 24, 25, 26, 27, 28, 29, 30, 31, 32, 3, 4].zip (eoW (eoq (q k) q0) cA τ1)) = (fkW n k q0 q cA (va_up σ0 2 (τ1 17)) τ1 σ) := by
  have h := fkW_ep n k q0 q cA σ0 τ σ τ1
  have e : [13, 14, 15, 16, 17, 18, 19, 20, 21, 22, 23, 24, 25, 26, 27, 28, 29, 30, 31, 32, 3, 4].zip (eoW (eoq (q k) q0) cA τ1) = [13, 14, 15, 16, 17, 18, 19, 20, 21, 22, 23, 24, 25, 26, 27, 28, 29, 30, 31, 32].zip (eW (q k) cA τ1) ++ [(3, (q0 3, .inr (2, [.ref (q0 4)]))), (4, (q0 4, .inl (cA 0, 256, .inl (τ1 17))))] := rfl
  rw [e, putl_app, h]
  rfl
theorem fkW_re (n k : Nat) (q0 : Nat → Nat) (q : Nat → Nat → Nat) (cA : Nat → ClassId) (σ0 τ : Nat → Nat → Int32) (σ : Nat → Nat → Nat → Int32) : (List.range 33).map (fun i => (fkW n k q0 q cA σ0 τ σ)[i]?) = (reW n k q0 q cA σ0 τ).map some := rfl
theorem reW_c0 (n k : Nat) (q0 : Nat → Nat) (q : Nat → Nat → Nat) (cA : Nat → ClassId) (σ0 τ : Nat → Nat → Int32) : (reW n k q0 q cA σ0 τ)[0]? = some (q0 0, .inr (4, [.ref (q0 1), .ref (q0 2), .ref (q0 3), .int (nI n), .int (σ0 1 0)])) := rfl
theorem reW_c1 (n k : Nat) (q0 : Nat → Nat) (q : Nat → Nat → Nat) (cA : Nat → ClassId) (σ0 τ : Nat → Nat → Int32) : (reW n k q0 q cA σ0 τ)[1]? = some (q0 1, .inl (cA 1, 6, .inr (.inr (.inr (.inr (fun i => if i < n then some (q i 0) else none)))))) := rfl
theorem reW_c2 (n k : Nat) (q0 : Nat → Nat) (q : Nat → Nat → Nat) (cA : Nat → ClassId) (σ0 τ : Nat → Nat → Int32) : (reW n k q0 q cA σ0 τ)[2]? = some (q0 2, .inl (cA 2, 8, .inr (.inr (.inr (.inr (fun i => if i < 8 then some (q0 (5 + i)) else none)))))) := rfl
theorem reW_c3 (n k : Nat) (q0 : Nat → Nat) (q : Nat → Nat → Nat) (cA : Nat → ClassId) (σ0 τ : Nat → Nat → Int32) : (reW n k q0 q cA σ0 τ)[3]? = some (q0 3, .inr (2, [.ref (q0 4)])) := rfl
theorem reW_c4 (n k : Nat) (q0 : Nat → Nat) (q : Nat → Nat → Nat) (cA : Nat → ClassId) (σ0 τ : Nat → Nat → Int32) : (reW n k q0 q cA σ0 τ)[4]? = some (q0 4, .inl (cA 0, 256, .inl (σ0 2))) := rfl
theorem reW_cs {p : Nat} (hp : p < 8) (n k : Nat) (q0 : Nat → Nat) (q : Nat → Nat → Nat) (cA : Nat → ClassId) (σ0 τ : Nat → Nat → Int32) : (reW n k q0 q cA σ0 τ)[5 + p]? = some (q0 (5 + p), .inr (3, [.int (σ0 (3 + p) 0), .int (σ0 (3 + p) 1), .int (σ0 (3 + p) 2), .int (σ0 (3 + p) 3), .int (σ0 (3 + p) 4)])) := p8 (P := fun p => (reW n k q0 q cA σ0 τ)[5 + p]? = some (q0 (5 + p), .inr (3, [.int (σ0 (3 + p) 0), .int (σ0 (3 + p) 1), .int (σ0 (3 + p) 2), .int (σ0 (3 + p) 3), .int (σ0 (3 + p) 4)]))) hp rfl rfl rfl rfl rfl rfl rfl rfl
theorem reW_ds {p : Nat} (hp : p < 8) (n k : Nat) (q0 : Nat → Nat) (q : Nat → Nat → Nat) (cA : Nat → ClassId) (σ0 τ : Nat → Nat → Int32) : [5 + p].map (fun i => (reW n k q0 q cA σ0 τ)[i]?) = (dW (fun i => q0 (5 + p)) cA (ds σ0 p)).map some := by
  show [(reW n k q0 q cA σ0 τ)[5 + p]?] = _
  rw [reW_cs hp]
  rfl
theorem reW_f (n k : Nat) (q0 : Nat → Nat) (q : Nat → Nat → Nat) (cA : Nat → ClassId) (σ0 τ : Nat → Nat → Int32) : (List.range 13).map (fun i => (reW n k q0 q cA σ0 τ)[i]?) = (fW n q0 q cA σ0).map some := rfl
theorem reW_c13 (n k : Nat) (q0 : Nat → Nat) (q : Nat → Nat → Nat) (cA : Nat → ClassId) (σ0 τ : Nat → Nat → Int32) : (reW n k q0 q cA σ0 τ)[13]? = some (q k 0, .inr (0, [.ref (q k 1), .ref (q k 2), .ref (q k 3), .ref (q k 4), .ref (q k 5), .ref (q k 11), .int (τ 10 0), .int (τ 11 0), .int (τ 12 0), .int (τ 13 0), .int (τ 14 0), .int (τ 15 0), .int (τ 16 0)])) := rfl
theorem reW_c14 (n k : Nat) (q0 : Nat → Nat) (q : Nat → Nat → Nat) (cA : Nat → ClassId) (σ0 τ : Nat → Nat → Int32) : (reW n k q0 q cA σ0 τ)[14]? = some (q k 1, .inr (2, [.ref (q k 6)])) := rfl
theorem reW_c15 (n k : Nat) (q0 : Nat → Nat) (q : Nat → Nat → Nat) (cA : Nat → ClassId) (σ0 τ : Nat → Nat → Int32) : (reW n k q0 q cA σ0 τ)[15]? = some (q k 2, .inr (2, [.ref (q k 7)])) := rfl
theorem reW_c16 (n k : Nat) (q0 : Nat → Nat) (q : Nat → Nat → Nat) (cA : Nat → ClassId) (σ0 τ : Nat → Nat → Int32) : (reW n k q0 q cA σ0 τ)[16]? = some (q k 3, .inr (2, [.ref (q k 8)])) := rfl
theorem reW_c17 (n k : Nat) (q0 : Nat → Nat) (q : Nat → Nat → Nat) (cA : Nat → ClassId) (σ0 τ : Nat → Nat → Int32) : (reW n k q0 q cA σ0 τ)[17]? = some (q k 4, .inr (2, [.ref (q k 9)])) := rfl
theorem reW_c18 (n k : Nat) (q0 : Nat → Nat) (q : Nat → Nat → Nat) (cA : Nat → ClassId) (σ0 τ : Nat → Nat → Int32) : (reW n k q0 q cA σ0 τ)[18]? = some (q k 5, .inr (2, [.ref (q k 10)])) := rfl
theorem reW_c19 (n k : Nat) (q0 : Nat → Nat) (q : Nat → Nat → Nat) (cA : Nat → ClassId) (σ0 τ : Nat → Nat → Int32) : (reW n k q0 q cA σ0 τ)[19]? = some (q k 6, .inl (cA 0, 8, .inl (τ 0))) := rfl
theorem reW_c20 (n k : Nat) (q0 : Nat → Nat) (q : Nat → Nat → Nat) (cA : Nat → ClassId) (σ0 τ : Nat → Nat → Int32) : (reW n k q0 q cA σ0 τ)[20]? = some (q k 7, .inl (cA 0, 8, .inl (τ 1))) := rfl
theorem reW_c21 (n k : Nat) (q0 : Nat → Nat) (q : Nat → Nat → Nat) (cA : Nat → ClassId) (σ0 τ : Nat → Nat → Int32) : (reW n k q0 q cA σ0 τ)[21]? = some (q k 8, .inl (cA 0, 8, .inl (τ 2))) := rfl
theorem reW_c22 (n k : Nat) (q0 : Nat → Nat) (q : Nat → Nat → Nat) (cA : Nat → ClassId) (σ0 τ : Nat → Nat → Int32) : (reW n k q0 q cA σ0 τ)[22]? = some (q k 9, .inl (cA 0, 8, .inl (τ 3))) := rfl
theorem reW_c23 (n k : Nat) (q0 : Nat → Nat) (q : Nat → Nat → Nat) (cA : Nat → ClassId) (σ0 τ : Nat → Nat → Int32) : (reW n k q0 q cA σ0 τ)[23]? = some (q k 10, .inl (cA 0, 8, .inl (τ 4))) := rfl
theorem reW_c24 (n k : Nat) (q0 : Nat → Nat) (q : Nat → Nat → Nat) (cA : Nat → ClassId) (σ0 τ : Nat → Nat → Int32) : (reW n k q0 q cA σ0 τ)[24]? = some (q k 11, .inr (1, [.ref (q k 12), .ref (q k 13), .ref (q k 14), .ref (q k 15), .int (τ 9 0)])) := rfl
theorem reW_c25 (n k : Nat) (q0 : Nat → Nat) (q : Nat → Nat → Nat) (cA : Nat → ClassId) (σ0 τ : Nat → Nat → Int32) : (reW n k q0 q cA σ0 τ)[25]? = some (q k 12, .inr (2, [.ref (q k 16)])) := rfl
theorem reW_c26 (n k : Nat) (q0 : Nat → Nat) (q : Nat → Nat → Nat) (cA : Nat → ClassId) (σ0 τ : Nat → Nat → Int32) : (reW n k q0 q cA σ0 τ)[26]? = some (q k 13, .inr (2, [.ref (q k 17)])) := rfl
theorem reW_c27 (n k : Nat) (q0 : Nat → Nat) (q : Nat → Nat → Nat) (cA : Nat → ClassId) (σ0 τ : Nat → Nat → Int32) : (reW n k q0 q cA σ0 τ)[27]? = some (q k 14, .inr (2, [.ref (q k 18)])) := rfl
theorem reW_c28 (n k : Nat) (q0 : Nat → Nat) (q : Nat → Nat → Nat) (cA : Nat → ClassId) (σ0 τ : Nat → Nat → Int32) : (reW n k q0 q cA σ0 τ)[28]? = some (q k 15, .inr (2, [.ref (q k 19)])) := rfl
theorem reW_c29 (n k : Nat) (q0 : Nat → Nat) (q : Nat → Nat → Nat) (cA : Nat → ClassId) (σ0 τ : Nat → Nat → Int32) : (reW n k q0 q cA σ0 τ)[29]? = some (q k 16, .inl (cA 0, 49, .inl (τ 5))) := rfl
theorem reW_c30 (n k : Nat) (q0 : Nat → Nat) (q : Nat → Nat → Nat) (cA : Nat → ClassId) (σ0 τ : Nat → Nat → Int32) : (reW n k q0 q cA σ0 τ)[30]? = some (q k 17, .inl (cA 0, 49, .inl (τ 6))) := rfl
theorem reW_c31 (n k : Nat) (q0 : Nat → Nat) (q : Nat → Nat → Nat) (cA : Nat → ClassId) (σ0 τ : Nat → Nat → Int32) : (reW n k q0 q cA σ0 τ)[31]? = some (q k 18, .inl (cA 0, 49, .inl (τ 7))) := rfl
theorem reW_c32 (n k : Nat) (q0 : Nat → Nat) (q : Nat → Nat → Nat) (cA : Nat → ClassId) (σ0 τ : Nat → Nat → Int32) : (reW n k q0 q cA σ0 τ)[32]? = some (q k 19, .inl (cA 0, 49, .inl (τ 8))) := rfl
theorem fW_c0 (n : Nat) (q0 : Nat → Nat) (q : Nat → Nat → Nat) (cA : Nat → ClassId) (σ0 : Nat → Nat → Int32) : (fW n q0 q cA σ0)[0]? = some (q0 0, .inr (4, [.ref (q0 1), .ref (q0 2), .ref (q0 3), .int (nI n), .int (σ0 1 0)])) := rfl
theorem fW_c1 (n : Nat) (q0 : Nat → Nat) (q : Nat → Nat → Nat) (cA : Nat → ClassId) (σ0 : Nat → Nat → Int32) : (fW n q0 q cA σ0)[1]? = some (q0 1, .inl (cA 1, 6, .inr (.inr (.inr (.inr (fun i => if i < n then some (q i 0) else none)))))) := rfl
theorem fW_c2 (n : Nat) (q0 : Nat → Nat) (q : Nat → Nat → Nat) (cA : Nat → ClassId) (σ0 : Nat → Nat → Int32) : (fW n q0 q cA σ0)[2]? = some (q0 2, .inl (cA 2, 8, .inr (.inr (.inr (.inr (fun i => if i < 8 then some (q0 (5 + i)) else none)))))) := rfl
theorem fW_c3 (n : Nat) (q0 : Nat → Nat) (q : Nat → Nat → Nat) (cA : Nat → ClassId) (σ0 : Nat → Nat → Int32) : (fW n q0 q cA σ0)[3]? = some (q0 3, .inr (2, [.ref (q0 4)])) := rfl
theorem fW_c4 (n : Nat) (q0 : Nat → Nat) (q : Nat → Nat → Nat) (cA : Nat → ClassId) (σ0 : Nat → Nat → Int32) : (fW n q0 q cA σ0)[4]? = some (q0 4, .inl (cA 0, 256, .inl (σ0 2))) := rfl
theorem fW_cs {p : Nat} (hp : p < 8) (n : Nat) (q0 : Nat → Nat) (q : Nat → Nat → Nat) (cA : Nat → ClassId) (σ0 : Nat → Nat → Int32) : (fW n q0 q cA σ0)[5 + p]? = some (q0 (5 + p), .inr (3, [.int (σ0 (3 + p) 0), .int (σ0 (3 + p) 1), .int (σ0 (3 + p) 2), .int (σ0 (3 + p) 3), .int (σ0 (3 + p) 4)])) := p8 (P := fun p => (fW n q0 q cA σ0)[5 + p]? = some (q0 (5 + p), .inr (3, [.int (σ0 (3 + p) 0), .int (σ0 (3 + p) 1), .int (σ0 (3 + p) 2), .int (σ0 (3 + p) 3), .int (σ0 (3 + p) 4)]))) hp rfl rfl rfl rfl rfl rfl rfl rfl
theorem fW_ds {p : Nat} (hp : p < 8) (n : Nat) (q0 : Nat → Nat) (q : Nat → Nat → Nat) (cA : Nat → ClassId) (σ0 : Nat → Nat → Int32) : [5 + p].map (fun i => (fW n q0 q cA σ0)[i]?) = (dW (fun i => q0 (5 + p)) cA (ds σ0 p)).map some := by
  show [(fW n q0 q cA σ0)[5 + p]?] = _
  rw [fW_cs hp]
  rfl
theorem eL_fst (n : Nat) (q : Nat → Nat → Nat) (cA : Nat → ClassId) (σ σ' : Nat → Nat → Nat → Int32) : (eL n q cA σ').map (fun q => q.1) = (eL n q cA σ).map (fun q => q.1) := by
  unfold eL
  induction (List.range n) with
  | nil => rfl
  | cons a l ih => rw [List.flatMap_cons, List.flatMap_cons, List.map_append, List.map_append, ih]; rfl
theorem sW_fst (n : Nat) (q0 : Nat → Nat) (q : Nat → Nat → Nat) (cA : Nat → ClassId) (σ0 τ0 : Nat → Nat → Int32) (σ σ' : Nat → Nat → Nat → Int32) : (sW n q0 q cA τ0 σ').map (fun q => q.1) = (sW n q0 q cA σ0 σ).map (fun q => q.1) := by
  unfold sW
  rw [List.map_append, List.map_append, eL_fst n q cA σ σ']
  rfl
def f_X4_envelopeAt (n : Nat) (x : Int32) : Option (String ⊕ Nat) := some (if x < 0 then .inl "java/lang/IndexOutOfBoundsException" else if nI n ≤ x then .inl "java/lang/IndexOutOfBoundsException" else .inr x.toNatClampNeg)
def f_X4_standinOf (x : Int32) : Option (String ⊕ Nat) := some (if x < 0 then .inl "java/lang/IndexOutOfBoundsException" else if x < 8 then .inr x.toNatClampNeg else .inl "java/lang/IndexOutOfBoundsException")
theorem envAt_of {n : Nat} (hn : n ≤ 6) {x : Int32} {z : Nat} (h : f_X4_envelopeAt n x = some (.inr z)) : z < n ∧ x = nI z := by
  unfold f_X4_envelopeAt at h
  by_cases h1 : x < 0
  · rw [if_pos h1] at h; cases h
  · rw [if_neg h1] at h
    by_cases h2 : nI n ≤ x
    · rw [if_pos h2] at h; cases h
    · rw [if_neg h2] at h
      rcases pk_ix x (n := n) (by omega) with h3 | h3 | ⟨j, hj, rfl⟩
      · exact absurd h3 h1
      · exact absurd h3 h2
      · cases h
        rw [nI_clamp (by omega)]
        exact ⟨hj, rfl⟩
theorem envAt_lt {n : Nat} (hn : n ≤ 6) {x : Int32} {z : Nat} (h : f_X4_envelopeAt n x = some (.inr z)) : z < n := (envAt_of hn h).1
theorem stAt_of {x : Int32} {z : Nat} (h : f_X4_standinOf x = some (.inr z)) : z < 8 ∧ x = nI z := by
  unfold f_X4_standinOf at h
  by_cases h1 : x < 0
  · rw [if_pos h1] at h; cases h
  · rw [if_neg h1] at h
    by_cases h2 : x < 8
    · rw [if_pos h2] at h
      rcases pk_ix x (n := 8) (by omega) with h3 | h3 | ⟨j, hj, rfl⟩
      · exact absurd h3 h1
      · exact absurd h2 (Int32.not_lt.mpr h3)
      · cases h
        rw [nI_clamp (by omega)]
        exact ⟨hj, rfl⟩
    · rw [if_neg h2] at h; cases h
theorem stAt_lt {x : Int32} {z : Nat} (h : f_X4_standinOf x = some (.inr z)) : z < 8 := (stAt_of h).1
abbrev rm_X4_envelopeAt : Room := { frames := 0, cells := 0, slots := 0, locals := 0 }
abbrev rm_X4_standinOf : Room := { frames := 0, cells := 0, slots := 0, locals := 0 }
abbrev rmT_X4_envelopeAt : Room := { frames := 6, cells := 1, slots := 6, locals := 82 }
abbrev rmT_X4_standinOf : Room := { frames := 6, cells := 1, slots := 6, locals := 82 }
set_option maxHeartbeats 400000 in
set_option maxRecDepth 100000 in
theorem k_X4_envelopeAt {n : Nat} (hn : n ≤ 6) {q0 : Nat → Nat} {q : Nat → Nat → Nat} (σ0 : Nat → Nat → Int32) (x1 : Int32) {z : Nat} (hf : f_X4_envelopeAt n x1 = some (.inr z)) : CtR yX4_envelopeAt cX4_envelopeAt 3 (some (.object "Signround$Envelope")) rm_X4_envelopeAt [.ref (q0 0), .int x1] D cA (fW n q0 q cA σ0) (some (.ref (q z 0))) 0 0 := by
  obtain ⟨hz, rfl⟩ := envAt_of hn hf
  refine ctR_of (by decide) (Nat.le_of_ble_eq_true rfl) ?_
  intro p l e s m below meth c ls C hr hnm h hl
  have C : Cx p s m _ meth c cX4_envelopeAt 3 RX4 D cA := C
  obtain ⟨hx, hb, hml, hown, hts, hK, hlk⟩ := id C
  replace hl : lv_has ls 3 [(0, .ref (q0 0)), (1, .int (nI z))] := hl
  refine lv_iload_n (pc := 0) hx hb dX4_envelopeAt_0 rfl (lv_at hl 1 rfl) ?_
  refine lv_if_lt (pc := 1) (tgt := 21) hx hb dX4_envelopeAt_1 (by decide) (fun c9 => absurd c9 (nI_pos (by omega))) (fun c9 => ?_)
  refine lv_iload_n (pc := 4) hx hb dX4_envelopeAt_4 rfl (lv_at hl 1 rfl) ?_
  refine lv_aload_n (pc := 5) hx hb dX4_envelopeAt_5 rfl (lv_at hl 0 rfl) ?_
  refine g_get (pc := 6) (v := .int (nI n)) C h.1 0 (fW_c0 ..) fl_X4_31 rfl dX4_envelopeAt_6 ?_
  refine lv_icmp_ge (pc := 9) (tgt := 21) hx hb dX4_envelopeAt_9 (by decide) (fun c9 => absurd c9 (nI_ge hz (by omega))) (fun c9 => ?_)
  refine lv_iload_n (pc := 12) hx hb dX4_envelopeAt_12 rfl (lv_at hl 1 rfl) ?_
  refine lv_aload_n (pc := 13) hx hb dX4_envelopeAt_13 rfl (lv_at hl 0 rfl) ?_
  refine g_get (pc := 14) (v := .ref (q0 1)) C h.1 0 (fW_c0 ..) fl_X4_11 rfl dX4_envelopeAt_14 ?_
  refine va_alen (pc := 17) (v := nI 6) hx hb hK.1 h.1 1 1 (fW_c1 ..) rfl rfl dX4_envelopeAt_17 ?_
  refine lv_icmp_lt (pc := 18) (tgt := 31) hx hb dX4_envelopeAt_18 (by decide) (fun c9 => ?_) (fun c9 => absurd (nI_lt (a := z) (b := 6) (by omega) (by omega)) c9)
  refine lv_aload_n (pc := 31) hx hb dX4_envelopeAt_31 rfl (lv_at hl 0 rfl) ?_
  refine g_get (pc := 32) (v := .ref (q0 1)) C h.1 0 (fW_c0 ..) fl_X4_11 rfl dX4_envelopeAt_32 ?_
  refine lv_iload_n (pc := 35) hx hb dX4_envelopeAt_35 rfl (lv_at hl 1 rfl) ?_
  refine va_aldq (pc := 36) hx hb hK.1 h.1 1 1 (fW_c1 ..) rfl (vp_in_nI (by omega) (by omega)) dX4_envelopeAt_36 ?_
  have ev : va_rf ((fun i => if i < n then some (q i 0) else none) (nI z).toNatClampNeg) = .ref (q z 0) := by
    rw [nI_clamp (by omega)]
    show va_rf (if z < n then some (q z 0) else none) = _
    rw [if_pos hz]; rfl
  rw [ev]
  refine lv_astore_n (pc := 37) (lv' := [(2, .ref (q z 0)), (0, .ref (q0 0)), (1, .int (nI z))]) hx hb dX4_envelopeAt_37 rfl hl (by decide) rfl (fun ls hl => ?_)
  refine lv_aload_n (pc := 38) hx hb dX4_envelopeAt_38 rfl (lv_at hl 0 rfl) ?_
  refine lv_ifnonnull (pc := 39) (tgt := 52) hx hb dX4_envelopeAt_39 (by decide) ?_
  refine lv_aload_n (pc := 52) hx hb dX4_envelopeAt_52 rfl (lv_at hl 0 rfl) ?_
  exact ret_aR (pc := 53) C hr h dX4_envelopeAt_53
set_option maxHeartbeats 400000 in
set_option maxRecDepth 100000 in
theorem k_X4_standinOf {n : Nat} {q0 : Nat → Nat} {q : Nat → Nat → Nat} (σ0 : Nat → Nat → Int32) (x1 : Int32) {z : Nat} (hf : f_X4_standinOf x1 = some (.inr z)) : CtR yX4_standinOf cX4_standinOf 3 (some (.object "Signround$Standin")) rm_X4_standinOf [.ref (q0 0), .int x1] D cA (fW n q0 q cA σ0) (some (.ref (q0 (5 + z)))) 0 0 := by
  obtain ⟨hz, rfl⟩ := stAt_of hf
  refine ctR_of (by decide) (Nat.le_of_ble_eq_true rfl) ?_
  intro p l e s m below meth c ls C hr hnm h hl
  have C : Cx p s m _ meth c cX4_standinOf 3 RX4 D cA := C
  obtain ⟨hx, hb, hml, hown, hts, hK, hlk⟩ := id C
  replace hl : lv_has ls 3 [(0, .ref (q0 0)), (1, .int (nI z))] := hl
  refine lv_iload_n (pc := 0) hx hb dX4_standinOf_0 rfl (lv_at hl 1 rfl) ?_
  refine lv_if_lt (pc := 1) (tgt := 13) hx hb dX4_standinOf_1 (by decide) (fun c9 => absurd c9 (nI_pos (by omega))) (fun c9 => ?_)
  refine lv_iload_n (pc := 4) hx hb dX4_standinOf_4 rfl (lv_at hl 1 rfl) ?_
  refine lv_aload_n (pc := 5) hx hb dX4_standinOf_5 rfl (lv_at hl 0 rfl) ?_
  refine g_get (pc := 6) (v := .ref (q0 2)) C h.1 0 (fW_c0 ..) fl_X4_17 rfl dX4_standinOf_6 ?_
  refine va_alen (pc := 9) (v := nI 8) hx hb hK.1 h.1 2 2 (fW_c2 ..) rfl rfl dX4_standinOf_9 ?_
  refine lv_icmp_lt (pc := 10) (tgt := 23) hx hb dX4_standinOf_10 (by decide) (fun c9 => ?_) (fun c9 => absurd (nI_lt (a := z) (b := 8) (by omega) (by omega)) c9)
  refine lv_aload_n (pc := 23) hx hb dX4_standinOf_23 rfl (lv_at hl 0 rfl) ?_
  refine g_get (pc := 24) (v := .ref (q0 2)) C h.1 0 (fW_c0 ..) fl_X4_17 rfl dX4_standinOf_24 ?_
  refine lv_iload_n (pc := 27) hx hb dX4_standinOf_27 rfl (lv_at hl 1 rfl) ?_
  refine va_aldq (pc := 28) hx hb hK.1 h.1 2 2 (fW_c2 ..) rfl (vp_in_nI (by omega) (by omega)) dX4_standinOf_28 ?_
  have ev : va_rf ((fun i => if i < 8 then some (q0 (5 + i)) else none) (nI z).toNatClampNeg) = .ref (q0 (5 + z)) := by
    rw [nI_clamp (by omega)]
    show va_rf (if z < 8 then some (q0 (5 + z)) else none) = _
    rw [if_pos hz]; rfl
  rw [ev]
  refine lv_astore_n (pc := 29) (lv' := [(2, .ref (q0 (5 + z))), (0, .ref (q0 0)), (1, .int (nI z))]) hx hb dX4_standinOf_29 rfl hl (by decide) rfl (fun ls hl => ?_)
  refine lv_aload_n (pc := 30) hx hb dX4_standinOf_30 rfl (lv_at hl 0 rfl) ?_
  refine lv_ifnonnull (pc := 31) (tgt := 44) hx hb dX4_standinOf_31 (by decide) ?_
  refine lv_aload_n (pc := 44) hx hb dX4_standinOf_44 rfl (lv_at hl 0 rfl) ?_
  exact ret_aR (pc := 45) C hr h dX4_standinOf_45
set_option maxHeartbeats 400000 in
set_option maxRecDepth 100000 in
theorem kT_X4_envelopeAt {n : Nat} (hn : n ≤ 6) {q0 : Nat → Nat} {q : Nat → Nat → Nat} (σ0 : Nat → Nat → Int32) (x1 : Int32) {E : String} (hf : f_X4_envelopeAt n x1 = some (.inl E)) : CtT yX4_envelopeAt cX4_envelopeAt 3 (some (.object "Signround$Envelope")) rmT_X4_envelopeAt [.ref (q0 0), .int x1] D cA (fW n q0 q cA σ0) E := by
  refine ctT_of (by decide) (Nat.le_of_ble_eq_true rfl) ?_
  intro p l e s m below meth c ls hl0 C hex hX h hl
  have C : Cx p s m _ meth c cX4_envelopeAt 3 RX4 D cA := C
  obtain ⟨hx, hb, hml, hown, hts, hK, hlk⟩ := id C
  replace hl : lv_has ls 3 [(0, .ref (q0 0)), (1, .int x1)] := hl
  have hf := Option.some.inj hf
  refine lv_iload_n (pc := 0) hx hb dX4_envelopeAt_0 rfl (lv_at hl 1 rfl) ?_
  refine lv_if_lt (pc := 1) (tgt := 21) hx hb dX4_envelopeAt_1 (by decide) (fun c9 => ?_) (fun c9 => ?_)
  · have hf := ifT c9 hf
    cases hf
    exact g_throw (pc := 21) (rest := []) C hl0 hex hX h tw_IndexOutOfBoundsException (is := 234) (text := "there is no such envelope") (by decide +kernel) hl.1 dX4_envelopeAt_21 dX4_envelopeAt_24 dX4_envelopeAt_25 dX4_envelopeAt_27 dX4_envelopeAt_30 (Nat.le_of_ble_eq_true rfl) (Nat.le_of_ble_eq_true rfl) (Nat.le_of_ble_eq_true rfl) (Nat.le_of_ble_eq_true rfl) (Nat.le_of_ble_eq_true rfl) (Nat.le_of_ble_eq_true rfl)
  · have hf := ifF c9 hf
    refine lv_iload_n (pc := 4) hx hb dX4_envelopeAt_4 rfl (lv_at hl 1 rfl) ?_
    refine lv_aload_n (pc := 5) hx hb dX4_envelopeAt_5 rfl (lv_at hl 0 rfl) ?_
    refine g_get (pc := 6) (v := .int (nI n)) C h.1 0 (fW_c0 ..) fl_X4_31 rfl dX4_envelopeAt_6 ?_
    refine lv_icmp_ge (pc := 9) (tgt := 21) hx hb dX4_envelopeAt_9 (by decide) (fun c9 => ?_) (fun c9 => ?_)
    · have hf := ifT c9 hf
      cases hf
      exact g_throw (pc := 21) (rest := []) C hl0 hex hX h tw_IndexOutOfBoundsException (is := 234) (text := "there is no such envelope") (by decide +kernel) hl.1 dX4_envelopeAt_21 dX4_envelopeAt_24 dX4_envelopeAt_25 dX4_envelopeAt_27 dX4_envelopeAt_30 (Nat.le_of_ble_eq_true rfl) (Nat.le_of_ble_eq_true rfl) (Nat.le_of_ble_eq_true rfl) (Nat.le_of_ble_eq_true rfl) (Nat.le_of_ble_eq_true rfl) (Nat.le_of_ble_eq_true rfl)
    · have hf := ifF c9 hf
      cases hf
set_option maxHeartbeats 400000 in
set_option maxRecDepth 100000 in
theorem kT_X4_standinOf {n : Nat} {q0 : Nat → Nat} {q : Nat → Nat → Nat} (σ0 : Nat → Nat → Int32) (x1 : Int32) {E : String} (hf : f_X4_standinOf x1 = some (.inl E)) : CtT yX4_standinOf cX4_standinOf 3 (some (.object "Signround$Standin")) rmT_X4_standinOf [.ref (q0 0), .int x1] D cA (fW n q0 q cA σ0) E := by
  refine ctT_of (by decide) (Nat.le_of_ble_eq_true rfl) ?_
  intro p l e s m below meth c ls hl0 C hex hX h hl
  have C : Cx p s m _ meth c cX4_standinOf 3 RX4 D cA := C
  obtain ⟨hx, hb, hml, hown, hts, hK, hlk⟩ := id C
  replace hl : lv_has ls 3 [(0, .ref (q0 0)), (1, .int x1)] := hl
  have hf := Option.some.inj hf
  refine lv_iload_n (pc := 0) hx hb dX4_standinOf_0 rfl (lv_at hl 1 rfl) ?_
  refine lv_if_lt (pc := 1) (tgt := 13) hx hb dX4_standinOf_1 (by decide) (fun c9 => ?_) (fun c9 => ?_)
  · have hf := ifT c9 hf
    cases hf
    exact g_throw (pc := 13) (rest := []) C hl0 hex hX h tw_IndexOutOfBoundsException (is := 237) (text := "there is no such person") (by decide +kernel) hl.1 dX4_standinOf_13 dX4_standinOf_16 dX4_standinOf_17 dX4_standinOf_19 dX4_standinOf_22 (Nat.le_of_ble_eq_true rfl) (Nat.le_of_ble_eq_true rfl) (Nat.le_of_ble_eq_true rfl) (Nat.le_of_ble_eq_true rfl) (Nat.le_of_ble_eq_true rfl) (Nat.le_of_ble_eq_true rfl)
  · have hf := ifF c9 hf
    refine lv_iload_n (pc := 4) hx hb dX4_standinOf_4 rfl (lv_at hl 1 rfl) ?_
    refine lv_aload_n (pc := 5) hx hb dX4_standinOf_5 rfl (lv_at hl 0 rfl) ?_
    refine g_get (pc := 6) (v := .ref (q0 2)) C h.1 0 (fW_c0 ..) fl_X4_17 rfl dX4_standinOf_6 ?_
    refine va_alen (pc := 9) (v := (8 : Int32)) hx hb hK.1 h.1 2 2 (fW_c2 ..) rfl rfl dX4_standinOf_9 ?_
    refine lv_icmp_lt (pc := 10) (tgt := 23) hx hb dX4_standinOf_10 (by decide) (fun c9 => ?_) (fun c9 => ?_)
    · have hf := ifT c9 hf
      cases hf
    · have hf := ifF c9 hf
      cases hf
      exact g_throw (pc := 13) (rest := []) C hl0 hex hX h tw_IndexOutOfBoundsException (is := 237) (text := "there is no such person") (by decide +kernel) hl.1 dX4_standinOf_13 dX4_standinOf_16 dX4_standinOf_17 dX4_standinOf_19 dX4_standinOf_22 (Nat.le_of_ble_eq_true rfl) (Nat.le_of_ble_eq_true rfl) (Nat.le_of_ble_eq_true rfl) (Nat.le_of_ble_eq_true rfl) (Nat.le_of_ble_eq_true rfl) (Nat.le_of_ble_eq_true rfl)
end
