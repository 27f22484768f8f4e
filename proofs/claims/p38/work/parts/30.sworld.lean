/-! The desk: its fixed cells, its envelopes; one envelope taken out of the others -/
section
variable {D : va_G} {cA : Nat → ClassId} {A : Nat → Prop} {ws ws' : va_W} {H H0 : Heap} {locs : List Loc}
theorem P_iff : va_P D vwCl ws H ↔ ∀ q ∈ ws, va_at D vwCl q H :=
  ⟨fun h q hq => by obtain ⟨k, hk⟩ := List.getElem?_of_mem hq; exact h k q hk, fun h k q hq => h q (List.mem_of_getElem? hq)⟩
theorem D_iff : va_D A ws ↔ (ws.map (fun q => q.1)).Nodup ∧ ∀ q ∈ ws, A q.1 := by
  constructor
  · intro h
    refine ⟨?_, fun q hq => by obtain ⟨k, hk⟩ := List.getElem?_of_mem hq; exact h.2 k q hk⟩
    rw [List.nodup_iff_pairwise_ne, List.pairwise_map, List.pairwise_iff_getElem]
    intro i j hi hj hij he
    have := h.1 i j ws[i] ws[j] (List.getElem?_eq_getElem hi) (List.getElem?_eq_getElem hj) he
    omega
  · intro ⟨h1, h2⟩
    refine ⟨fun i j p q hp hq he => ?_, fun k q hq => h2 q (List.mem_of_getElem? hq)⟩
    obtain ⟨hi, e1⟩ := List.getElem?_eq_some_iff.mp hp
    obtain ⟨hj, e2⟩ := List.getElem?_eq_some_iff.mp hq
    rw [List.nodup_iff_pairwise_ne, List.pairwise_map, List.pairwise_iff_getElem] at h1
    rcases Nat.lt_trichotomy i j with h | h | h
    · exact absurd (by rw [e1, e2]; exact he) (h1 i j hi hj h)
    · exact h
    · exact absurd (by rw [e1, e2]; exact he.symm) (h1 j i hj hi h)
theorem P_perm (hp : ws.Perm ws') (h : va_P D vwCl ws H) : va_P D vwCl ws' H := P_iff.mpr fun q hq => P_iff.mp h q (hp.mem_iff.mpr hq)
theorem D_perm (hp : ws.Perm ws') (h : va_D A ws) : va_D A ws' := by
  obtain ⟨h1, h2⟩ := D_iff.mp h
  exact D_iff.mpr ⟨(hp.map (fun q => q.1)).nodup_iff.mp h1, fun q hq => h2 q (hp.mem_iff.mpr hq)⟩
theorem St_perm (hp : ws.Perm ws') (h : St D A H0 ws H locs) : St D A H0 ws' H locs := ⟨P_perm hp h.1, D_perm hp h.2.1, h.2.2⟩
theorem SR_perm (hp : ws.Perm ws') (h : SR D H0 ws H locs) : SR D H0 ws' H locs := ⟨P_perm hp h.1, D_perm hp h.2.1, h.2.2⟩
def eL (n : Nat) (q : Nat → Nat → Nat) (cA : Nat → ClassId) (σ : Nat → Nat → Nat → Int32) : va_W := (List.range n).flatMap (fun k => eW (q k) cA (σ k))
def eR (n k : Nat) (q : Nat → Nat → Nat) (cA : Nat → ClassId) (σ : Nat → Nat → Nat → Int32) : va_W := ((List.range n).erase k).flatMap (fun k => eW (q k) cA (σ k))
theorem flatMap_eqs {l : List Nat} {f g : Nat → va_W} (h : ∀ x ∈ l, f x = g x) : l.flatMap f = l.flatMap g := by
  induction l with
  | nil => rfl
  | cons a l ih => rw [List.flatMap_cons, List.flatMap_cons, h a List.mem_cons_self, ih (fun x hx => h x (List.mem_cons_of_mem _ hx))]
theorem eL_perm {n k : Nat} (hk : k < n) (q : Nat → Nat → Nat) (cA : Nat → ClassId) (σ : Nat → Nat → Nat → Int32) : (eL n q cA σ).Perm (eW (q k) cA (σ k) ++ eR n k q cA σ) := by
  have h1 : (List.range n).Perm (k :: (List.range n).erase k) := List.perm_cons_erase (List.mem_range.mpr hk)
  exact h1.flatMap_right (fun k => eW (q k) cA (σ k))
theorem eR_up {n k : Nat} (q : Nat → Nat → Nat) (cA : Nat → ClassId) (σ : Nat → Nat → Nat → Int32) (τ : Nat → Nat → Int32) : eR n k q cA (va_up σ k τ) = eR n k q cA σ := by
  refine flatMap_eqs fun x hx => ?_
  have hne : x ≠ k := (List.nodup_range.mem_erase_iff.mp hx).1
  show eW (q x) cA (va_up σ k τ x) = eW (q x) cA (σ x)
  rw [show va_up σ k τ x = σ x from if_neg hne]
def fW (n : Nat) (q0 : Nat → Nat) (q : Nat → Nat → Nat) (cA : Nat → ClassId) (σ0 : Nat → Nat → Int32) : va_W :=
  [(q0 0, .inr (4, [.ref (q0 1), .ref (q0 2), .ref (q0 3), .int (nI n), .int (σ0 1 0)])), (q0 1, .inl (cA 1, 6, .inr (.inr (.inr (.inr (fun i => if i < n then some (q i 0) else none)))))),
   (q0 2, .inl (cA 2, 8, .inr (.inr (.inr (.inr (fun i => if i < 8 then some (q0 (5 + i)) else none)))))), (q0 3, .inr (2, [.ref (q0 4)])), (q0 4, .inl (cA 0, 256, .inl (σ0 2))),
   (q0 5, .inr (3, [.int (σ0 3 0), .int (σ0 3 1), .int (σ0 3 2), .int (σ0 3 3), .int (σ0 3 4)])), (q0 6, .inr (3, [.int (σ0 4 0), .int (σ0 4 1), .int (σ0 4 2), .int (σ0 4 3), .int (σ0 4 4)])),
   (q0 7, .inr (3, [.int (σ0 5 0), .int (σ0 5 1), .int (σ0 5 2), .int (σ0 5 3), .int (σ0 5 4)])), (q0 8, .inr (3, [.int (σ0 6 0), .int (σ0 6 1), .int (σ0 6 2), .int (σ0 6 3), .int (σ0 6 4)])),
   (q0 9, .inr (3, [.int (σ0 7 0), .int (σ0 7 1), .int (σ0 7 2), .int (σ0 7 3), .int (σ0 7 4)])), (q0 10, .inr (3, [.int (σ0 8 0), .int (σ0 8 1), .int (σ0 8 2), .int (σ0 8 3), .int (σ0 8 4)])),
   (q0 11, .inr (3, [.int (σ0 9 0), .int (σ0 9 1), .int (σ0 9 2), .int (σ0 9 3), .int (σ0 9 4)])), (q0 12, .inr (3, [.int (σ0 10 0), .int (σ0 10 1), .int (σ0 10 2), .int (σ0 10 3), .int (σ0 10 4)]))]
def sW (n : Nat) (q0 : Nat → Nat) (q : Nat → Nat → Nat) (cA : Nat → ClassId) (σ0 : Nat → Nat → Int32) (σ : Nat → Nat → Nat → Int32) : va_W := fW n q0 q cA σ0 ++ eL n q cA σ
def fkW (n k : Nat) (q0 : Nat → Nat) (q : Nat → Nat → Nat) (cA : Nat → ClassId) (σ0 τ : Nat → Nat → Int32) (σ : Nat → Nat → Nat → Int32) : va_W := fW n q0 q cA σ0 ++ (eW (q k) cA τ ++ eR n k q cA σ)
def reW (n k : Nat) (q0 : Nat → Nat) (q : Nat → Nat → Nat) (cA : Nat → ClassId) (σ0 τ : Nat → Nat → Int32) : va_W := fW n q0 q cA σ0 ++ eW (q k) cA τ
theorem foc_perm {n k : Nat} (hk : k < n) (q0 : Nat → Nat) (q : Nat → Nat → Nat) (cA : Nat → ClassId) (σ0 : Nat → Nat → Int32) (σ : Nat → Nat → Nat → Int32) : (sW n q0 q cA σ0 σ).Perm (fkW n k q0 q cA σ0 (σ k) σ) := (eL_perm hk q cA σ).append_left _
theorem unf_perm {n k : Nat} (hk : k < n) (q0 : Nat → Nat) (q : Nat → Nat → Nat) (cA : Nat → ClassId) (σ0 τ : Nat → Nat → Int32) (σ : Nat → Nat → Nat → Int32) : (fkW n k q0 q cA σ0 τ σ).Perm (sW n q0 q cA σ0 (va_up σ k τ)) := by
  have h := foc_perm hk q0 q cA σ0 (va_up σ k τ)
  unfold fkW at h ⊢
  rw [eR_up, show va_up σ k τ k = τ from if_pos rfl] at h
  exact h.symm
end
