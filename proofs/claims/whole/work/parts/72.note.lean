/-! An event noted, on both sides -/
section
def NT (τ : SS) (k len : Nat) (a b d e : Int32) : SS := va_up (va_up (va_up (va_up (va_up τ 8 (upd (τ 8) (50 * k + len) a)) 9 (upd (τ 9) (50 * k + len) b)) 10 (upd (τ 10) (50 * k + len) d)) 11 (upd (τ 11) (50 * k + len) e)) 5 (upd (τ 5) k (nI (len + 1)))
theorem notes_spec {τ : SS} {k len : Nat} (hk : k < 6) (hl : len < 50) (h5 : τ 5 k = nI len) (x2 x3 x4 : Int32) : f_X5_notes τ (nI k) x2 x3 x4 = some (NT τ k len x2 x3 x4 (τ 0 0)) := by
  have hi : inb (nI k) 6 := inb9 hk (by decide)
  have hx : inb (nI (50 * k + len)) 300 := inb9 (by omega) (by decide)
  have hcl : (nI k).toNatClampNeg = k := cl9 (by omega)
  have hcl2 : (nI (50 * k + len)).toNatClampNeg = 50 * k + len := cl9 (by omega)
  unfold f_X5_notes NT
  rw [if_pos hi]
  simp only [hcl, h5, ix50, hcl2, lt]
  rw [if_pos hx, if_pos hx, if_pos hx, if_pos hx, if_pos hi, if_pos hi]
  simp only [up_ne (show (9 : Nat) ≠ 8 by decide), up_ne (show (10 : Nat) ≠ 8 by decide), up_ne (show (10 : Nat) ≠ 9 by decide), up_ne (show (11 : Nat) ≠ 8 by decide), up_ne (show (11 : Nat) ≠ 9 by decide), up_ne (show (11 : Nat) ≠ 10 by decide), up_ne (show (0 : Nat) ≠ 8 by decide), up_ne (show (0 : Nat) ≠ 9 by decide), up_ne (show (0 : Nat) ≠ 10 by decide), up_ne (show (5 : Nat) ≠ 8 by decide), up_ne (show (5 : Nat) ≠ 9 by decide), up_ne (show (5 : Nat) ≠ 10 by decide), up_ne (show (5 : Nat) ≠ 11 by decide), h5, s1]
theorem NT_lo {τ : SS} {k len : Nat} {a b d e : Int32} {x : Nat} (h5 : x ≠ 5) (h8 : x < 8 ∨ 11 < x) : NT τ k len a b d e x = τ x := by
  unfold NT
  rw [up_ne h5, up_ne (by omega), up_ne (by omega), up_ne (by omega), up_ne (by omega)]
theorem NT_5 {τ : SS} {k len : Nat} {a b d e : Int32} : NT τ k len a b d e 5 = upd (τ 5) k (nI (len + 1)) := by unfold NT; rw [up_eq]
theorem NT_8 {τ : SS} {k len : Nat} {a b d e : Int32} : NT τ k len a b d e 8 = upd (τ 8) (50 * k + len) a := by
  unfold NT
  rw [up_ne (by decide), up_ne (by decide), up_ne (by decide), up_ne (by decide), up_eq]
theorem NT_9 {τ : SS} {k len : Nat} {a b d e : Int32} : NT τ k len a b d e 9 = upd (τ 9) (50 * k + len) b := by
  unfold NT
  rw [up_ne (by decide), up_ne (by decide), up_ne (by decide), up_eq]
theorem NT_10 {τ : SS} {k len : Nat} {a b d e : Int32} : NT τ k len a b d e 10 = upd (τ 10) (50 * k + len) d := by
  unfold NT
  rw [up_ne (by decide), up_ne (by decide), up_eq]
theorem NT_11 {τ : SS} {k len : Nat} {a b d e : Int32} : NT τ k len a b d e 11 = upd (τ 11) (50 * k + len) e := by
  unfold NT
  rw [up_ne (by decide), up_eq]
theorem NT_ref {τ : SS} {k c len pc tm : Nat} {bf pr K dy : Nat → Nat} {pe se : Nat → Int32} (hr : RefE τ k c len pc tm bf pr K dy pe se) (kd dv : Nat) (b d : Int32) : RefE (NT τ k len (nI kd) b d (nI dv)) k c (len + 1) pc tm bf pr (uN K len kd) (uN dy len dv) (upd pe len b) (upd se len d) := by
  obtain ⟨r1, r2, r3, r4, r5, r6⟩ := hr
  refine ⟨?_, ?_, ?_, ?_, fun j hj => ?_, fun i hi => ?_⟩
  · rw [NT_lo (by decide) (by decide)]; exact r1
  · rw [NT_lo (by decide) (by decide)]; exact r2
  · rw [NT_lo (by decide) (by decide)]; exact r3
  · rw [NT_5, upd_eq]
  · rw [NT_lo (by decide) (by decide), NT_lo (by decide) (by decide)]; exact r5 j hj
  · rw [NT_8, NT_9, NT_10, NT_11]
    by_cases e : i = len
    · subst e
      rw [upd_eq, upd_eq, upd_eq, upd_eq, uN_eq, uN_eq, upd_eq, upd_eq]
      exact ⟨rfl, rfl, rfl, rfl⟩
    · rw [upd_ne (by omega), upd_ne (by omega), upd_ne (by omega), upd_ne (by omega), upd_ne (by omega), upd_ne (by omega), uN_lt (by omega), uN_lt (by omega)]
      exact r6 i (by omega)
/-- what an envelope's relation looks at in the reference's rows -/
def SameE (τ τ' : SS) (k : Nat) : Prop := τ' 2 k = τ 2 k ∧ τ' 3 k = τ 3 k ∧ τ' 4 k = τ 4 k ∧ τ' 5 k = τ 5 k ∧ (∀ j, j < 8 → τ' 6 (8 * k + j) = τ 6 (8 * k + j) ∧ τ' 7 (8 * k + j) = τ 7 (8 * k + j)) ∧ ∀ i, i < 49 → τ' 8 (50 * k + i) = τ 8 (50 * k + i) ∧ τ' 9 (50 * k + i) = τ 9 (50 * k + i) ∧ τ' 10 (50 * k + i) = τ 10 (50 * k + i) ∧ τ' 11 (50 * k + i) = τ 11 (50 * k + i)
theorem EI.same {td : Nat} {σ τ τ' : SS} {k : Nat} (h : EI td σ τ k) (hs : SameE τ τ' k) : EI td σ τ' k := by
  obtain ⟨c, len, pc, tm, bf, pr, K, sl, dy, pe, se, h1, h2, h3, h4, h5, ⟨r1, r2, r3, r4, r5, r6⟩, h7⟩ := h
  obtain ⟨s2, s3, s4, s5, s6, s8⟩ := hs
  have hc := h5.1
  have hl := h5.2.1
  refine ⟨c, len, pc, tm, bf, pr, K, sl, dy, pe, se, h1, h2, h3, h4, h5, ⟨s2.trans r1, s3.trans r2, s4.trans r3, s5.trans r4, fun j hj => ?_, fun i hi => ?_⟩, h7⟩
  · rw [(s6 j (by omega)).1, (s6 j (by omega)).2]; exact r5 j hj
  · rw [(s8 i (by omega)).1, (s8 i (by omega)).2.1, (s8 i (by omega)).2.2.1, (s8 i (by omega)).2.2.2]; exact r6 i hi
theorem SameE.tr {a b c : SS} {k : Nat} (h : SameE a b k) (g : SameE b c k) : SameE a c k :=
  ⟨g.1.trans h.1, g.2.1.trans h.2.1, g.2.2.1.trans h.2.2.1, g.2.2.2.1.trans h.2.2.2.1, fun j hj => ⟨(g.2.2.2.2.1 j hj).1.trans (h.2.2.2.2.1 j hj).1, (g.2.2.2.2.1 j hj).2.trans (h.2.2.2.2.1 j hj).2⟩, fun i hi => ⟨(g.2.2.2.2.2 i hi).1.trans (h.2.2.2.2.2 i hi).1, (g.2.2.2.2.2 i hi).2.1.trans (h.2.2.2.2.2 i hi).2.1, (g.2.2.2.2.2 i hi).2.2.1.trans (h.2.2.2.2.2 i hi).2.2.1, (g.2.2.2.2.2 i hi).2.2.2.trans (h.2.2.2.2.2 i hi).2.2.2⟩⟩
theorem Keep.same {τ τ' : SS} (h : Keep τ τ') (k : Nat) : SameE τ τ' k := by
  refine ⟨by rw [h 2 (by decide)], by rw [h 3 (by decide)], by rw [h 4 (by decide)], by rw [h 5 (by decide)], fun j _ => ?_, fun i _ => ?_⟩
  · rw [h 6 (by decide), h 7 (by decide)]; exact ⟨rfl, rfl⟩
  · rw [h 8 (by decide), h 9 (by decide), h 10 (by decide), h 11 (by decide)]; exact ⟨rfl, rfl, rfl, rfl⟩
theorem NT_same {τ : SS} {k k2 len : Nat} {a b d e : Int32} (hk : k2 ≠ k) (hl : len < 49) : SameE τ (NT τ k len a b d e) k2 := by
  refine ⟨by rw [NT_lo (by decide) (by decide)], by rw [NT_lo (by decide) (by decide)], by rw [NT_lo (by decide) (by decide)], by rw [NT_5, upd_ne hk], fun j _ => ?_, fun i hi => ?_⟩
  · rw [NT_lo (by decide) (by decide), NT_lo (by decide) (by decide)]; exact ⟨rfl, rfl⟩
  · rw [NT_8, NT_9, NT_10, NT_11, upd_ne (by omega), upd_ne (by omega), upd_ne (by omega), upd_ne (by omega)]
    exact ⟨rfl, rfl, rfl, rfl⟩
/-- the desk's own facts: they look at fewer rows -/
theorem DE.same {td n : Nat} {σ0 τ τ' : SS} (h : DE td n σ0 τ) (h0 : ∀ x, x < 2 ∨ (12 ≤ x ∧ x < 18) → τ' x = τ x) (h5 : ∀ k, n ≤ k → k < 6 → τ' 2 k = τ 2 k ∧ τ' 3 k = τ 3 k ∧ τ' 4 k = τ 4 k ∧ τ' 5 k = τ 5 k) : DE td n σ0 τ' := by
  obtain ⟨d1, d2, d3, d4, d5, d6⟩ := h
  refine ⟨d1, by rw [h0 0 (by decide)]; exact d2, d3, by rw [h0 1 (by decide)]; exact d4, fun k a b => ?_, fun p hp => ?_⟩
  · obtain ⟨e1, e2, e3, e4⟩ := h5 k a b
    rw [e1, e2, e3, e4]
    exact d5 k a b
  · rw [h0 12 (by decide), h0 13 (by decide), h0 14 (by decide), h0 15 (by decide), h0 16 (by decide), h0 17 (by decide)]
    exact d6 p hp
theorem NT_DE {td n : Nat} {σ0 τ : SS} {k len : Nat} {a b d e : Int32} (h : DE td n σ0 τ) (hk : k < n) : DE td n σ0 (NT τ k len a b d e) :=
  h.same (fun x hx => NT_lo (by omega) (by omega)) (fun k2 a b => ⟨by rw [NT_lo (by decide) (by decide)], by rw [NT_lo (by decide) (by decide)], by rw [NT_lo (by decide) (by decide)], by rw [NT_5, upd_ne (by omega)]⟩)
theorem rs9 {N i : Nat} {g : Nat → Int32} {x : Int32} (h : i < N) (hN : N < 2 ^ 31) : rs N g (nI i) x = upd g i x := by
  unfold rs
  rw [if_neg (nI_pos (by omega)), if_neg (show ¬ Int32.ofNat N ≤ nI i from nI_ge h hN), cl9 (by omega)]
/-- the class's event -/
def AD (σ : SS) (len : Nat) (a b d e : Int32) : SS := hp σ (f_X1_add (hs σ) a b d e)
theorem AD_spec {σ : SS} {len : Nat} (h9 : σ 9 0 = nI len) (hl : len < 49) (a b d e : Int32) : (∀ x, x < 5 ∨ 9 < x → AD σ len a b d e x = σ x) ∧ AD σ len a b d e 5 = upd (σ 5) len a ∧ AD σ len a b d e 6 = upd (σ 6) len b ∧ AD σ len a b d e 7 = upd (σ 7) len d ∧ AD σ len a b d e 8 = upd (σ 8) len e ∧ AD σ len a b d e 9 0 = nI (len + 1) := by
  have h4 : hs σ 4 0 = nI len := h9
  have e0 : f_X1_add (hs σ) a b d e = va_up (va_up (va_up (va_up (va_up (hs σ) 0 (upd (hs σ 0) len a)) 1 (upd (hs σ 1) len b)) 2 (upd (hs σ 2) len d)) 3 (upd (hs σ 3) len e)) 4 (fun _ => nI (len + 1)) := by
    unfold f_X1_add
    rw [h4, if_pos (show nI len < 49 from nI_lt (b := 49) hl (by decide))]
    simp only [lt, up_ne (show (4 : Nat) ≠ 0 by decide), up_ne (show (4 : Nat) ≠ 1 by decide), up_ne (show (4 : Nat) ≠ 2 by decide), up_ne (show (4 : Nat) ≠ 3 by decide), up_ne (show (1 : Nat) ≠ 0 by decide), up_ne (show (2 : Nat) ≠ 0 by decide), up_ne (show (2 : Nat) ≠ 1 by decide), up_ne (show (3 : Nat) ≠ 0 by decide), up_ne (show (3 : Nat) ≠ 1 by decide), up_ne (show (3 : Nat) ≠ 2 by decide), h4, rs9 hl (show 49 < 2 ^ 31 by decide), s1]
  unfold AD hp
  rw [e0]
  refine ⟨fun x hx => if_neg (by omega), ?_, ?_, ?_, ?_, ?_⟩
  · rw [if_pos (by decide)]; show va_up _ 4 _ 0 = _; rw [up_ne (by decide), up_ne (by decide), up_ne (by decide), up_ne (by decide), up_eq]; rfl
  · rw [if_pos (by decide)]; show va_up _ 4 _ 1 = _; rw [up_ne (by decide), up_ne (by decide), up_ne (by decide), up_eq]; rfl
  · rw [if_pos (by decide)]; show va_up _ 4 _ 2 = _; rw [up_ne (by decide), up_ne (by decide), up_eq]; rfl
  · rw [if_pos (by decide)]; show va_up _ 4 _ 3 = _; rw [up_ne (by decide), up_eq]; rfl
  · rw [if_pos (by decide)]; show (va_up (va_up (va_up (va_up (va_up (hs σ) 0 (upd (hs σ 0) len a)) 1 (upd (hs σ 1) len b)) 2 (upd (hs σ 2) len d)) 3 (upd (hs σ 3) len e)) 4 (fun _ => nI (len + 1)) : SS) 4 0 = _; rw [up_eq]
end
