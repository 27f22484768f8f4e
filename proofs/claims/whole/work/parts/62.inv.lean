/-! The relation between the desk and the reference -/
section
def smj (f : Nat → Nat) : Nat → Nat
  | 0 => 0
  | c + 1 => smj f c + f c
def mxr (r : Nat → Nat) (b : Nat) : Nat → Nat
  | 0 => 0
  | s + 1 => if b.testBit s then max (mxr r b s) (r s + 1) else mxr r b s
/-- the rounds of the first slots -/
def rl (bf : Nat → Nat) : Nat → Nat → Nat
  | 0, _ => 0
  | j + 1, i => if i = j then mxr (rl bf j) (bf j) j else rl bf j i
def ond (c : Nat) (bf K sl dy : Nat → Nat) : Nat → Nat → Nat
  | 0, _ => 0
  | i + 1, j => if (K i = 0 ∨ K i = 1 ∨ K i = 2) ∧ newly bf (sgn K sl (i + 1)) (opd c bf K sl i) c j then dy i else ond c bf K sl dy i j
def Wf (td c len : Nat) (bf pr K sl dy : Nat → Nat) : Prop :=
  c ≤ 8 ∧ len ≤ 49 ∧ (∀ j, j < c → bf j < 2 ^ j ∧ pr j < 8) ∧
  (∀ i, i < len → K i ≤ 6 ∧ dy i ≤ td ∧ (i = 0 ↔ K i = 0) ∧ (0 < i → sta c K sl i = 1) ∧ (K i = 1 ∨ K i = 2 ∨ K i = 6 → sl i < c ∧ (sgn K sl i).testBit (sl i) = false) ∧ (K i = 1 ∨ K i = 2 → dif (bf (sl i)) (sgn K sl i) = 0)) ∧
  (0 < len → 0 < c ∧ len = 1 + smj (rmd K sl len) c + pcn (sgn K sl len) + (if sta c K sl len ≤ 2 then 0 else 1)) ∧ ∀ j, rmd K sl len j ≤ 5
def RefE (τ : SS) (k c len pc tm : Nat) (bf pr K dy : Nat → Nat) (pe se : Nat → Int32) : Prop :=
  τ 2 k = nI c ∧ τ 3 k = nI pc ∧ τ 4 k = nI tm ∧ τ 5 k = nI len ∧ (∀ j, j < c → τ 6 (8 * k + j) = nI (pr j) ∧ τ 7 (8 * k + j) = nI (bf j)) ∧
  ∀ i, i < len → τ 8 (50 * k + i) = nI (K i) ∧ τ 9 (50 * k + i) = pe i ∧ τ 10 (50 * k + i) = se i ∧ τ 11 (50 * k + i) = nI (dy i)
def ClsE (σ : SS) (c len pc tm : Nat) (bf pr K sl dy : Nat → Nat) (pe se : Nat → Int32) : Prop :=
  σ 10 0 = nI c ∧ σ 12 0 = nI pc ∧ σ 13 0 = nI tm ∧ σ 9 0 = nI len ∧ (∀ j, j < c → σ 0 j = nI (pr j) ∧ σ 1 j = nI (bf j) ∧ σ 2 j = nI (rl bf c j)) ∧
  (∀ i, i < len → σ 5 i = nI (K i) ∧ σ 6 i = pe i ∧ σ 7 i = se i ∧ σ 8 i = nI (dy i)) ∧
  σ 11 0 = nI (sta c K sl len) ∧ σ 15 0 = nI (sgn K sl len) ∧ σ 16 0 = nI (if sta c K sl len = 1 then dif (opd c bf K sl len) (sgn K sl len) else 0) ∧
  (∀ j, j < 8 → σ 4 j = nI (rmd K sl len j)) ∧ (∀ j, (opd c bf K sl len).testBit j = true → σ 3 j = nI (ond c bf K sl dy len j)) ∧ (0 < len → σ 14 0 = nI (dy 0))
def EI (td : Nat) (σ τ : SS) (k : Nat) : Prop :=
  ∃ (c len pc tm : Nat) (bf pr K sl dy : Nat → Nat) (pe se : Nat → Int32), k < 6 ∧ pc ≤ 30 ∧ tm ≤ 60 ∧ (∀ i, i < len → (K i = 1 ∨ K i = 2 ∨ K i = 6) → se i = nI (sl i)) ∧ Wf td c len bf pr K sl dy ∧ RefE τ k c len pc tm bf pr K dy pe se ∧ ClsE σ c len pc tm bf pr K sl dy pe se
def DE (td n : Nat) (σ0 τ : SS) : Prop :=
  n ≤ 6 ∧ τ 0 0 = nI td ∧ σ0 1 0 = nI td ∧ τ 1 0 = nI n ∧ (∀ k, n ≤ k → k < 6 → τ 2 k = 0 ∧ τ 3 k = 0 ∧ τ 4 k = 0 ∧ τ 5 k = 0) ∧
  ∀ p, p < 8 → τ 12 p = σ0 (3 + p) 0 ∧ (τ 12 p = -1 ∨ ∃ r, r < 8 ∧ τ 12 p = nI r) ∧ τ 13 p = σ0 (3 + p) 1 ∧ τ 14 p = σ0 (3 + p) 2 ∧ τ 15 p = σ0 (3 + p) 3 ∧ ∃ x, x ≤ td ∧ τ 17 p = nI x ∧ σ0 (3 + p) 4 = if x = td then τ 16 p else 0
def Inv (t n : Nat) (σ0 : SS) (σ : Nat → SS) (τ : SS) : Prop := ∃ td, td ≤ 60 * t ∧ DE td n σ0 τ ∧ ∀ k, k < n → EI td (σ k) τ k
theorem inv6 (t n : Nat) (σ0 : SS) (σ : Nat → SS) (τ : SS) (h : Inv t n σ0 σ τ) : n ≤ 6 := by
  obtain ⟨td, -, h, -⟩ := h
  exact h.1
theorem inv_skip (t n : Nat) (σ0 : SS) (σ : Nat → SS) (τ : SS) (h : Inv t n σ0 σ τ) : Inv (t + 1) n σ0 σ τ := by
  obtain ⟨td, h1, h2⟩ := h
  exact ⟨td, by omega, h2⟩
/-- the rows that last -/
def Keep (τ τ' : SS) : Prop := ∀ x, x < 18 → τ' x = τ x
theorem Keep.rf {τ : SS} : Keep τ τ := fun _ _ => rfl
theorem Keep.tr {a b c : SS} (h : Keep a b) (g : Keep b c) : Keep a c := fun x hx => (g x hx).trans (h x hx)
theorem Keep.up {τ : SS} {i : Nat} {v : Nat → Int32} (h : 18 ≤ i) : Keep τ (va_up τ i v) := fun x hx => up_ne (by omega)
theorem Told.keep {τ τ' : SS} {st sg op : Nat} {on : Nat → Int32} {rm : Nat → Nat} (h : Told τ τ' st sg op on rm) : Keep τ τ' := fun x hx => h.1 x (Or.inl hx)
theorem EI.keep {td : Nat} {σ τ τ' : SS} {k : Nat} (h : EI td σ τ k) (hk : Keep τ τ') : EI td σ τ' k := by
  obtain ⟨c, len, pc, tm, bf, pr, K, sl, dy, pe, se, h1, h2, h3, h4, h5, ⟨r1, r2, r3, r4, r5, r6⟩, h7⟩ := h
  refine ⟨c, len, pc, tm, bf, pr, K, sl, dy, pe, se, h1, h2, h3, h4, h5, ⟨?_, ?_, ?_, ?_, fun j hj => ?_, fun i hi => ?_⟩, h7⟩
  · rw [hk 2 (by decide)]; exact r1
  · rw [hk 3 (by decide)]; exact r2
  · rw [hk 4 (by decide)]; exact r3
  · rw [hk 5 (by decide)]; exact r4
  · rw [hk 6 (by decide), hk 7 (by decide)]; exact r5 j hj
  · rw [hk 8 (by decide), hk 9 (by decide), hk 10 (by decide), hk 11 (by decide)]; exact r6 i hi
theorem DE.keep {td n : Nat} {σ0 τ τ' : SS} (h : DE td n σ0 τ) (hk : Keep τ τ') : DE td n σ0 τ' := by
  obtain ⟨h1, h2, h3, h4, h5, h6⟩ := h
  refine ⟨h1, by rw [hk 0 (by decide)]; exact h2, h3, by rw [hk 1 (by decide)]; exact h4, fun k a b => ?_, fun p hp => ?_⟩
  · rw [hk 2 (by decide), hk 3 (by decide), hk 4 (by decide), hk 5 (by decide)]; exact h5 k a b
  · rw [hk 12 (by decide), hk 13 (by decide), hk 14 (by decide), hk 15 (by decide), hk 16 (by decide), hk 17 (by decide)]; exact h6 p hp
theorem Inv.keep {t n : Nat} {σ0 : SS} {σ : Nat → SS} {τ τ' : SS} (h : Inv t n σ0 σ τ) (hk : Keep τ τ') : Inv (t + 1) n σ0 σ τ' := by
  obtain ⟨td, h1, h2, h3⟩ := h
  exact ⟨td, by omega, h2.keep hk, fun k hk2 => (h3 k hk2).keep hk⟩
-- what an envelope's relation gives the telling
theorem EI_tell {td c len pc tm k : Nat} {τ : SS} {bf pr K sl dy : Nat → Nat} {pe se : Nat → Int32} (hk : k < 6) (hse : ∀ i, i < len → (K i = 1 ∨ K i = 2 ∨ K i = 6) → se i = nI (sl i)) (hw : Wf td c len bf pr K sl dy) (hr : RefE τ k c len pc tm bf pr K dy pe se) :
    Sls τ k c bf ∧ Evs τ k c len K sl (fun i => nI (dy i)) := by
  obtain ⟨w1, w2, w3, w4, w5, w6⟩ := hw
  obtain ⟨r1, r2, r3, r4, r5, r6⟩ := hr
  exact ⟨⟨hk, w1, r1, fun j hj => Nat.lt_of_lt_of_le (w3 j hj).1 (Nat.pow_le_pow_right (by decide) (by omega)), fun j hj => (r5 j hj).2⟩, fun i hi => ⟨(w4 i hi).1, (r6 i hi).1, (r6 i hi).2.2.2, fun h => ⟨((w4 i hi).2.2.2.2.1 h).1, by rw [(r6 i hi).2.2.1]; exact hse i hi h⟩⟩⟩
theorem Evs.le {τ : SS} {k c len s : Nat} {K sl : Nat → Nat} {D : Nat → Int32} (h : Evs τ k c len K sl D) (hs : s ≤ len) : Evs τ k c s K sl D := fun i hi => h i (by omega)
theorem rdy_mono {bf : Nat → Nat} {a b : Nat} (h : ∀ i, a.testBit i = true → b.testBit i = true) (c : Nat) : rdy bf a c ||| rdy bf b c = rdy bf b c := by
  apply nat_ext
  intro i
  rw [Nat.testBit_or, rdy_bit, rdy_bit]
  by_cases hi : i < c
  · by_cases h1 : dif (bf i) a = 0
    · have h2 : dif (bf i) b = 0 := by
        apply nat_ext
        intro j
        have h3 : (dif (bf i) a).testBit j = false := by rw [h1]; simp
        rw [dif_bit] at h3 ⊢
        cases hb : (bf i).testBit j with
        | false => simp
        | true =>
          rw [hb] at h3
          have : b.testBit j = true := h j (by simpa using h3)
          simp [this]
      simp [h1, h2]
    · simp [h1]
  · simp [hi]
theorem opd_rdy {c : Nat} {bf K sl : Nat → Nat} (h0 : K 0 = 0) : ∀ i, 0 < i → opd c bf K sl i = rdy bf (sgn K sl i) c
  | 0, h => absurd h (by omega)
  | i + 1, _ => by
    by_cases hi : i = 0
    · subst hi
      rw [opd, if_pos (by omega), opd, Nat.zero_or]
    · have ih := opd_rdy (c := c) (bf := bf) (sl := sl) h0 i (by omega)
      rw [opd]
      by_cases hk : K i = 0 ∨ K i = 1 ∨ K i = 2
      · rw [if_pos hk, ih]
        apply rdy_mono
        intro j hj
        rw [sgn]
        split
        · rw [Nat.testBit_or, hj]; rfl
        · exact hj
      · rw [if_neg hk, ih, sgn, if_neg (by omega)]
theorem onn_ond {g : Nat → Int32} {c td len : Nat} {bf K sl dy : Nat → Nat} (hd : ∀ i, i < len → dy i ≤ td) : ∀ i, i ≤ len → ∀ j, (opd c bf K sl i).testBit j = true → onn g c bf K sl (fun i => nI (dy i)) i j = nI (ond c bf K sl dy i j) ∧ ond c bf K sl dy i j ≤ td
  | 0, _, j, h => by simp [opd] at h
  | i + 1, hi, j, h => by
    rw [onn, ond]
    by_cases hn : (K i = 0 ∨ K i = 1 ∨ K i = 2) ∧ newly bf (sgn K sl (i + 1)) (opd c bf K sl i) c j
    · rw [if_pos hn, if_pos hn]
      exact ⟨rfl, hd i (by omega)⟩
    · rw [if_neg hn, if_neg hn]
      refine onn_ond hd i (by omega) j ?_
      rw [opd] at h
      by_cases hk : K i = 0 ∨ K i = 1 ∨ K i = 2
      · rw [if_pos hk, Nat.testBit_or, rdy_bit] at h
        cases ho : (opd c bf K sl i).testBit j with
        | true => rfl
        | false =>
          rw [ho] at h
          simp at h
          exact absurd ⟨hk, h.1, ho, h.2⟩ hn
      · rw [if_neg hk] at h
        exact h
end
