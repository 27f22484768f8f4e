/-! The reference's telling, as numbers -/
section
theorem inb9 {i N : Nat} (h : i < N) (hN : N < 2 ^ 31) : inb (nI i) N := vp_in_nI h hN
theorem cl9 {i : Nat} (h : i < 2 ^ 31) : (nI i).toNatClampNeg = i := nI_clamp h
theorem ix8 (k j : Nat) : (8 : Int32) * nI k + nI j = nI (8 * k + j) := by
  rw [show (8 : Int32) = nI 8 from rfl, show nI 8 * nI k = nI (8 * k) from (Int32.ofNat_mul 8 k).symm, nI_add]
theorem ix50 (k j : Nat) : (50 : Int32) * nI k + nI j = nI (50 * k + j) := by
  rw [show (50 : Int32) = nI 50 from rfl, show nI 50 * nI k = nI (50 * k) from (Int32.ofNat_mul 50 k).symm, nI_add]
theorem ix50' (k : Nat) : (50 : Int32) * nI k = nI (50 * k) := (Int32.ofNat_mul 50 k).symm
theorem s1 (i : Nat) : nI i + (1 : Int32) = nI (i + 1) := nI_add i 1
theorem up_ne {α : Type} {f : Nat → α} {i j : Nat} {x : α} (h : j ≠ i) : va_up f i x j = f j := if_neg h
theorem up_eq {α : Type} {f : Nat → α} {i : Nat} {x : α} : va_up f i x i = x := if_pos rfl
theorem upd_ne {f : Nat → Int32} {i j : Nat} {x : Int32} (h : j ≠ i) : upd f i x j = f j := if_neg h
theorem upd_eq {f : Nat → Int32} {i : Nat} {x : Int32} : upd f i x i = x := if_pos rfl
abbrev SS : Type := Nat → Nat → Int32
/-- slots opened by a day's event -/
abbrev newly (bf : Nat → Nat) (sg op c j : Nat) : Prop := j < c ∧ op.testBit j = false ∧ dif (bf j) sg = 0
def OPi (σ0 : SS) (bf : Nat → Nat) (sg op : Nat) (d : Int32) (i : Nat) (σ : SS) : Prop :=
  (∀ x, x ≠ 20 → x ≠ 21 → σ x = σ0 x) ∧ σ 20 0 = nI (op ||| rdy bf sg i) ∧ ∀ j, σ 21 j = if newly bf sg op i j then d else σ0 21 j
theorem opens_loop {σ0 : SS} {k c : Nat} {bf : Nat → Nat} {sg op : Nat} {d : Int32} (hk : k < 6) (hc : c ≤ 8) (h2 : σ0 2 k = nI c) (hbf : ∀ j, j < c → bf j < 2 ^ 8) (h7 : ∀ j, j < c → σ0 7 (8 * k + j) = nI (bf j)) (h19 : σ0 19 0 = nI sg) :
    ∀ (m i : Nat) (σ : SS), i + m = c → ∀ fu, m < fu → OPi σ0 bf sg op d i σ → ∃ σ', f_X5_opens_2 fu σ (nI k) d (nI i) = some (σ', nI c) ∧ OPi σ0 bf sg op d c σ' := by
  intro m
  induction m with
  | zero =>
    intro i σ hi fu hfu h
    obtain ⟨fu, rfl⟩ : ∃ g, fu = g + 1 := ⟨fu - 1, by omega⟩
    obtain rfl : i = c := by omega
    refine ⟨σ, ?_, h⟩
    rw [f_X5_opens_2, if_pos (inb9 hk (by decide)), cl9 (by omega), h.1 2 (by decide) (by decide), h2, if_pos (nI_le (Nat.le_refl _) (by omega))]
  | succ m ih =>
    intro i σ hi fu hfu h
    obtain ⟨fu, rfl⟩ : ∃ g, fu = g + 1 := ⟨fu - 1, by omega⟩
    have hic : i < c := by omega
    obtain ⟨ha, hb, hd⟩ := id h
    have e0 : (op ||| rdy bf sg i).testBit i = op.testBit i := by rw [Nat.testBit_or, rdy_bit]; simp
    rw [f_X5_opens_2, if_pos (inb9 hk (by decide)), cl9 (by omega), ha 2 (by decide) (by decide), h2, if_neg (nI_ge hic (by omega)), hb, has5 _ (by omega), e0]
    have hstay : op.testBit i = true ∨ ¬ dif (bf i) sg = 0 → ∃ σ', (if inb (nI i) 8 then (if inb (nI i) 8 then (lt (va_up σ 21 (upd (σ 21) (nI i).toNatClampNeg ((σ 21) (nI i).toNatClampNeg))) fun t1 => (lt (va_up t1 20 (fun _ => ((t1 20 0) ||| (0 : Int32)))) fun t2 => (f_X5_opens_2 fu t2 (nI k) d (nI i + (1 : Int32))))) else none) else none) = some (σ', nI c) ∧ OPi σ0 bf sg op d c σ' := by
      intro hs
      rw [if_pos (inb9 (by omega) (by decide)), if_pos (inb9 (by omega) (by decide)), s1]
      simp only [lt]
      refine ih (i + 1) _ (by omega) fu (by omega) ⟨fun x h1 h3 => ?_, ?_, fun j => ?_⟩
      · rw [up_ne h1, up_ne h3, ha x h1 h3]
      · rw [up_eq, up_ne (by decide), hb]
        rw [show (0 : Int32) = nI 0 from rfl, fa_or, Nat.or_zero]
        congr 1
        apply nat_ext
        intro q
        rw [Nat.testBit_or, Nat.testBit_or, rdy_bit, rdy_bit]
        by_cases hq : q = i
        · subst hq
          rcases hs with hs | hs
          · simp [hs]
          · simp [hs]
        · by_cases h3 : q < i
          · simp [h3, show q < i + 1 by omega]
          · simp [h3, show ¬ q < i + 1 by omega]
      · rw [up_ne (by decide), up_eq, fa_upd_same rfl, hd j]
        by_cases hq : j = i
        · subst hq
          rw [if_neg (fun h => by have := h.1; omega), if_neg (fun h => by rcases hs with hs | hs; · rw [h.2.1] at hs; cases hs
                                                                           · exact hs h.2.2)]
        · have : newly bf sg op (i + 1) j ↔ newly bf sg op i j := ⟨fun h => ⟨by have := h.1; omega, h.2⟩, fun h => ⟨by have := h.1; omega, h.2⟩⟩
          by_cases hn : newly bf sg op i j
          · rw [if_pos hn, if_pos (this.mpr hn)]
          · rw [if_neg hn, if_neg (fun h => hn (this.mp h))]
    cases hop : op.testBit i with
    | true =>
      simp only [if_true]
      rw [if_neg (by decide)]
      exact hstay (Or.inl hop)
    | false =>
      rw [if_pos (by decide)]
      rw [ix8, if_pos (inb9 (by omega) (by decide)), cl9 (by omega), ha 7 (by decide) (by decide), ha 19 (by decide) (by decide), h19, h7 i hic, i_dif]
      by_cases hdf : dif (bf i) sg = 0
      · rw [hdf, if_pos nI_0, if_pos (inb9 (by omega) (by decide)), s1]
        simp only [lt]
        refine ih (i + 1) _ (by omega) fu (by omega) ⟨fun x h1 h3 => ?_, ?_, fun j => ?_⟩
        · rw [up_ne h1, up_ne h3, ha x h1 h3]
        · rw [up_eq, up_ne (by decide), hb, i_one (by omega), fa_or, Nat.or_assoc]
          rw [show rdy bf sg (i + 1) = rdy bf sg i ||| 2 ^ i from by rw [rdy, if_pos hdf]]
        · rw [up_ne (by decide), up_eq, cl9 (by omega)]
          by_cases hq : j = i
          · subst hq
            rw [upd_eq, if_pos ⟨by omega, hop, hdf⟩]
          · rw [upd_ne hq, hd j]
            have : newly bf sg op (i + 1) j ↔ newly bf sg op i j := ⟨fun h => ⟨by have := h.1; omega, h.2⟩, fun h => ⟨by have := h.1; omega, h.2⟩⟩
            by_cases hn : newly bf sg op i j
            · rw [if_pos hn, if_pos (this.mpr hn)]
            · rw [if_neg hn, if_neg (fun h => hn (this.mp h))]
      · have hz : ¬ nI (dif (bf i) sg) = 0 := fun h => hdf ((nI_zero (Nat.lt_trans (dif_lt (hbf i hic)) (by decide))).mp h)
        rw [if_neg hz]
        exact hstay (Or.inr hdf)
theorem opens_spec {σ : SS} {k c : Nat} {bf : Nat → Nat} {sg op : Nat} (d : Int32) (hk : k < 6) (hc : c ≤ 8) (h2 : σ 2 k = nI c) (hbf : ∀ j, j < c → bf j < 2 ^ 8) (h7 : ∀ j, j < c → σ 7 (8 * k + j) = nI (bf j)) (h19 : σ 19 0 = nI sg) (h20 : σ 20 0 = nI op) :
    ∃ σ', f_X5_opens σ (nI k) d = some σ' ∧ OPi σ bf sg op d c σ' := by
  obtain ⟨σ', h1, h3⟩ := opens_loop (d := d) (op := op) hk hc h2 hbf h7 h19 c 0 σ (by omega) FU (by unfold FU; omega) ⟨fun x _ _ => rfl, by rw [h20]; congr 1; simp [rdy], fun j => by rw [if_neg (fun h => by have := h.1; omega)]⟩
  refine ⟨σ', ?_, h3⟩
  unfold f_X5_opens
  rw [show (0 : Int32) = nI 0 from rfl, h1]
  rfl
end
section
/-- what events tell: the signed slots, the state, the slots opened, the days of that, the reminders -/
def sgn (K sl : Nat → Nat) : Nat → Nat
  | 0 => 0
  | i + 1 => if K i = 1 ∨ K i = 2 then sgn K sl i ||| 2 ^ sl i else sgn K sl i
def endS (k : Nat) : Nat := if k = 3 then 3 else if k = 4 then 4 else 5
def sta (c : Nat) (K sl : Nat → Nat) : Nat → Nat
  | 0 => 0
  | i + 1 => if K i = 0 then 1 else if K i = 1 ∨ K i = 2 then (if sgn K sl (i + 1) = 2 ^ c - 1 then 2 else 1) else if K i = 6 then sta c K sl i else endS (K i)
def opd (c : Nat) (bf K sl : Nat → Nat) : Nat → Nat
  | 0 => 0
  | i + 1 => if K i = 0 ∨ K i = 1 ∨ K i = 2 then opd c bf K sl i ||| rdy bf (sgn K sl (i + 1)) c else opd c bf K sl i
def onn (g : Nat → Int32) (c : Nat) (bf K sl : Nat → Nat) (D : Nat → Int32) : Nat → Nat → Int32
  | 0, j => g j
  | i + 1, j => if (K i = 0 ∨ K i = 1 ∨ K i = 2) ∧ newly bf (sgn K sl (i + 1)) (opd c bf K sl i) c j then D i else onn g c bf K sl D i j
def rmd (K sl : Nat → Nat) : Nat → Nat → Nat
  | 0, _ => 0
  | i + 1, j => if K i = 6 ∧ j = sl i then rmd K sl i j + 1 else rmd K sl i j
def Told (τ τ' : SS) (st sg op : Nat) (on : Nat → Int32) (rm : Nat → Nat) : Prop :=
  (∀ x, x < 18 ∨ 22 < x → τ' x = τ x) ∧ τ' 18 0 = nI st ∧ τ' 19 0 = nI sg ∧ τ' 20 0 = nI op ∧ (∀ j, τ' 21 j = on j) ∧ ∀ j, j < 8 → τ' 22 j = nI (rm j)
def Evs (τ : SS) (k c len : Nat) (K sl : Nat → Nat) (D : Nat → Int32) : Prop :=
  ∀ i, i < len → K i ≤ 6 ∧ τ 8 (50 * k + i) = nI (K i) ∧ τ 11 (50 * k + i) = D i ∧ (K i = 1 ∨ K i = 2 ∨ K i = 6 → sl i < c ∧ τ 10 (50 * k + i) = nI (sl i))
/-- what telling an envelope wants of the reference's rows -/
def Sls (τ : SS) (k c : Nat) (bf : Nat → Nat) : Prop := k < 6 ∧ c ≤ 8 ∧ τ 2 k = nI c ∧ (∀ j, j < c → bf j < 2 ^ 8) ∧ ∀ j, j < c → τ 7 (8 * k + j) = nI (bf j)
theorem sgn_lt {K sl : Nat → Nat} {c len : Nat} (h : ∀ i, i < len → (K i = 1 ∨ K i = 2) → sl i < c) : ∀ i, i ≤ len → sgn K sl i < 2 ^ c
  | 0, _ => Nat.two_pow_pos c
  | i + 1, hi => by
    have ih := sgn_lt h i (by omega)
    rw [sgn]
    split
    · rename_i hk
      exact or_lt ih (Nat.pow_lt_pow_right (by decide) (h i (by omega) hk))
    · exact ih
theorem tells_zero {τ : SS} (x1 x2 : Int32) : ∀ (m i : Nat) (σ : SS), i + m = 8 → ∀ fu, m < fu → (∀ x, x ≠ 22 → σ x = τ x) → (∀ j, j < i → σ 22 j = 0) → ∃ σ', f_X5_tells_17 fu σ x1 x2 (nI i) = some (σ', nI 8) ∧ (∀ x, x ≠ 22 → σ' x = τ x) ∧ ∀ j, j < 8 → σ' 22 j = 0 := by
  intro m
  induction m with
  | zero =>
    intro i σ hi fu hfu h h9
    obtain ⟨fu, rfl⟩ : ∃ g, fu = g + 1 := ⟨fu - 1, by omega⟩
    obtain rfl : i = 8 := by omega
    exact ⟨σ, by rw [f_X5_tells_17, if_pos (by decide)], h, h9⟩
  | succ m ih =>
    intro i σ hi fu hfu h h9
    obtain ⟨fu, rfl⟩ : ∃ g, fu = g + 1 := ⟨fu - 1, by omega⟩
    rw [f_X5_tells_17, if_neg (show ¬ (8 : Int32) ≤ nI i from nI_ge (b := 8) (by omega) (by decide)), if_pos (inb9 (by omega) (by decide)), s1, cl9 (by omega)]
    simp only [lt]
    refine ih (i + 1) _ (by omega) fu (by omega) (fun x hx => by rw [up_ne hx, h x hx]) (fun j hj => ?_)
    rw [up_eq]
    by_cases hq : j = i
    · subst hq; exact upd_eq
    · rw [upd_ne hq]; exact h9 j (by omega)
theorem all_spec {τ : SS} {k c : Nat} (hk : k < 6) (hc : c ≤ 8) (h2 : τ 2 k = nI c) : f_X5_all τ (nI k) = some (nI (2 ^ c - 1)) := by
  unfold f_X5_all
  rw [if_pos (inb9 hk (by decide)), cl9 (by omega), h2, i_all hc]
theorem pu_p8 {c : Nat} (hc : c ≤ 8) : 2 ^ c ≤ 256 := Nat.pow_le_pow_right (n := 2) (by decide) hc
set_option maxHeartbeats 1000000 in
theorem tells_loop {τ : SS} {k c len : Nat} {bf K sl : Nat → Nat} {D : Nat → Int32} (hS : Sls τ k c bf) (hE : Evs τ k c len K sl D) (hlen : len ≤ 50) (g : Nat → Int32) :
    ∀ (m i : Nat) (σ : SS), i + m = len → ∀ fu, m < fu → Told τ σ (sta c K sl i) (sgn K sl i) (opd c bf K sl i) (onn g c bf K sl D i) (rmd K sl i) →
      ∃ σ' z, f_X5_tells_41 fu σ (nI k) (nI len) (nI (50 * k + i)) = some (σ', z) ∧ Told τ σ' (sta c K sl len) (sgn K sl len) (opd c bf K sl len) (onn g c bf K sl D len) (rmd K sl len) := by
  obtain ⟨hk, hc, h2, hbf, h7⟩ := hS
  have hsg : ∀ i, i ≤ len → sgn K sl i < 2 ^ c := sgn_lt (fun i hi h => ((hE i hi).2.2.2 (by omega)).1)
  intro m
  induction m with
  | zero =>
    intro i σ hi fu hfu h
    obtain ⟨fu, rfl⟩ : ∃ g, fu = g + 1 := ⟨fu - 1, by omega⟩
    obtain rfl : i = len := by omega
    exact ⟨σ, nI (50 * k + i), by rw [f_X5_tells_41, ix50, if_pos (nI_le (Nat.le_refl _) (by omega))], h⟩
  | succ m ih =>
    intro i σ hi fu hfu h
    obtain ⟨fu, rfl⟩ : ∃ g, fu = g + 1 := ⟨fu - 1, by omega⟩
    obtain ⟨ha, h18, h19, h20, h21, h22⟩ := h
    obtain ⟨hK6, e8, e11, e10⟩ := hE i (by omega)
    have hx : inb (nI (50 * k + i)) 300 := inb9 (by omega) (by decide)
    have hcl : (nI (50 * k + i)).toNatClampNeg = 50 * k + i := cl9 (by omega)
    have a8 : σ 8 = τ 8 := ha 8 (by decide)
    have a10 : σ 10 = τ 10 := ha 10 (by decide)
    have a11 : σ 11 = τ 11 := ha 11 (by decide)
    have e50 : nI (50 * k + i) + (1 : Int32) = nI (50 * k + (i + 1)) := s1 _
    rw [f_X5_tells_41, ix50, if_neg (nI_ge (by omega) (by omega)), if_pos hx]
    simp only [hcl, a8, e8]
    have hsig : (K i = 1 ∨ K i = 2) → ∃ σ' z, (lt (va_up σ 19 (fun _ => ((σ 19 0) ||| ((1 : Int32) <<< (((σ 10) (50 * k + i)) &&& 31))))) fun t5 => (if inb (nI (50 * k + i)) 300 then ((f_X5_opens t5 (nI k) ((t5 11) (50 * k + i))).bind fun z6 => ((f_X5_all z6 (nI k)).bind fun z7 => (if (z6 19 0) = z7 then (lt (va_up z6 18 (fun _ => (2 : Int32))) fun t8 => (f_X5_tells_41 fu t8 (nI k) (nI len) (nI (50 * k + i) + (1 : Int32)))) else (lt (va_up z6 18 (fun _ => (1 : Int32))) fun t8 => (f_X5_tells_41 fu t8 (nI k) (nI len) (nI (50 * k + i) + (1 : Int32))))))) else none)) = some (σ', z) ∧ Told τ σ' (sta c K sl len) (sgn K sl len) (opd c bf K sl len) (onn g c bf K sl D len) (rmd K sl len) := by
      intro hk12
      obtain ⟨hslc, e10⟩ := e10 (by omega)
      have hk0 : ¬ K i = 0 := by omega
      have hk6 : ¬ K i = 6 := by omega
      have es : sgn K sl (i + 1) = sgn K sl i ||| 2 ^ sl i := by rw [sgn, if_pos hk12]
      simp only [lt]
      rw [if_pos hx, a10, e10, i_one (by omega), h19, fa_or, ← es, up_ne (by decide), a11, e11, e50]
      obtain ⟨σ5, f5, p1, p2, p3⟩ := opens_spec (σ := va_up σ 19 (fun _ => nI (sgn K sl (i + 1)))) (k := k) (c := c) (bf := bf) (sg := sgn K sl (i + 1)) (op := opd c bf K sl i) (D i) hk hc (by rw [up_ne (by decide), ha 2 (by decide)]; exact h2) hbf (fun j hj => by rw [up_ne (by decide), ha 7 (by decide)]; exact h7 j hj) (by rw [up_eq]) (by rw [up_ne (by decide)]; exact h20)
      rw [f5, Option.bind_some, all_spec hk hc (by rw [p1 2 (by decide) (by decide), up_ne (by decide), ha 2 (by decide)]; exact h2), Option.bind_some, p1 19 (by decide) (by decide), up_eq]
      have hst : ∀ v : Nat, v = sta c K sl (i + 1) → Told τ (va_up σ5 18 (fun _ => nI v)) (sta c K sl (i + 1)) (sgn K sl (i + 1)) (opd c bf K sl (i + 1)) (onn g c bf K sl D (i + 1)) (rmd K sl (i + 1)) := by
        intro v hv
        refine ⟨fun x hx => ?_, by rw [up_eq, hv], ?_, ?_, fun j => ?_, fun j hj => ?_⟩
        · rw [up_ne (by omega), p1 x (by omega) (by omega), up_ne (by omega), ha x hx]
        · rw [up_ne (by decide), p1 19 (by decide) (by decide), up_eq]
        · rw [up_ne (by decide), p2, opd, if_pos (by omega)]
        · rw [up_ne (by decide), p3 j, onn]
          by_cases hn : newly bf (sgn K sl (i + 1)) (opd c bf K sl i) c j
          · rw [if_pos hn, if_pos ⟨by omega, hn⟩]
          · rw [if_neg hn, if_neg (fun h => hn h.2), up_ne (by decide), h21 j]
        · rw [up_ne (by decide), p1 22 (by decide) (by decide), up_ne (by decide), h22 j hj, rmd, if_neg (fun h => hk6 h.1)]
      have hb1 : sgn K sl (i + 1) < 2 ^ 31 := Nat.lt_trans (hsg (i + 1) (by omega)) (Nat.pow_lt_pow_right (by decide) (by omega))
      have hb2 : 2 ^ c - 1 < 2 ^ 31 := by have := pu_p8 hc; omega
      by_cases he : sgn K sl (i + 1) = 2 ^ c - 1
      · rw [if_pos (by rw [he])]
        exact ih (i + 1) _ (by omega) fu (by omega) (hst 2 (by rw [sta, if_neg hk0, if_pos hk12, if_pos he]))
      · rw [if_neg (fun h => he ((nI_eq hb1 hb2).mp h))]
        exact ih (i + 1) _ (by omega) fu (by omega) (hst 1 (by rw [sta, if_neg hk0, if_pos hk12, if_neg he]))
    by_cases h0 : K i = 0
    · rw [h0, if_pos nI_0]
      simp only [lt]
      rw [if_pos hx, up_ne (by decide), a11, e11, e50]
      have es : sgn K sl (i + 1) = sgn K sl i := by rw [sgn, if_neg (by omega)]
      obtain ⟨σ5, f5, p1, p2, p3⟩ := opens_spec (σ := va_up σ 18 (fun _ => (1 : Int32))) (k := k) (c := c) (bf := bf) (sg := sgn K sl (i + 1)) (op := opd c bf K sl i) (D i) hk hc (by rw [up_ne (by decide), ha 2 (by decide)]; exact h2) hbf (fun j hj => by rw [up_ne (by decide), ha 7 (by decide)]; exact h7 j hj) (by rw [up_ne (by decide), es]; exact h19) (by rw [up_ne (by decide)]; exact h20)
      rw [f5, Option.bind_some]
      refine ih (i + 1) _ (by omega) fu (by omega) ⟨fun x hx => ?_, ?_, ?_, ?_, fun j => ?_, fun j hj => ?_⟩
      · rw [p1 x (by omega) (by omega), up_ne (by omega), ha x hx]
      · rw [p1 18 (by decide) (by decide), up_eq, sta, if_pos h0]; rfl
      · rw [p1 19 (by decide) (by decide), up_ne (by decide), h19, es]
      · rw [p2, opd, if_pos (by omega)]
      · rw [p3 j, onn]
        by_cases hn : newly bf (sgn K sl (i + 1)) (opd c bf K sl i) c j
        · rw [if_pos hn, if_pos ⟨by omega, hn⟩]
        · rw [if_neg hn, if_neg (fun h => hn h.2), up_ne (by decide), h21 j]
      · rw [p1 22 (by decide) (by decide), up_ne (by decide), h22 j hj, rmd, if_neg (by omega)]
    · rw [if_neg (fun h => h0 ((nI_zero (by omega)).mp h)), if_pos hx]
      have nk : ∀ n : Nat, n ≤ 6 → ¬ K i = n → ¬ nI (K i) = nI n := fun n hn h e => h ((nI_eq (by omega) (by omega)).mp e)
      by_cases h1 : K i = 1
      · rw [h1, if_pos (show nI 1 = 1 from rfl), if_pos hx]
        exact hsig (Or.inl h1)
      rw [if_neg (show ¬ nI (K i) = 1 from nk 1 (by decide) h1), if_pos hx]
      by_cases h2' : K i = 2
      · rw [h2', if_pos (show nI 2 = 2 from rfl), if_pos hx]
        exact hsig (Or.inr h2')
      rw [if_neg (show ¬ nI (K i) = 2 from nk 2 (by decide) h2'), if_pos hx]
      have es : sgn K sl (i + 1) = sgn K sl i := by rw [sgn, if_neg (by omega)]
      have eo : opd c bf K sl (i + 1) = opd c bf K sl i := by rw [opd, if_neg (by omega)]
      have en : ∀ j, onn g c bf K sl D (i + 1) j = onn g c bf K sl D i j := fun j => by rw [onn, if_neg (by omega)]
      by_cases h6 : K i = 6
      · obtain ⟨hslc, e10⟩ := e10 (by omega)
        rw [h6, if_pos (show nI 6 = 6 from rfl), if_pos hx]
        simp only [a10, e10]
        rw [if_pos (inb9 (by omega) (by decide)), if_pos (inb9 (by omega) (by decide)), cl9 (by omega), e50]
        simp only [lt]
        refine ih (i + 1) _ (by omega) fu (by omega) ⟨fun x hx => ?_, ?_, ?_, ?_, fun j => ?_, fun j hj => ?_⟩
        · rw [up_ne (by omega), ha x hx]
        · rw [up_ne (by decide), h18, sta, if_neg h0, if_neg (by omega), if_pos h6]
        · rw [up_ne (by decide), h19, es]
        · rw [up_ne (by decide), h20, eo]
        · rw [up_ne (by decide), h21 j, en]
        · rw [up_eq, rmd]
          by_cases hq : j = sl i
          · subst hq
            rw [upd_eq, h22 _ hj, if_pos ⟨h6, rfl⟩, s1]
          · rw [upd_ne hq, h22 j hj, if_neg (fun h => hq h.2)]
      · rw [if_neg (show ¬ nI (K i) = 6 from nk 6 (by decide) h6), if_pos hx, e50]
        simp only [lt]
        refine ih (i + 1) _ (by omega) fu (by omega) ⟨fun x hx => ?_, ?_, ?_, ?_, fun j => ?_, fun j hj => ?_⟩
        · rw [up_ne (by omega), ha x hx]
        · rw [up_eq, sta, if_neg h0, if_neg (by omega), if_neg h6]
          unfold f_X5_ends endS
          by_cases h3 : K i = 3
          · rw [h3, if_pos (show nI 3 = 3 from rfl)]; rfl
          · rw [if_neg (show ¬ nI (K i) = 3 from nk 3 (by decide) h3), if_neg h3]
            by_cases h4 : K i = 4
            · rw [h4, if_pos (show nI 4 = 4 from rfl)]; rfl
            · rw [if_neg (show ¬ nI (K i) = 4 from nk 4 (by decide) h4), if_neg h4]; rfl
        · rw [up_ne (by decide), h19, es]
        · rw [up_ne (by decide), h20, eo]
        · rw [up_ne (by decide), h21 j, en]
        · rw [up_ne (by decide), h22 j hj, rmd, if_neg (fun h => h6 h.1)]
theorem tells_spec {τ : SS} {k c len : Nat} {bf K sl : Nat → Nat} {D : Nat → Int32} (hS : Sls τ k c bf) (hE : Evs τ k c len K sl D) (hlen : len ≤ 50) :
    ∃ τ', f_X5_tells τ (nI k) (nI len) = some τ' ∧ Told τ τ' (sta c K sl len) (sgn K sl len) (opd c bf K sl len) (onn (τ 21) c bf K sl D len) (rmd K sl len) := by
  obtain ⟨σ1, z1, z2, z3⟩ := tells_zero (τ := va_up (va_up (va_up τ 18 (fun _ => (0 : Int32))) 19 (fun _ => (0 : Int32))) 20 (fun _ => (0 : Int32))) (nI k) (nI len) 8 0 _ rfl FU (by decide) (fun x _ => rfl) (fun j hj => absurd hj (by omega))
  obtain ⟨σ2, z, l1, l2⟩ := tells_loop hS hE hlen (τ 21) len 0 σ1 (by omega) FU (by unfold FU; omega) ⟨fun x hx => by rw [z2 x (by omega), up_ne (by omega), up_ne (by omega), up_ne (by omega)], by rw [z2 18 (by decide), up_ne (by decide), up_ne (by decide), up_eq]; rfl, by rw [z2 19 (by decide), up_ne (by decide), up_eq]; rfl, by rw [z2 20 (by decide), up_eq]; rfl, fun j => by rw [z2 21 (by decide), up_ne (by decide), up_ne (by decide), up_ne (by decide)]; rfl, fun j hj => by rw [z3 j hj]; rfl⟩
  refine ⟨σ2, ?_, l2⟩
  unfold f_X5_tells
  simp only [lt]
  rw [show (0 : Int32) = nI 0 from rfl] at z1 ⊢
  rw [z1, Option.bind_some, ix50', show 50 * k = 50 * k + 0 from rfl, l1]
  rfl
end
