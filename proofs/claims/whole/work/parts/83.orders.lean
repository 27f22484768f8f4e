/-! Orders, found by sets -/
section
/-- the counts after the first slots of one set -/
def stp (bf : Nat → Nat) (s : Nat) (A : Nat → Nat) : Nat → Nat → Nat
  | 0 => A
  | k + 1 => if s.testBit k = false ∧ dif (bf k) s = 0 then (fun x => if x = s ||| 2 ^ k then stp bf s A k x + A s else stp bf s A k x) else stp bf s A k
def dp (bf : Nat → Nat) (c fr : Nat) : Nat → Nat → Nat
  | 0 => fun x => if x = fr then 1 else 0
  | s + 1 => stp bf s (dp bf c fr s) c
theorem or_ne {s k : Nat} (h : s.testBit k = false) : s ||| 2 ^ k ≠ s := by
  intro e
  have h2 : (s ||| 2 ^ k).testBit k = true := by rw [Nat.testBit_or, two_bit]; simp
  rw [e, h] at h2
  cases h2
theorem or_gt {s k : Nat} (h : s.testBit k = false) : s < s ||| 2 ^ k := by
  have h1 : s ≤ s ||| 2 ^ k := Nat.left_le_or
  have h2 := or_ne h
  omega
theorem stp_self {bf : Nat → Nat} {s : Nat} {A : Nat → Nat} : ∀ k, stp bf s A k s = A s
  | 0 => rfl
  | k + 1 => by
    rw [stp]
    by_cases h : s.testBit k = false ∧ dif (bf k) s = 0
    · rw [if_pos h]
      show (if s = s ||| 2 ^ k then stp bf s A k s + A s else stp bf s A k s) = A s
      rw [if_neg (fun e => or_ne h.1 e.symm)]
      exact stp_self k
    · rw [if_neg h]
      exact stp_self k
theorem stp_at {bf : Nat → Nat} {s k : Nat} {A : Nat → Nat} (h : s.testBit k = false ∧ dif (bf k) s = 0) (x : Nat) : stp bf s A (k + 1) x = if x = s ||| 2 ^ k then stp bf s A k x + A s else stp bf s A k x := by
  rw [stp, if_pos h]
theorem stp_no {bf : Nat → Nat} {s k : Nat} {A : Nat → Nat} (h : ¬ (s.testBit k = false ∧ dif (bf k) s = 0)) : stp bf s A (k + 1) = stp bf s A k := by
  rw [stp, if_neg h]
theorem stp_zero {bf : Nat → Nat} {s : Nat} {A : Nat → Nat} (h0 : A s = 0) : ∀ k, stp bf s A k = A
  | 0 => rfl
  | k + 1 => by
    funext x
    by_cases h : s.testBit k = false ∧ dif (bf k) s = 0
    · rw [stp_at h, h0, stp_zero h0 k]
      split <;> rfl
    · rw [stp_no h, stp_zero h0 k]
theorem stp_nI {bf : Nat → Nat} {s : Nat} {A : Nat → Nat} (h0 : nI (A s) = 0) (x : Nat) : ∀ k, nI (stp bf s A k x) = nI (A x)
  | 0 => rfl
  | k + 1 => by
    by_cases h : s.testBit k = false ∧ dif (bf k) s = 0
    · rw [stp_at h]
      by_cases e : x = s ||| 2 ^ k
      · rw [if_pos e, ← nI_add, h0, Int32.add_zero]
        exact stp_nI h0 x k
      · rw [if_neg e]
        exact stp_nI h0 x k
    · rw [stp_no h]
      exact stp_nI h0 x k
theorem stp_far {bf : Nat → Nat} {s c : Nat} {A : Nat → Nat} (hs : 2 ^ c - 1 ≤ s) : ∀ k, k ≤ c → stp bf s A k (2 ^ c - 1) = A (2 ^ c - 1)
  | 0, _ => rfl
  | k + 1, hk => by
    have ih := stp_far (bf := bf) (A := A) hs k (by omega)
    by_cases h : s.testBit k = false ∧ dif (bf k) s = 0
    · have h1 := or_gt h.1
      rw [stp_at h, if_neg (by omega)]
      exact ih
    · rw [stp_no h]
      exact ih
theorem dp_pre {bf : Nat → Nat} {c fr : Nat} : ∀ s, s ≤ fr → dp bf c fr s = dp bf c fr 0
  | 0, _ => rfl
  | s + 1, h => by
    have ih := dp_pre (bf := bf) (c := c) (fr := fr) s (by omega)
    show stp bf s (dp bf c fr s) c = _
    rw [ih]
    refine stp_zero ?_ c
    show (if s = fr then 1 else 0) = 0
    rw [if_neg (by omega)]
theorem dp_post {bf : Nat → Nat} {c fr : Nat} : ∀ m, dp bf c fr (2 ^ c - 1 + m) (2 ^ c - 1) = dp bf c fr (2 ^ c - 1) (2 ^ c - 1)
  | 0 => rfl
  | m + 1 => by
    show stp bf (2 ^ c - 1 + m) (dp bf c fr (2 ^ c - 1 + m)) c (2 ^ c - 1) = _
    rw [stp_far (by omega) c (Nat.le_refl _)]
    exact dp_post m
-- the reference
theorem ref2 {τ : SS} {k fr : Nat} : ∀ (m i : Nat) (σ : SS), i + m = 256 → fr < 256 → ∀ fu, m < fu → (∀ x, x ≠ 23 → σ x = τ x) → (∀ x, x < i → σ 23 x = nI (if x = fr then 1 else 0)) →
    ∃ σ' z, f_X5_countsFrom_2 fu σ (nI k) (nI fr) (nI i) = some (σ', z) ∧ (∀ x, x ≠ 23 → σ' x = τ x) ∧ ∀ x, x < 256 → σ' 23 x = nI (if x = fr then 1 else 0) := by
  intro m
  induction m with
  | zero =>
    intro i σ hi hfr fu hfu ha hb
    obtain ⟨fu, rfl⟩ : ∃ g, fu = g + 1 := ⟨fu - 1, by omega⟩
    obtain rfl : i = 256 := by omega
    exact ⟨σ, nI 256, by rw [f_X5_countsFrom_2, if_pos (show (256 : Int32) ≤ nI 256 from nI_le (a := 256) (Nat.le_refl _) (by decide))], ha, hb⟩
  | succ m ih =>
    intro i σ hi hfr fu hfu ha hb
    obtain ⟨fu, rfl⟩ : ∃ g, fu = g + 1 := ⟨fu - 1, by omega⟩
    have hx : inb (nI i) 256 := inb9 (by omega) (by decide)
    have hcl : (nI i).toNatClampNeg = i := cl9 (by omega)
    rw [f_X5_countsFrom_2, if_neg (show ¬ (256 : Int32) ≤ nI i from nI_ge (b := 256) (by omega) (by decide)), if_pos hx, if_pos hx, s1]
    simp only [hcl, lt]
    have put : ∀ v : Nat, v = (if i = fr then 1 else 0) → ∃ σ' z, f_X5_countsFrom_2 fu (va_up σ 23 (upd (σ 23) i (nI v))) (nI k) (nI fr) (nI (i + 1)) = some (σ', z) ∧ (∀ x, x ≠ 23 → σ' x = τ x) ∧ ∀ x, x < 256 → σ' 23 x = nI (if x = fr then 1 else 0) := by
      intro v hv
      refine ih (i + 1) _ (by omega) hfr fu (by omega) (fun x hx => by rw [up_ne hx, ha x hx]) (fun x hx => ?_)
      rw [up_eq]
      by_cases e : x = i
      · subst e
        rw [upd_eq, hv]
      · rw [upd_ne e]
        exact hb x (by omega)
    by_cases e : i = fr
    · rw [if_pos (by rw [e])]
      exact put 1 (by rw [if_pos e])
    · rw [if_neg (fun h => e ((nI_eq (by omega) (by omega)).mp h))]
      exact put 0 (by rw [if_neg e])
set_option maxHeartbeats 1000000 in
theorem ref43 {τ : SS} {k c s : Nat} {bf A : Nat → Nat} (hk : k < 6) (hc : c ≤ 8) (h2 : τ 2 k = nI c) (h7 : ∀ j, j < c → τ 7 (8 * k + j) = nI (bf j)) (hbf : ∀ j, j < c → bf j < 2 ^ 8) (hs : s < 256) {x2 : Int32} :
    ∀ (m i : Nat) (σ : SS), i + m = c → ∀ fu, m < fu → (∀ x, x ≠ 23 → σ x = τ x) → (∀ x, x < 256 → σ 23 x = nI (stp bf s A i x)) →
    ∃ σ' z, f_X5_countsFrom_43 fu σ (nI k) x2 (nI s) (nI i) = some (σ', z) ∧ (∀ x, x ≠ 23 → σ' x = τ x) ∧ ∀ x, x < 256 → σ' 23 x = nI (stp bf s A c x) := by
  have hik : inb (nI k) 6 := inb9 hk (by decide)
  have hclk : (nI k).toNatClampNeg = k := cl9 (by omega)
  have his : inb (nI s) 256 := inb9 hs (by decide)
  have hcls : (nI s).toNatClampNeg = s := cl9 (by omega)
  intro m
  induction m with
  | zero =>
    intro i σ hi fu hfu ha hb
    obtain ⟨fu, rfl⟩ : ∃ g, fu = g + 1 := ⟨fu - 1, by omega⟩
    obtain rfl : i = c := by omega
    refine ⟨σ, nI i, ?_, ha, hb⟩
    rw [f_X5_countsFrom_43, if_pos hik]
    simp only [hclk, ha 2 (by decide), h2]
    rw [if_pos (nI_le (Nat.le_refl _) (by omega))]
  | succ m ih =>
    intro i σ hi fu hfu ha hb
    obtain ⟨fu, rfl⟩ : ∃ g, fu = g + 1 := ⟨fu - 1, by omega⟩
    have hic : i < c := by omega
    have same : (¬ (s.testBit i = false ∧ dif (bf i) s = 0)) → ∃ σ' z, f_X5_countsFrom_43 fu (va_up σ 23 (upd (σ 23) s (σ 23 s + 0))) (nI k) x2 (nI s) (nI (i + 1)) = some (σ', z) ∧ (∀ x, x ≠ 23 → σ' x = τ x) ∧ ∀ x, x < 256 → σ' 23 x = nI (stp bf s A c x) := by
      intro hn
      refine ih (i + 1) _ (by omega) fu (by omega) (fun x hx => by rw [up_ne hx, ha x hx]) (fun x hx => ?_)
      rw [up_eq, Int32.add_zero, fa_upd_same rfl, stp_no hn]
      exact hb x hx
    rw [f_X5_countsFrom_43, if_pos hik]
    simp only [hclk, ha 2 (by decide), h2]
    rw [if_neg (nI_ge hic (by omega)), ix8, if_pos (inb9 (show 8 * k + i < 48 by omega) (by decide)), s1, i_one (show i < 32 by omega), fa_or]
    simp only [has5' _ (show i < 31 by omega), cl9 (show 8 * k + i < 2 ^ 31 by omega), ha 7 (by decide), h7 i hic, i_dif, hcls, lt, if_pos his]
    by_cases hb1 : s.testBit i = false
    · rw [if_pos hb1]
      by_cases hd : dif (bf i) s = 0
      · have hor : s ||| 2 ^ i < 256 := or_lt (n := 8) hs (Nat.pow_lt_pow_right (by decide) (by omega))
        have hio : inb (nI (s ||| 2 ^ i)) 256 := inb9 hor (by decide)
        have hclo : (nI (s ||| 2 ^ i)).toNatClampNeg = s ||| 2 ^ i := cl9 (by omega)
        rw [hd, if_pos nI_0]
        simp only [hclo, if_pos hio]
        refine ih (i + 1) _ (by omega) fu (by omega) (fun x hx => by rw [up_ne hx, ha x hx]) (fun x hx => ?_)
        rw [up_eq, stp_at ⟨hb1, hd⟩]
        by_cases e : x = s ||| 2 ^ i
        · subst e
          rw [upd_eq, if_pos rfl, hb _ hor, hb s hs, nI_add, stp_self]
        · rw [upd_ne e, if_neg e]
          exact hb x hx
      · rw [if_neg (fun e => hd ((nI_zero (Nat.lt_trans (dif_lt (hbf i hic)) (by decide))).mp e))]
        exact same (fun h => hd h.2)
    · rw [if_neg hb1]
      exact same (fun h => hb1 h.1)
theorem ref33 {τ : SS} {k c fr : Nat} {bf : Nat → Nat} (x2 : Int32) (hk : k < 6) (hc : c ≤ 8) (h2 : τ 2 k = nI c) (h7 : ∀ j, j < c → τ 7 (8 * k + j) = nI (bf j)) (hbf : ∀ j, j < c → bf j < 2 ^ 8) :
    ∀ (m i : Nat) (σ : SS), i + m = 256 → ∀ fu, m < fu → (∀ x, x ≠ 23 → σ x = τ x) → (∀ x, x < 256 → σ 23 x = nI (dp bf c fr i x)) →
    ∃ σ' z, f_X5_countsFrom_33 fu σ (nI k) x2 (nI i) = some (σ', z) ∧ (∀ x, x ≠ 23 → σ' x = τ x) ∧ ∀ x, x < 256 → σ' 23 x = nI (dp bf c fr 256 x) := by
  intro m
  induction m with
  | zero =>
    intro i σ hi fu hfu ha hb
    obtain ⟨fu, rfl⟩ : ∃ g, fu = g + 1 := ⟨fu - 1, by omega⟩
    obtain rfl : i = 256 := by omega
    exact ⟨σ, nI 256, by rw [f_X5_countsFrom_33, if_pos (show (256 : Int32) ≤ nI 256 from nI_le (a := 256) (Nat.le_refl _) (by decide))], ha, hb⟩
  | succ m ih =>
    intro i σ hi fu hfu ha hb
    obtain ⟨fu, rfl⟩ : ∃ g, fu = g + 1 := ⟨fu - 1, by omega⟩
    obtain ⟨σ2, z2, l1, l2, l3⟩ := ref43 (x2 := x2) (τ := τ) (A := dp bf c fr i) hk hc h2 h7 hbf (show i < 256 by omega) c 0 σ (by omega) FU (by unfold FU; omega) ha hb
    have l1 : f_X5_countsFrom_43 FU σ (nI k) x2 (nI i) 0 = some (σ2, z2) := l1
    obtain ⟨σ', z, a1, a2, a3⟩ := ih (i + 1) σ2 (by omega) fu (by omega) l2 l3
    refine ⟨σ', z, ?_, a2, a3⟩
    rw [f_X5_countsFrom_33, if_neg (show ¬ (256 : Int32) ≤ nI i from nI_ge (b := 256) (by omega) (by decide)), l1, Option.bind_some, s1]
    exact a1
theorem counts_spec {τ : SS} {k c fr : Nat} {bf : Nat → Nat} (hk : k < 6) (hc : c ≤ 8) (h2 : τ 2 k = nI c) (h7 : ∀ j, j < c → τ 7 (8 * k + j) = nI (bf j)) (hbf : ∀ j, j < c → bf j < 2 ^ 8) (hfr : fr < 2 ^ c) :
    ∃ τ', f_X5_countsFrom τ (nI k) (nI fr) = some (nI (dp bf c fr (2 ^ c - 1) (2 ^ c - 1)), τ') ∧ ∀ x, x ≠ 23 → τ' x = τ x := by
  have hpos := Nat.two_pow_pos c
  have hp := pu_p8 hc
  obtain ⟨σ1, z1, b1, b2, b3⟩ := ref2 (τ := τ) (k := k) (fr := fr) 256 0 τ (by omega) (by omega) FU (by unfold FU; omega) (fun _ _ => rfl) (fun x hx => absurd hx (by omega))
  have b1 : f_X5_countsFrom_2 FU τ (nI k) (nI fr) 0 = some (σ1, z1) := b1
  obtain ⟨σ2, z2, a1, a2, a3⟩ := ref33 (τ := τ) (fr := fr) (nI fr) hk hc h2 h7 hbf 256 0 σ1 (by omega) FU (by unfold FU; omega) b2 (fun x hx => b3 x hx)
  have a1 : f_X5_countsFrom_33 FU σ1 (nI k) (nI fr) 0 = some (σ2, z2) := a1
  refine ⟨σ2, ?_, a2⟩
  unfold f_X5_countsFrom
  rw [b1, Option.bind_some, a1, Option.bind_some]
  show ((f_X5_all σ2 (nI k)).bind fun z3 => if inb z3 256 then some (σ2 23 z3.toNatClampNeg, σ2) else none) = _
  rw [all_spec (c := c) hk hc (by rw [a2 2 (by decide)]; exact h2), Option.bind_some, if_pos (inb9 (by omega) (by decide)), cl9 (by omega), a3 _ (by omega)]
  have e := dp_post (bf := bf) (c := c) (fr := fr) (256 - (2 ^ c - 1))
  rw [show 2 ^ c - 1 + (256 - (2 ^ c - 1)) = 256 by omega] at e
  rw [e]
-- the class
theorem cls8 {σ0 : SS} {fr al : Nat} (hal : al < 256) : ∀ (m i : Nat) (σ : SS), i + m = al + 1 → fr ≤ i → ∀ fu, m < fu → (∀ x, x ≠ 17 → σ x = σ0 x) → (∀ x, fr ≤ x → x < i → σ 17 x = 0) →
    ∃ σ' z, f_X0_ordersBehind_8 fu σ (nI fr) (nI al) (nI i) = some (σ', z) ∧ (∀ x, x ≠ 17 → σ' x = σ0 x) ∧ ∀ x, fr ≤ x → x ≤ al → σ' 17 x = 0 := by
  intro m
  induction m with
  | zero =>
    intro i σ hi hfr fu hfu ha hb
    obtain ⟨fu, rfl⟩ : ∃ g, fu = g + 1 := ⟨fu - 1, by omega⟩
    exact ⟨σ, nI i, by rw [f_X0_ordersBehind_8, if_pos (nI_lt (by omega) (by omega))], ha, fun x h1 h2 => hb x h1 (by omega)⟩
  | succ m ih =>
    intro i σ hi hfr fu hfu ha hb
    obtain ⟨fu, rfl⟩ : ∃ g, fu = g + 1 := ⟨fu - 1, by omega⟩
    rw [f_X0_ordersBehind_8, if_neg (nI_nlt (by omega) (by omega)), s1, rs9 (show i < 256 by omega) (by decide)]
    simp only [lt]
    refine ih (i + 1) _ (by omega) (by omega) fu (by omega) (fun x hx => by rw [up_ne hx, ha x hx]) (fun x h1 h2 => ?_)
    rw [up_eq]
    by_cases e : x = i
    · subst e
      exact upd_eq
    · rw [upd_ne e]
      exact hb x h1 (by omega)
theorem cls70z {σ : SS} {c : Nat} (x1 x3 x4 x5 : Int32) (hc : c ≤ 8) (h10 : σ 10 0 = nI c) : ∀ (m i : Nat), i + m = c → ∀ fu, m < fu → ∃ z, f_X0_ordersBehind_70 fu σ x1 x3 x4 x5 (nI 0) (nI i) = some (σ, z) := by
  intro m
  induction m with
  | zero =>
    intro i hi fu hfu
    obtain ⟨fu, rfl⟩ : ∃ g, fu = g + 1 := ⟨fu - 1, by omega⟩
    obtain rfl : i = c := by omega
    exact ⟨_, by rw [f_X0_ordersBehind_70, h10, if_pos (nI_le (Nat.le_refl _) (by omega))]⟩
  | succ m ih =>
    intro i hi fu hfu
    obtain ⟨fu, rfl⟩ : ∃ g, fu = g + 1 := ⟨fu - 1, by omega⟩
    obtain ⟨z, hz⟩ := ih (i + 1) (by omega) fu (by omega)
    refine ⟨z, ?_⟩
    rw [f_X0_ordersBehind_70, h10, if_neg (nI_ge (by omega) (by omega)), s1]
    simp only [has4' _ (show i < 31 by omega)]
    rw [if_pos (Nat.zero_testBit i)]
    exact hz
theorem cls70 {σ0 : SS} {c s fr : Nat} {bf A : Nat → Nat} (x1 x3 : Int32) (hc : c ≤ 8) (h10 : σ0 10 0 = nI c) (hs : s < 2 ^ c) (hfr : fr ≤ s) :
    ∀ (m i : Nat) (σ : SS), i + m = c → ∀ fu, m < fu → (∀ x, x ≠ 17 → σ x = σ0 x) → (∀ x, fr ≤ x → x < 2 ^ c → σ 17 x = nI (stp bf s A i x)) →
    ∃ σ' z, f_X0_ordersBehind_70 fu σ x1 x3 (nI s) (nI (A s)) (nI (dif (rdy bf s c) s)) (nI i) = some (σ', z) ∧ (∀ x, x ≠ 17 → σ' x = σ0 x) ∧ ∀ x, fr ≤ x → x < 2 ^ c → σ' 17 x = nI (stp bf s A c x) := by
  have hp := pu_p8 hc
  intro m
  induction m with
  | zero =>
    intro i σ hi fu hfu ha hb
    obtain ⟨fu, rfl⟩ : ∃ g, fu = g + 1 := ⟨fu - 1, by omega⟩
    obtain rfl : i = c := by omega
    exact ⟨σ, nI i, by rw [f_X0_ordersBehind_70, ha 10 (by decide), h10, if_pos (nI_le (Nat.le_refl _) (by omega))], ha, hb⟩
  | succ m ih =>
    intro i σ hi fu hfu ha hb
    obtain ⟨fu, rfl⟩ : ∃ g, fu = g + 1 := ⟨fu - 1, by omega⟩
    have hic : i < c := by omega
    have hbit : (dif (rdy bf s c) s).testBit i = false ↔ ¬ (s.testBit i = false ∧ dif (bf i) s = 0) := by
      rw [dif_bit, rdy_bit]
      by_cases hd : dif (bf i) s = 0 <;> cases s.testBit i <;> simp [hic, hd]
    rw [f_X0_ordersBehind_70, ha 10 (by decide), h10, if_neg (nI_ge hic (by omega)), s1, i_one (show i < 32 by omega), fa_or]
    simp only [has4' _ (show i < 31 by omega)]
    by_cases hn : (dif (rdy bf s c) s).testBit i = false
    · rw [if_pos hn]
      exact ih (i + 1) σ (by omega) fu (by omega) ha (fun x h1 h2 => by rw [stp_no (hbit.mp hn)]; exact hb x h1 h2)
    · have hcd : s.testBit i = false ∧ dif (bf i) s = 0 := Classical.byContradiction fun h => hn (hbit.mpr h)
      have hor : s ||| 2 ^ i < 2 ^ c := or_lt hs (Nat.pow_lt_pow_right (by decide) hic)
      have hgt := or_gt hcd.1
      rw [if_neg hn, rs9 (show s ||| 2 ^ i < 256 by omega) (by decide), rg9 (show s ||| 2 ^ i < 256 by omega) (by decide)]
      simp only [lt]
      refine ih (i + 1) _ (by omega) fu (by omega) (fun x hx => by rw [up_ne hx, ha x hx]) (fun x h1 h2 => ?_)
      rw [up_eq, stp_at hcd]
      by_cases e : x = s ||| 2 ^ i
      · subst e
        rw [upd_eq, if_pos rfl, hb _ (by omega) hor, nI_add]
      · rw [upd_ne e, if_neg e]
        exact hb x h1 h2
theorem cls36 {σ0 : SS} {c fr : Nat} {bf : Nat → Nat} (hc : c ≤ 8) (h10 : σ0 10 0 = nI c) (hbf : ∀ j, j < c → bf j < 2 ^ 8) (h1 : ∀ j, j < c → σ0 1 j = nI (bf j)) :
    ∀ (m i : Nat) (σ : SS), i + m = 2 ^ c - 1 → fr ≤ i → ∀ fu, m < fu → (∀ x, x ≠ 17 → σ x = σ0 x) → (∀ x, fr ≤ x → x < 2 ^ c → σ 17 x = nI (dp bf c fr i x)) →
    ∃ σ' z, f_X0_ordersBehind_36 fu σ (nI fr) (nI (2 ^ c - 1)) (nI i) = some (σ', z) ∧ (∀ x, x ≠ 17 → σ' x = σ0 x) ∧ ∀ x, fr ≤ x → x < 2 ^ c → σ' 17 x = nI (dp bf c fr (2 ^ c - 1) x) := by
  have hp := pu_p8 hc
  have hpos := Nat.two_pow_pos c
  intro m
  induction m with
  | zero =>
    intro i σ hi hfr fu hfu ha hb
    obtain ⟨fu, rfl⟩ : ∃ g, fu = g + 1 := ⟨fu - 1, by omega⟩
    obtain rfl : i = 2 ^ c - 1 := by omega
    exact ⟨σ, nI (2 ^ c - 1), by rw [f_X0_ordersBehind_36, if_pos (nI_le (Nat.le_refl _) (by omega))], ha, hb⟩
  | succ m ih =>
    intro i σ hi hfr fu hfu ha hb
    obtain ⟨fu, rfl⟩ : ∃ g, fu = g + 1 := ⟨fu - 1, by omega⟩
    have hi2 : i < 2 ^ c := by omega
    rw [f_X0_ordersBehind_36, if_neg (nI_ge (by omega) (by omega)), rg9 (show i < 256 by omega) (by decide), hb i hfr hi2, s1]
    by_cases h0 : nI (dp bf c fr i i) = 0
    · obtain ⟨z, hz⟩ := cls70z (σ := σ) (nI fr) (nI (2 ^ c - 1)) (nI i) (nI (dp bf c fr i i)) hc (by rw [ha 10 (by decide)]; exact h10) c 0 (by omega) FU (by unfold FU; omega)
      have hz : f_X0_ordersBehind_70 FU σ (nI fr) (nI (2 ^ c - 1)) (nI i) (nI (dp bf c fr i i)) 0 0 = some (σ, z) := hz
      rw [if_pos h0, hz, Option.bind_some]
      exact ih (i + 1) σ (by omega) (by omega) fu (by omega) ha (fun x h1 h2 => by rw [dp, stp_nI h0]; exact hb x h1 h2)
    · obtain ⟨σ2, z2, l1, l2, l3⟩ := cls70 (σ0 := σ0) (bf := bf) (A := dp bf c fr i) (nI fr) (nI (2 ^ c - 1)) hc h10 hi2 hfr c 0 σ (by omega) FU (by unfold FU; omega) ha hb
      have l1 : f_X0_ordersBehind_70 FU σ (nI fr) (nI (2 ^ c - 1)) (nI i) (nI (dp bf c fr i i)) (nI (dif (rdy bf i c) i)) 0 = some (σ2, z2) := l1
      rw [if_neg h0, next_spec i hc (by rw [ha 10 (by decide)]; exact h10) hbf (fun j hj => by rw [ha 1 (by decide)]; exact h1 j hj), Option.bind_some, l1, Option.bind_some]
      exact ih (i + 1) σ2 (by omega) (by omega) fu (by omega) l2 l3
theorem behind_spec {σ : SS} {c fr : Nat} {bf : Nat → Nat} (hc : c ≤ 8) (h10 : σ 10 0 = nI c) (hbf : ∀ j, j < c → bf j < 2 ^ 8) (h1 : ∀ j, j < c → σ 1 j = nI (bf j)) (hfr : fr < 2 ^ c) :
    ∃ σ', f_X0_ordersBehind σ (nI fr) = some (nI (dp bf c fr (2 ^ c - 1) (2 ^ c - 1)), σ') ∧ ∀ x, x ≠ 17 → σ' x = σ x := by
  have hp := pu_p8 hc
  have hpos := Nat.two_pow_pos c
  have hall : f_X0_allSlots σ = nI (2 ^ c - 1) := by unfold f_X0_allSlots; rw [h10, i_all hc]
  obtain ⟨σ1, z1, b1, b2, b3⟩ := cls8 (σ0 := σ) (fr := fr) (al := 2 ^ c - 1) (by omega) (2 ^ c - fr) fr σ (by omega) (Nat.le_refl _) FU (by unfold FU; omega) (fun _ _ => rfl) (fun x h1 h2 => absurd h2 (by omega))
  obtain ⟨σ2, z2, a1, a2, a3⟩ := cls36 (σ0 := σ) (fr := fr) (bf := bf) hc h10 hbf h1 (2 ^ c - 1 - fr) fr (va_up σ1 17 (upd (σ1 17) fr 1)) (by omega) (Nat.le_refl _) FU (by unfold FU; omega) (fun x hx => by rw [up_ne hx, b2 x hx]) (fun x h1 h2 => by
    rw [up_eq, dp_pre fr (Nat.le_refl _)]
    show _ = nI (if x = fr then 1 else 0)
    by_cases e : x = fr
    · subst e
      rw [upd_eq, if_pos rfl]
      rfl
    · rw [upd_ne e, if_neg e, b3 x h1 (by omega)]
      rfl)
  refine ⟨σ2, ?_, a2⟩
  unfold f_X0_ordersBehind
  rw [hall, b1, Option.bind_some, rs9 (show fr < 256 by omega) (by decide)]
  simp only [lt]
  rw [a1, Option.bind_some]
  show some (rg 256 (σ2 17) (nI (2 ^ c - 1)), σ2) = _
  rw [rg9 (show 2 ^ c - 1 < 256 by omega) (by decide), a3 _ (by omega) (by omega)]
-- the calls
theorem ClsE.ways {σ σ' : SS} {c len pc tm : Nat} {bf pr K sl dy : Nat → Nat} {pe se : Nat → Int32} (h : ClsE σ c len pc tm bf pr K sl dy pe se) (g : ∀ x, x ≠ 17 → σ' x = σ x) : ClsE σ' c len pc tm bf pr K sl dy pe se := by
  obtain ⟨c10, c12, c13, c9, cr, ce, c11, c15, c16, c4, c3, c14⟩ := h
  refine ⟨by rw [g 10 (by decide)]; exact c10, by rw [g 12 (by decide)]; exact c12, by rw [g 13 (by decide)]; exact c13, by rw [g 9 (by decide)]; exact c9, fun j hj => ?_, fun i hi => ?_, by rw [g 11 (by decide)]; exact c11, by rw [g 15 (by decide)]; exact c15, by rw [g 16 (by decide)]; exact c16, fun j hj => ?_, fun j hj => ?_, fun h => ?_⟩
  · rw [g 0 (by decide), g 1 (by decide), g 2 (by decide)]; exact cr j hj
  · rw [g 5 (by decide), g 6 (by decide), g 7 (by decide), g 8 (by decide)]; exact ce i hi
  · rw [g 4 (by decide)]; exact c4 j hj
  · rw [g 3 (by decide)]; exact c3 j hj
  · rw [g 14 (by decide)]; exact c14 h
theorem DE.ways {td n : Nat} {σ0 τ : SS} {g : Nat → Int32} (h : DE td n σ0 τ) : DE td n (va_up σ0 2 g) τ := by
  obtain ⟨d1, d2, d3, d4, d5, d6⟩ := h
  refine ⟨d1, d2, by rw [up_ne (by decide)]; exact d3, d4, d5, fun p hp => ?_⟩
  rw [up_ne (by omega)]
  exact d6 p hp
theorem orders_both {td t n k fr c len pc tm : Nat} {σ0 τ τ1 : SS} {σ : Nat → SS} {bf pr K sl dy : Nat → Nat} {pe se : Nat → Int32} (htd : td ≤ 60 * t) (hD : DE td n σ0 τ) (hE : ∀ k, k < n → EI td (σ k) τ k) (hk : k < n) (k6 : k < 6) (hpc : pc ≤ 30) (htm : tm ≤ 60) (hse : ∀ i, i < len → (K i = 1 ∨ K i = 2 ∨ K i = 6) → se i = nI (sl i)) (hw : Wf td c len bf pr K sl dy) (hr : RefE τ k c len pc tm bf pr K dy pe se) (hc : ClsE (σ k) c len pc tm bf pr K sl dy pe se) (h1 : Keep τ τ1) (hfr : fr < 2 ^ c) :
    ∃ (w : Nat) (σ' τ' : SS), f_X5_countsFrom τ1 (nI k) (nI fr) = some (nI w, τ') ∧ f_X0_ordersBehind (eo (σ k) (σ0 2)) (nI fr) = some (nI w, σ') ∧ Inv (t + 1) n (va_up σ0 2 (σ' 17)) (va_up σ k σ') τ' ∧ τ' 24 = τ1 24 ∧ w = dp bf c fr (2 ^ c - 1) (2 ^ c - 1) := by
  have hr1 := hr.keep h1
  obtain ⟨τ', a1, a2⟩ := counts_spec k6 hw.1 hr1.1 (fun j hj => (hr1.2.2.2.2.1 j hj).2) hw.b8 hfr
  have he : ∀ x, x ≠ 17 → eo (σ k) (σ0 2) x = σ k x := fun x hx => if_neg hx
  obtain ⟨σ', b1, b2⟩ := behind_spec (σ := eo (σ k) (σ0 2)) hw.1 (by rw [he 10 (by decide)]; exact hc.1) hw.b8 (fun j hj => by rw [he 1 (by decide)]; exact (hc.2.2.2.2.1 j hj).2.1) hfr
  have hK : Keep τ τ' := h1.tr (fun x hx => a2 x (by omega))
  exact ⟨_, σ', τ', a1, b1, inv_put htd hD.ways hE hk ⟨c, len, pc, tm, bf, pr, K, sl, dy, pe, se, k6, hpc, htm, hse, hw, hr.keep hK, hc.ways (fun x hx => (b2 x hx).trans (he x hx))⟩ (hK.other k), a2 24 (by decide), rfl⟩
theorem sa_orders : SA_orders Inv := by
  intro t n σ0 σ τ x1 ht hI
  obtain ⟨td, htd, hD, hE⟩ := id hI
  have n1 : ¬ (1 : Int32) = 0 := by decide
  rcases env_cases hD.1 hD.2.2.2.1 x1 with ⟨e1, e2⟩ | ⟨k, hk, rfl, e1, e2⟩
  · refine ⟨0, va_up τ 24 (fun _ => 1), ?_, Or.inr ⟨?_, hI.keep k24, by rw [up_eq]⟩⟩
    · unfold f_X5_orders; rw [e1]; simp only [goes1]; rw [if_pos trivial]
    · unfold f_X4_orders; rw [e2]; rfl
  · obtain ⟨c, len, pc, tm, bf, pr, K, sl, dy, pe, se, k6, hpc, htm, hse, hw, hr, hc⟩ := hE k hk
    obtain ⟨w, σ', τ', q1, q2, q3, q4, -⟩ := orders_both (fr := 0) htd hD hE hk k6 hpc htm hse hw hr hc (k24 (v := fun _ => 0)) (Nat.two_pow_pos c)
    have q1 : f_X5_countsFrom (va_up τ 24 (fun _ => 0)) (nI k) 0 = some (nI w, τ') := q1
    have q2 : f_X0_ordersBehind (eo (σ k) (σ0 2)) 0 = some (nI w, σ') := q2
    refine ⟨nI w, τ', ?_, Or.inl ⟨va_up σ0 2 (σ' 17), va_up σ k σ', ?_, q3, by rw [q4, up_eq]⟩⟩
    · unfold f_X5_orders
      rw [e1]
      simp only [goes0]
      rw [if_neg n1, q1]
      rfl
    · unfold f_X4_orders
      rw [e2, xb_inr, q2]
      rfl
theorem sa_ordersLeft : SA_ordersLeft Inv := by
  intro t n σ0 σ τ x1 ht hI
  obtain ⟨td, htd, hD, hE⟩ := id hI
  have n1 : ¬ (1 : Int32) = 0 := by decide
  rcases env_cases hD.1 hD.2.2.2.1 x1 with ⟨e1, e2⟩ | ⟨k, hk, rfl, e1, e2⟩
  · refine ⟨0, va_up τ 24 (fun _ => 1), ?_, Or.inr ⟨?_, hI.keep k24, by rw [up_eq]⟩⟩
    · unfold f_X5_ordersLeft; rw [e1]; simp only [goes1]; rw [if_pos trivial]
    · unfold f_X4_ordersLeft; rw [e2]; rfl
  · obtain ⟨c, len, pc, tm, bf, pr, K, sl, dy, pe, se, k6, hpc, htm, hse, hw, hr, hc⟩ := hE k hk
    obtain ⟨τ2, l1, l2, l3⟩ := look k6 hse hw hr (k24 (v := fun _ => 0))
    obtain ⟨w, σ', τ', q1, q2, q3, q4, -⟩ := orders_both htd hD hE hk k6 hpc htm hse hw hr hc l3 (hw.sg len (Nat.le_refl _))
    refine ⟨nI w, τ', ?_, Or.inl ⟨va_up σ0 2 (σ' 17), va_up σ k σ', ?_, q3, by rw [q4, l2.t24, up_eq]⟩⟩
    · unfold f_X5_ordersLeft
      rw [e1]
      simp only [goes0]
      rw [if_neg n1, l1, Option.bind_some, l2.2.2.1, q1]
      rfl
    · unfold f_X4_ordersLeft
      rw [e2, xb_inr, hc.2.2.2.2.2.2.2.1, q2]
      rfl
end
