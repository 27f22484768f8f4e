/-! Slots ahead, rounds -/
section
def dnl (bf : Nat → Nat) : Nat → Nat → Nat
  | now, 0 => now
  | now, i + 1 => dnl bf (if now.testBit i = true then now ||| bf i else now) i
theorem dnl_lt {bf : Nat → Nat} {n : Nat} : ∀ (i now : Nat), (∀ j, j < i → bf j < 2 ^ n) → now < 2 ^ n → dnl bf now i < 2 ^ n
  | 0, now, _, h => h
  | i + 1, now, hb, h => by
    rw [dnl]
    refine dnl_lt i _ (fun j hj => hb j (by omega)) ?_
    split
    · exact or_lt h (hb i (by omega))
    · exact h
theorem dnl_or {bf : Nat → Nat} {j : Nat} : ∀ (i now : Nat), i ≤ j → dnl bf (now ||| 2 ^ j) i = dnl bf now i ||| 2 ^ j
  | 0, now, _ => rfl
  | i + 1, now, hi => by
    have hb : (now ||| 2 ^ j).testBit i = now.testBit i := by
      rw [Nat.testBit_or, two_bit, decide_eq_false (by omega), Bool.or_false]
    rw [dnl, dnl, hb]
    by_cases h : now.testBit i = true
    · rw [if_pos h, if_pos h, ← dnl_or i _ (by omega)]
      congr 1
      rw [Nat.or_assoc, Nat.or_assoc, Nat.or_comm (2 ^ j)]
    · rw [if_neg h, if_neg h]
      exact dnl_or i now (by omega)
theorem dnl_up {bf : Nat → Nat} {j : Nat} : ∀ i, j < i → dnl bf (2 ^ j) i = dnl bf (bf j) j ||| 2 ^ j
  | 0, h => absurd h (by omega)
  | i + 1, h => by
    rw [dnl, two_bit]
    by_cases e : j = i
    · subst e
      rw [if_pos (by simp), Nat.or_comm]
      exact dnl_or j _ (Nat.le_refl _)
    · rw [if_neg (by simp [e])]
      exact dnl_up i (by omega)
theorem ahead4 {σ : SS} {c : Nat} {bf : Nat → Nat} (x1 : Int32) (hc : c ≤ 8) (h1 : ∀ j, j < c → σ 1 j = nI (bf j)) :
    ∀ (i now : Nat), i ≤ c → ∀ fu, i < fu → ∃ z, f_X0_aheadOf_13 fu σ x1 (nI now) (nI i + (-1 : Int32)) = some (nI (dnl bf now i), z) := by
  intro i
  induction i with
  | zero =>
    intro now hi fu hfu
    obtain ⟨fu, rfl⟩ : ∃ g, fu = g + 1 := ⟨fu - 1, by omega⟩
    exact ⟨_, by rw [f_X0_aheadOf_13, if_pos (show nI 0 + (-1 : Int32) < 0 by decide), dnl]⟩
  | succ i ih =>
    intro now hi fu hfu
    obtain ⟨fu, rfl⟩ : ∃ g, fu = g + 1 := ⟨fu - 1, by omega⟩
    rw [pk_m1, f_X0_aheadOf_13, if_neg (nI_pos (by omega)), rg9 (by omega) (by decide), h1 i (by omega), fa_or]
    simp only [has4' _ (show i < 31 by omega)]
    rw [dnl]
    by_cases hb : now.testBit i = false
    · rw [if_pos hb, if_neg (by rw [hb]; decide)]
      exact ih now (by omega) fu (by omega)
    · rw [if_neg hb, if_pos (by simpa using hb)]
      exact ih _ (by omega) fu (by omega)
theorem ahead5 {τ : SS} {k c : Nat} {bf : Nat → Nat} (x2 : Int32) (hk : k < 6) (hc : c ≤ 8) (h7 : ∀ j, j < c → τ 7 (8 * k + j) = nI (bf j)) :
    ∀ (i now : Nat), i ≤ c → ∀ fu, i < fu → ∃ z, f_X5_reach_12 fu τ (nI k) x2 (nI now) (nI i + (-1 : Int32)) = some (nI (dnl bf now i), z) := by
  intro i
  induction i with
  | zero =>
    intro now hi fu hfu
    obtain ⟨fu, rfl⟩ : ∃ g, fu = g + 1 := ⟨fu - 1, by omega⟩
    exact ⟨_, by rw [f_X5_reach_12, if_pos (show nI 0 + (-1 : Int32) < 0 by decide), dnl]⟩
  | succ i ih =>
    intro now hi fu hfu
    obtain ⟨fu, rfl⟩ : ∃ g, fu = g + 1 := ⟨fu - 1, by omega⟩
    rw [pk_m1, f_X5_reach_12, if_neg (nI_pos (by omega)), ix8, if_pos (inb9 (by omega) (by decide))]
    simp only [has5' _ (show i < 31 by omega), cl9 (show 8 * k + i < 2 ^ 31 by omega), h7 i (by omega), fa_or]
    rw [dnl]
    by_cases hb : now.testBit i = false
    · rw [if_pos hb, if_neg (by rw [hb]; decide), show (0 : Int32) = nI 0 from rfl, fa_or, Nat.or_zero]
      exact ih now (by omega) fu (by omega)
    · rw [if_neg hb, if_pos (by simpa using hb)]
      exact ih _ (by omega) fu (by omega)
theorem sub_m1 (x : Int32) : x - (1 : Int32) = x + (-1 : Int32) := Int32.sub_eq_add_neg x 1
theorem sa_ahead : SA_ahead Inv := by
  intro t n σ0 σ τ x1 x2 ht hI
  obtain ⟨td, htd, hD, hE⟩ := id hI
  rcases slot_out hD.1 hD.2.2.2.1 (σ := σ) (fun k hk => (hE k hk).cnt) x1 x2 with ⟨e1, e2⟩ | ⟨k, j, c', hk, hj, c8, c2, rfl, rfl, e1, e2, e3⟩
  · refine ⟨0, va_up τ 24 (fun _ => 1), ?_, Or.inr ⟨?_, hI.keep k24, by rw [up_eq]⟩⟩
    · unfold f_X5_ahead; rw [e1]; simp only [Option.bind_some, goes1]; rw [if_pos trivial]
    · unfold f_X4_ahead
      rcases e2 with e2 | ⟨k, e2, e3⟩
      · rw [e2]; rfl
      · rw [e2, xb_inr, e3]; rfl
  · obtain ⟨c, len, pc, tm, bf, pr, K, sl, dy, pe, se, k6, hpc, htm, hse, hw, hr, hc⟩ := hE k hk
    obtain rfl : c' = c := cnt_eq c2 hr.1 (by omega) (by have := hw.1; omega)
    have hik : inb (nI k) 6 := inb9 k6 (by decide)
    have hclk : (nI k).toNatClampNeg = k := cl9 (by omega)
    have hbl : ∀ q, q < j → bf q < 2 ^ j := fun q hq => Nat.lt_trans (hw.2.2.1 q (by omega)).1 (Nat.pow_lt_pow_right (by decide) hq)
    have hd : dnl bf (bf j) j < 2 ^ j := dnl_lt j _ hbl (hw.2.2.1 j hj).1
    have hd8 : dnl bf (bf j) j < 256 := lt8 hd (by omega)
    have hor : dnl bf (bf j) j ||| 2 ^ j < 256 := lt8 (c := j + 1) (or_lt (Nat.lt_trans hd (Nat.pow_lt_pow_right (by decide) (by omega))) (Nat.pow_lt_pow_right (by decide) (by omega))) (by omega)
    obtain ⟨z4, q4⟩ := ahead4 (σ := σ k) (nI j) c8 (fun q hq => (hc.2.2.2.2.1 q hq).2.1) j (bf j) (by omega) FU (by unfold FU; omega)
    obtain ⟨z5, q5⟩ := ahead5 (τ := va_up τ 24 (fun _ => (0 : Int32))) (nI (2 ^ j)) k6 c8 (fun q hq => by rw [up_ne (by decide)]; exact (hr.2.2.2.2.1 q hq).2) c' (2 ^ j) (Nat.le_refl _) FU (by unfold FU; omega)
    rw [dnl_up c' hj] at q5
    refine ⟨nI (pcn (dnl bf (bf j) j)), va_up τ 24 (fun _ => 0), ?_, Or.inl ⟨?_, hI.keep k24, by rw [up_eq]⟩⟩
    · have hre : f_X5_reach (va_up τ 24 (fun _ => (0 : Int32))) (nI k) (nI (2 ^ j)) = some (nI (dnl bf (bf j) j ||| 2 ^ j)) := by
        unfold f_X5_reach
        rw [if_pos hik]
        simp only [hclk, up_ne (show (2 : Nat) ≠ 24 by decide), hr.1, sub_m1]
        rw [q5]
        rfl
      unfold f_X5_ahead
      rw [e1, Option.bind_some]
      simp only [goes0]
      rw [if_neg (by decide), i_one (show j < 32 by omega), hre, Option.bind_some, many_pcn hor, Option.bind_some, pcn_add hd8 (by omega) (bit_lt hd (Nat.le_refl _)), sub_m1, pk_m1]
    · unfold f_X4_ahead f_X0_aheadOf
      rw [e2, xb_inr, e3, xb_inr, rg9 (by omega) (by decide), (hc.2.2.2.2.1 j hj).2.1, sub_m1, q4]
      simp only [Option.bind_some]
      rw [bc_pcn hd8]
/-- the slots before those of a set -/
def unl (bf : Nat → Nat) (B : Nat) : Nat → Nat
  | 0 => 0
  | n + 1 => if B.testBit n = true then unl bf B n ||| bf n else unl bf B n
theorem unl_bit {bf : Nat → Nat} {B q : Nat} : ∀ n, (unl bf B n).testBit q = true ↔ ∃ s, s < n ∧ B.testBit s = true ∧ (bf s).testBit q = true
  | 0 => by
    rw [unl, Nat.zero_testBit]
    exact ⟨fun h => absurd h (by decide), fun h => by obtain ⟨s, h, -⟩ := h; omega⟩
  | n + 1 => by
    have ih := unl_bit (bf := bf) (B := B) (q := q) n
    rw [unl]
    by_cases h : B.testBit n = true
    · rw [if_pos h, Nat.testBit_or, Bool.or_eq_true, ih]
      constructor
      · rintro (⟨s, h1, h2⟩ | h1)
        · exact ⟨s, by omega, h2⟩
        · exact ⟨n, by omega, h, h1⟩
      · rintro ⟨s, h1, h2, h3⟩
        by_cases e : s = n
        · subst e; exact Or.inr h3
        · exact Or.inl ⟨s, by omega, h2, h3⟩
    · rw [if_neg h, ih]
      constructor
      · rintro ⟨s, h1, h2⟩
        exact ⟨s, by omega, h2⟩
      · rintro ⟨s, h1, h2, h3⟩
        have e : s ≠ n := fun e => h (e ▸ h2)
        exact ⟨s, by omega, h2, h3⟩
theorem mxr_iff {r : Nat → Nat} {b x : Nat} : ∀ i, mxr r b i ≤ x ↔ ∀ s, s < i → b.testBit s = true → r s + 1 ≤ x
  | 0 => ⟨fun _ s h => absurd h (by omega), fun _ => Nat.zero_le _⟩
  | i + 1 => by
    have ih := mxr_iff (r := r) (b := b) (x := x) i
    rw [mxr]
    by_cases h : b.testBit i = true
    · rw [if_pos h, Nat.max_le, ih]
      constructor
      · rintro ⟨h1, h2⟩ s hs hb
        by_cases e : s = i
        · subst e; exact h2
        · exact h1 s (by omega) hb
      · intro h1
        exact ⟨fun s hs hb => h1 s (by omega) hb, h1 i (by omega) h⟩
    · rw [if_neg h, ih]
      constructor
      · intro h1 s hs hb
        have e : s ≠ i := fun e => h (e ▸ hb)
        exact h1 s (by omega) hb
      · intro h1 s hs hb
        exact h1 s (by omega) hb
theorem mxr_ext {r r' : Nat → Nat} {b i n : Nat} (h : ∀ s, b.testBit s = true → (s < i ↔ s < n) ∧ r s = r' s) : mxr r b i = mxr r' b n := by
  have h1 : ∀ x, mxr r b i ≤ x ↔ mxr r' b n ≤ x := by
    intro x
    rw [mxr_iff, mxr_iff]
    constructor
    · intro g s hs hb
      rw [← (h s hb).2]
      exact g s ((h s hb).1.mpr hs) hb
    · intro g s hs hb
      rw [(h s hb).2]
      exact g s ((h s hb).1.mp hs) hb
  have a := (h1 (mxr r' b n)).mpr (Nat.le_refl _)
  have b := (h1 (mxr r b i)).mp (Nat.le_refl _)
  omega
theorem rl_old {bf : Nat → Nat} {q a : Nat} (h : q < a) : ∀ b, a ≤ b → rl bf b q = rl bf a q
  | 0, h2 => absurd h2 (by omega)
  | b + 1, h2 => by
    by_cases e : a = b + 1
    · rw [e]
    · rw [rl, if_neg (by omega)]
      exact rl_old h b (by omega)
theorem rl_at {bf : Nat → Nat} {c s : Nat} (hs : s < c) (hb : bf s < 2 ^ s) : rl bf c s = mxr (rl bf c) (bf s) c := by
  rw [rl_old (show s < s + 1 by omega) c (by omega), rl, if_pos rfl]
  refine mxr_ext (fun q hq => ?_)
  have hqs : q < s := by
    rcases Nat.lt_or_ge q s with h | h
    · exact h
    · rw [bit_lt hb h] at hq; cases hq
  exact ⟨⟨fun _ => by omega, fun _ => hqs⟩, (rl_old hqs c (by omega)).symm⟩
theorem mxr_step {bf : Nat → Nat} {c B : Nat} (hbf : ∀ j, j < c → bf j < 2 ^ j) (hB : B < 2 ^ c) (h0 : ¬ B = 0) (hc : c ≤ 8) : mxr (rl bf c) B c = mxr (rl bf c) (unl bf B 8) c + 1 := by
  have h1 : ∀ x, mxr (rl bf c) B c ≤ x + 1 ↔ mxr (rl bf c) (unl bf B 8) c ≤ x := by
    intro x
    rw [mxr_iff, mxr_iff]
    constructor
    · intro h q hq hu
      obtain ⟨s, hs, hb, hbq⟩ := (unl_bit 8).mp hu
      have hsc : s < c := by
        rcases Nat.lt_or_ge s c with h | h
        · exact h
        · rw [bit_lt hB h] at hb; cases hb
      have h2 := h s hsc hb
      rw [rl_at hsc (hbf s hsc)] at h2
      exact (mxr_iff (x := x) c).mp (by omega) q hq hbq
    · intro h s hs hb
      have h2 : mxr (rl bf c) (bf s) c ≤ x := (mxr_iff c).mpr (fun q hq hbq => h q hq ((unl_bit 8).mpr ⟨s, by omega, hb, hbq⟩))
      rw [← rl_at hs (hbf s hs)] at h2
      omega
  have h2 : 0 < mxr (rl bf c) B c := by
    rcases Nat.eq_zero_or_pos (mxr (rl bf c) B c) with h | h
    · exfalso
      apply h0
      apply nat_ext
      intro s
      rw [Nat.zero_testBit]
      cases hb : B.testBit s with
      | false => rfl
      | true =>
        have hsc : s < c := by
          rcases Nat.lt_or_ge s c with h | h
          · exact h
          · rw [bit_lt hB h] at hb; cases hb
        have := (mxr_iff (r := rl bf c) (x := 0) c).mp (by omega) s hsc hb
        omega
    · exact h
  have a := (h1 (mxr (rl bf c) B c - 1)).mp (by omega)
  have b := (h1 (mxr (rl bf c) (unl bf B 8) c)).mpr (Nat.le_refl _)
  omega
theorem round42 {τ : SS} {k c B : Nat} {bf : Nat → Nat} (x2 x4 : Int32) (hk : k < 6) (hc : c ≤ 8) (h7 : ∀ j, j < c → τ 7 (8 * k + j) = nI (bf j)) (hB : B < 2 ^ c) :
    ∀ (m i : Nat), i + m = 8 → ∀ fu, m < fu → ∃ z, f_X5_roundOf_42 fu τ (nI k) x2 (nI B) x4 (nI (unl bf B i)) (nI i) = some (nI (unl bf B 8), z) := by
  intro m
  induction m with
  | zero =>
    intro i hi fu hfu
    obtain ⟨fu, rfl⟩ : ∃ g, fu = g + 1 := ⟨fu - 1, by omega⟩
    obtain rfl : i = 8 := by omega
    exact ⟨_, by rw [f_X5_roundOf_42, if_pos (by decide)]⟩
  | succ m ih =>
    intro i hi fu hfu
    obtain ⟨fu, rfl⟩ : ∃ g, fu = g + 1 := ⟨fu - 1, by omega⟩
    have ih := ih (i + 1) (by omega) fu (by omega)
    rw [f_X5_roundOf_42, if_neg (show ¬ (8 : Int32) ≤ nI i from nI_ge (b := 8) (by omega) (by decide)), ix8, if_pos (inb9 (by omega) (by decide)), s1]
    simp only [has5' _ (show i < 31 by omega), cl9 (show 8 * k + i < 2 ^ 31 by omega)]
    rw [unl] at ih
    by_cases hb : B.testBit i = false
    · rw [if_neg (by rw [hb]; decide)] at ih
      rw [if_pos hb, show (0 : Int32) = nI 0 from rfl, fa_or, Nat.or_zero]
      exact ih
    · have hb' : B.testBit i = true := by simpa using hb
      have hic : i < c := by
        rcases Nat.lt_or_ge i c with h | h
        · exact h
        · rw [bit_lt hB h] at hb'; cases hb'
      rw [if_pos hb'] at ih
      rw [if_neg hb, h7 i hic, fa_or]
      exact ih
theorem round32 {τ : SS} {k c : Nat} {bf : Nat → Nat} (x2 : Int32) (hk : k < 6) (hc : c ≤ 8) (h7 : ∀ j, j < c → τ 7 (8 * k + j) = nI (bf j)) (hbf : ∀ j, j < c → bf j < 2 ^ j) :
    ∀ (m B r : Nat), m ≤ c → B < 2 ^ m → ∀ fu, m < fu → ∃ z, f_X5_roundOf_32 fu τ (nI k) x2 (nI B) (nI r) = some (z, nI (r + mxr (rl bf c) B c)) := by
  have zero : ∀ (r : Nat) (fu : Nat), 0 < fu → ∃ z, f_X5_roundOf_32 fu τ (nI k) x2 (nI 0) (nI r) = some (z, nI (r + mxr (rl bf c) 0 c)) := by
    intro r fu hfu
    obtain ⟨fu, rfl⟩ : ∃ g, fu = g + 1 := ⟨fu - 1, by omega⟩
    have h : mxr (rl bf c) 0 c = 0 := by
      have := (mxr_iff (r := rl bf c) (b := 0) (x := 0) c).mpr (fun s _ hb => by rw [Nat.zero_testBit] at hb; cases hb)
      omega
    exact ⟨nI 0, by rw [f_X5_roundOf_32, if_pos nI_0, h]; rfl⟩
  intro m
  induction m with
  | zero =>
    intro B r hm hB fu hfu
    obtain rfl : B = 0 := by omega
    exact zero r fu hfu
  | succ m ih =>
    intro B r hm hB fu hfu
    by_cases h0 : B = 0
    · subst h0
      exact zero r fu (by omega)
    · obtain ⟨fu, rfl⟩ : ∃ g, fu = g + 1 := ⟨fu - 1, by omega⟩
      have hBc : B < 2 ^ c := Nat.lt_of_lt_of_le hB (Nat.pow_le_pow_right (by decide) hm)
      have hB8 := lt8 hBc hc
      have hU : unl bf B 8 < 2 ^ m := by
        refine Nat.lt_pow_two_of_testBit _ (fun q hq => ?_)
        cases h : (unl bf B 8).testBit q with
        | false => rfl
        | true =>
          obtain ⟨s, hs, hb, hbq⟩ := (unl_bit 8).mp h
          have hsm : s < m + 1 := by
            rcases Nat.lt_or_ge s (m + 1) with h | h
            · exact h
            · rw [bit_lt hB h] at hb; cases hb
          rw [bit_lt (hbf s (by omega)) (by omega)] at hbq
          cases hbq
      obtain ⟨z2, q2⟩ := round42 (τ := τ) (k := k) (bf := bf) x2 (nI r) hk hc h7 hBc 8 0 (by omega) FU (by unfold FU; omega)
      have q2 : f_X5_roundOf_42 FU τ (nI k) x2 (nI B) (nI r) 0 0 = some (nI (unl bf B 8), z2) := q2
      obtain ⟨z, hz⟩ := ih (unl bf B 8) (r + 1) (by omega) hU fu (by omega)
      refine ⟨z, ?_⟩
      rw [f_X5_roundOf_32, if_neg (fun e => h0 ((nI_zero (by omega)).mp e)), q2, Option.bind_some, s1, mxr_step hbf hBc h0 hc, show r + (mxr (rl bf c) (unl bf B 8) c + 1) = r + 1 + mxr (rl bf c) (unl bf B 8) c by omega]
      exact hz
theorem sa_roundOf : SA_roundOf Inv := by
  intro t n σ0 σ τ x1 x2 ht hI
  obtain ⟨td, htd, hD, hE⟩ := id hI
  rcases slot_out hD.1 hD.2.2.2.1 (σ := σ) (fun k hk => (hE k hk).cnt) x1 x2 with ⟨e1, e2⟩ | ⟨k, j, c', hk, hj, c8, c2, rfl, rfl, e1, e2, e3⟩
  · refine ⟨0, va_up τ 24 (fun _ => 1), ?_, Or.inr ⟨?_, hI.keep k24, by rw [up_eq]⟩⟩
    · unfold f_X5_roundOf; rw [e1]; simp only [Option.bind_some, goes1]; rw [if_pos trivial]
    · unfold f_X4_roundOf
      rcases e2 with e2 | ⟨k, e2, e3⟩
      · rw [e2]; rfl
      · rw [e2, xb_inr, e3]; rfl
  · obtain ⟨c, len, pc, tm, bf, pr, K, sl, dy, pe, se, k6, hpc, htm, hse, hw, hr, hc⟩ := hE k hk
    obtain rfl : c' = c := cnt_eq c2 hr.1 (by omega) (by have := hw.1; omega)
    have hbj := (hw.2.2.1 j hj).1
    obtain ⟨z, hz⟩ := round32 (τ := va_up τ 24 (fun _ => (0 : Int32))) (bf := bf) (nI j) k6 c8 (fun q hq => by rw [up_ne (by decide)]; exact (hr.2.2.2.2.1 q hq).2) (fun q hq => (hw.2.2.1 q hq).1) j (bf j) 0 (by omega) hbj FU (by unfold FU; omega)
    rw [Nat.zero_add, ← rl_at hj hbj] at hz
    have hz : f_X5_roundOf_32 FU (va_up τ 24 (fun _ => (0 : Int32))) (nI k) (nI j) (nI (bf j)) 0 = some (z, nI (rl bf c' j)) := hz
    refine ⟨nI (rl bf c' j), va_up τ 24 (fun _ => 0), ?_, Or.inl ⟨?_, hI.keep k24, by rw [up_eq]⟩⟩
    · unfold f_X5_roundOf
      rw [e1]
      simp only [Option.bind_some, goes0]
      rw [if_neg (by decide), ix8, if_pos (inb9 (by omega) (by decide))]
      simp only [cl9 (show 8 * k + j < 2 ^ 31 by omega)]
      rw [show va_up τ 24 (fun _ => (0 : Int32)) 7 (8 * k + j) = nI (bf j) by rw [up_ne (by decide)]; exact (hr.2.2.2.2.1 j hj).2, hz]
      rfl
    · unfold f_X4_roundOf
      rw [e2, xb_inr, e3, xb_inr, rg9 (by omega) (by decide), (hc.2.2.2.2.1 j hj).2.2]
end
