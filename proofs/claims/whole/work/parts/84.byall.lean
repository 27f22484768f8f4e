/-! Orders, found by trying -/
section
/-- in how many ways m slots more can be signed behind a set -/
def tr (bf : Nat → Nat) (c : Nat) : Nat → Nat → Nat
  | 0, _ => 1
  | m + 1, s => smj (fun k => if s.testBit k = false ∧ dif (bf k) s = 0 then tr bf c m (s ||| 2 ^ k) else 0) c
theorem try30 {σ : SS} {c s m : Nat} {bf : Nat → Nat} {rec : Int32 → Int32 → Option Int32} (x1 : Int32) (d : Nat) (hc : c ≤ 8) (h10 : σ 10 0 = nI c) (hx1 : x1 = nI s) (hrec : ∀ i, i < c → (s.testBit i = false ∧ dif (bf i) s = 0) → rec (nI (s ||| 2 ^ i)) (nI (d + 1)) = some (nI (tr bf c m (s ||| 2 ^ i)))) :
    ∀ (q i : Nat), i + q = c → ∀ fu, q < fu → ∃ z, f_X4_countByTrying_30 rec fu σ x1 (nI d) (nI (dif (rdy bf s c) s)) (nI (smj (fun k => if s.testBit k = false ∧ dif (bf k) s = 0 then tr bf c m (s ||| 2 ^ k) else 0) i)) (nI i) = some (nI (smj (fun k => if s.testBit k = false ∧ dif (bf k) s = 0 then tr bf c m (s ||| 2 ^ k) else 0) c), z) := by
  subst hx1
  intro q
  induction q with
  | zero =>
    intro i hi fu hfu
    obtain ⟨fu, rfl⟩ : ∃ g, fu = g + 1 := ⟨fu - 1, by omega⟩
    obtain rfl : i = c := by omega
    exact ⟨_, by rw [f_X4_countByTrying_30, h10, if_pos (nI_le (Nat.le_refl _) (by omega))]⟩
  | succ q ih =>
    intro i hi fu hfu
    obtain ⟨fu, rfl⟩ : ∃ g, fu = g + 1 := ⟨fu - 1, by omega⟩
    have hic : i < c := by omega
    obtain ⟨z, hz⟩ := ih (i + 1) (by omega) fu (by omega)
    refine ⟨z, ?_⟩
    have hbit : (dif (rdy bf s c) s).testBit i = false ↔ ¬ (s.testBit i = false ∧ dif (bf i) s = 0) := by
      rw [dif_bit, rdy_bit]
      by_cases hd : dif (bf i) s = 0 <;> cases s.testBit i <;> simp [hic, hd]
    rw [f_X4_countByTrying_30, h10, if_neg (nI_ge hic (by omega)), s1, s1, i_one (show i < 32 by omega), fa_or]
    simp only [has4' _ (show i < 31 by omega)]
    rw [smj] at hz
    by_cases hn : (dif (rdy bf s c) s).testBit i = false
    · rw [if_pos hn]
      rw [if_neg (hbit.mp hn), Nat.add_zero] at hz
      exact hz
    · have hcd : s.testBit i = false ∧ dif (bf i) s = 0 := Classical.byContradiction fun h => hn (hbit.mpr h)
      rw [if_pos hcd] at hz
      rw [if_neg hn, hrec i hic hcd, Option.bind_some, nI_add]
      exact hz
theorem try_spec {σ : SS} {c : Nat} {bf : Nat → Nat} (hc : c ≤ 8) (h10 : σ 10 0 = nI c) (hbf : ∀ j, j < c → bf j < 2 ^ 8) (h1 : ∀ j, j < c → σ 1 j = nI (bf j)) :
    ∀ (m d s N : Nat), d + m = c → m < N → f_X4_countByTrying σ N (nI s) (nI d) = some (nI (tr bf c m s)) := by
  intro m
  induction m with
  | zero =>
    intro d s N hd hN
    obtain ⟨N, rfl⟩ : ∃ g, N = g + 1 := ⟨N - 1, by omega⟩
    obtain rfl : d = c := by omega
    rw [f_X4_countByTrying, h10, if_neg (nI_nlt (Nat.le_refl _) (by omega)), tr]
    rfl
  | succ m ih =>
    intro d s N hd hN
    obtain ⟨N, rfl⟩ : ∃ g, N = g + 1 := ⟨N - 1, by omega⟩
    obtain ⟨z, hz⟩ := try30 (σ := σ) (s := s) (m := m) (bf := bf) (rec := f_X4_countByTrying σ N) (nI s) d hc h10 rfl (fun i hi _ => ih (d + 1) (s ||| 2 ^ i) N (by omega) (by omega)) c 0 (by omega) FU (by unfold FU; omega)
    have hz : f_X4_countByTrying_30 (f_X4_countByTrying σ N) FU σ (nI s) (nI d) (nI (dif (rdy bf s c) s)) 0 0 = some (nI (tr bf c (m + 1) s), z) := hz
    rw [f_X4_countByTrying, h10, if_pos (nI_lt (by omega) (by omega)), if_pos (show nI d < 8 from nI_lt (b := 8) (by omega) (by decide)), next_spec s hc h10 hbf h1, Option.bind_some, hz]
    rfl
theorem smj_point {f g : Nat → Nat} {p v : Nat} (h1 : g p = f p + v) (h2 : ∀ x, x ≠ p → g x = f x) : ∀ n, p < n → smj g n = smj f n + v
  | 0, h => absurd h (by omega)
  | n + 1, h => by
    rw [smj, smj]
    by_cases e : p = n
    · subst e
      rw [h1, smj_cong p (fun x hx => h2 x (by omega)), Nat.add_assoc]
    · rw [smj_point h1 h2 n (by omega), h2 n (fun q => e q.symm)]
      omega
def TT (bf : Nat → Nat) (c s : Nat) : Nat := tr bf c (c - pcn s) s
theorem TT_step {bf : Nat → Nat} {c s : Nat} (hc : c ≤ 8) (hs : s < 2 ^ c) (hne : s ≠ 2 ^ c - 1) : TT bf c s = smj (fun k => if s.testBit k = false ∧ dif (bf k) s = 0 then TT bf c (s ||| 2 ^ k) else 0) c := by
  have h1 := pcn_c hc hs
  have h2 : pcn s ≠ c := fun e => hne ((pcn_all hc hs).mp e)
  have h3 : c - pcn s = c - pcn s - 1 + 1 := by omega
  unfold TT
  rw [h3, tr]
  refine smj_cong c (fun k hk => ?_)
  by_cases h : s.testBit k = false ∧ dif (bf k) s = 0
  · rw [if_pos h, if_pos h, pcn_add (lt8 hs hc) (by omega) h.1]
    congr 1
  · rw [if_neg h, if_neg h]
theorem sum_in {bf A : Nat → Nat} {c s : Nat} (hs : s < 2 ^ c) : ∀ i, i ≤ c → smj (fun x => if s < x then stp bf s A i x * TT bf c x else 0) (2 ^ c) = smj (fun x => if s < x then A x * TT bf c x else 0) (2 ^ c) + A s * smj (fun k => if s.testBit k = false ∧ dif (bf k) s = 0 then TT bf c (s ||| 2 ^ k) else 0) i
  | 0, _ => rfl
  | i + 1, hi => by
    have ih := sum_in (bf := bf) (A := A) hs i (by omega)
    rw [smj]
    by_cases h : s.testBit i = false ∧ dif (bf i) s = 0
    · have hor : s ||| 2 ^ i < 2 ^ c := or_lt hs (Nat.pow_lt_pow_right (by decide) (by omega))
      have hgt := or_gt h.1
      rw [if_pos h, Nat.mul_add, ← Nat.add_assoc, ← ih]
      refine smj_point (p := s ||| 2 ^ i) ?_ (fun x hx => ?_) _ hor
      · show (if s < s ||| 2 ^ i then stp bf s A (i + 1) (s ||| 2 ^ i) * TT bf c (s ||| 2 ^ i) else 0) = (if s < s ||| 2 ^ i then stp bf s A i (s ||| 2 ^ i) * TT bf c (s ||| 2 ^ i) else 0) + A s * TT bf c (s ||| 2 ^ i)
        rw [if_pos hgt, if_pos hgt, stp_at h, if_pos rfl, Nat.add_mul]
      · show (if s < x then stp bf s A (i + 1) x * TT bf c x else 0) = (if s < x then stp bf s A i x * TT bf c x else 0)
        rw [stp_at h, if_neg hx]
    · rw [if_neg h, Nat.add_zero, stp_no h]
      exact ih
theorem sum_inv {bf : Nat → Nat} {c : Nat} (hc : c ≤ 8) : ∀ s, s ≤ 2 ^ c - 1 → smj (fun x => if s ≤ x then dp bf c 0 s x * TT bf c x else 0) (2 ^ c) = TT bf c 0
  | 0, _ => by
    rw [smj_point (f := fun _ => 0) (p := 0) (v := TT bf c 0) ?_ (fun x hx => ?_) _ (Nat.two_pow_pos c), smj_0, Nat.zero_add]
    · show (if 0 ≤ 0 then (if 0 = 0 then 1 else 0) * TT bf c 0 else 0) = 0 + TT bf c 0
      rw [if_pos (Nat.le_refl _), if_pos rfl, Nat.one_mul, Nat.zero_add]
    · show (if 0 ≤ x then (if x = 0 then 1 else 0) * TT bf c x else 0) = 0
      rw [if_neg hx, Nat.zero_mul, ite_self]
  | s + 1, h => by
    have ih := sum_inv (bf := bf) hc s (by omega)
    have hpos := Nat.two_pow_pos c
    have hs : s < 2 ^ c := by omega
    have h1 := sum_in (bf := bf) (A := dp bf c 0 s) hs c (Nat.le_refl _)
    rw [← TT_step hc hs (by omega)] at h1
    have h2 : smj (fun x => if s ≤ x then dp bf c 0 s x * TT bf c x else 0) (2 ^ c) = smj (fun x => if s < x then dp bf c 0 s x * TT bf c x else 0) (2 ^ c) + dp bf c 0 s s * TT bf c s := by
      refine smj_point (p := s) ?_ (fun x hx => ?_) _ hs
      · show (if s ≤ s then dp bf c 0 s s * TT bf c s else 0) = (if s < s then dp bf c 0 s s * TT bf c s else 0) + dp bf c 0 s s * TT bf c s
        rw [if_pos (Nat.le_refl _), if_neg (Nat.lt_irrefl _), Nat.zero_add]
      · show (if s ≤ x then dp bf c 0 s x * TT bf c x else 0) = (if s < x then dp bf c 0 s x * TT bf c x else 0)
        by_cases e : s < x
        · rw [if_pos (by omega), if_pos e]
        · rw [if_neg (by omega), if_neg e]
    rw [← ih, h2, ← h1]
    refine smj_cong _ (fun x _ => ?_)
    show (if s + 1 ≤ x then dp bf c 0 (s + 1) x * TT bf c x else 0) = (if s < x then stp bf s (dp bf c 0 s) c x * TT bf c x else 0)
    rfl
theorem orders_eq {bf : Nat → Nat} {c : Nat} (hc : c ≤ 8) : dp bf c 0 (2 ^ c - 1) (2 ^ c - 1) = tr bf c c 0 := by
  have hpos := Nat.two_pow_pos c
  have h := sum_inv (bf := bf) hc (2 ^ c - 1) (Nat.le_refl _)
  have h0 : TT bf c 0 = tr bf c c 0 := by
    unfold TT
    rw [show pcn 0 = 0 by decide, Nat.sub_zero]
  have h1 : TT bf c (2 ^ c - 1) = 1 := by
    unfold TT
    rw [(pcn_all hc (show 2 ^ c - 1 < 2 ^ c by omega)).mpr rfl, Nat.sub_self, tr]
  have h2 : smj (fun x => if 2 ^ c - 1 ≤ x then dp bf c 0 (2 ^ c - 1) x * TT bf c x else 0) (2 ^ c) = smj (fun x => if x = 2 ^ c - 1 then dp bf c 0 (2 ^ c - 1) (2 ^ c - 1) else 0) (2 ^ c) := by
    refine smj_cong _ (fun x hx => ?_)
    by_cases e : x = 2 ^ c - 1
    · rw [e, if_pos (Nat.le_refl _), if_pos rfl, h1, Nat.mul_one]
    · rw [if_neg (by omega), if_neg e]
  have h3 : smj (fun x => if x = 2 ^ c - 1 then dp bf c 0 (2 ^ c - 1) (2 ^ c - 1) else 0) (2 ^ c) = smj (fun _ => 0) (2 ^ c) + dp bf c 0 (2 ^ c - 1) (2 ^ c - 1) := smj_point (p := 2 ^ c - 1) (by rw [if_pos rfl, Nat.zero_add]) (fun x hx => if_neg hx) _ (by omega)
  rw [h2, h3, smj_0, Nat.zero_add, h0] at h
  exact h
theorem sa_ordersByAll : SA_ordersByAll Inv := by
  intro t n σ0 σ τ x1 ht hI
  obtain ⟨td, htd, hD, hE⟩ := id hI
  have n1 : ¬ (1 : Int32) = 0 := by decide
  rcases env_cases hD.1 hD.2.2.2.1 x1 with ⟨e1, e2⟩ | ⟨k, hk, rfl, e1, e2⟩
  · refine ⟨0, va_up τ 24 (fun _ => 1), ?_, Or.inr ⟨?_, hI.keep k24, by rw [up_eq]⟩⟩
    · unfold f_X5_ordersByAll f_X5_orders; rw [e1]; simp only [goes1]; rw [if_pos trivial]; rfl
    · unfold f_X4_ordersByAll; rw [e2]; rfl
  · obtain ⟨c, len, pc, tm, bf, pr, K, sl, dy, pe, se, k6, hpc, htm, hse, hw, hr, hc⟩ := hE k hk
    have hr1 := hr.keep (k24 (v := fun _ => 0))
    obtain ⟨τ', a1, a2⟩ := counts_spec (fr := 0) k6 hw.1 hr1.1 (fun j hj => (hr1.2.2.2.2.1 j hj).2) hw.b8 (Nat.two_pow_pos c)
    have a1 : f_X5_countsFrom (va_up τ 24 (fun _ => 0)) (nI k) 0 = some (nI (dp bf c 0 (2 ^ c - 1) (2 ^ c - 1)), τ') := a1
    have b1 := try_spec (σ := σ k) (bf := bf) hw.1 hc.1 hw.b8 (fun j hj => (hc.2.2.2.2.1 j hj).2.1) c 0 0 12 (by omega) (by have := hw.1; omega)
    have b1 : f_X4_countByTrying (σ k) 12 0 0 = some (nI (tr bf c c 0)) := b1
    refine ⟨nI (tr bf c c 0), τ', ?_, Or.inl ⟨?_, hI.keep (k24.tr (fun x hx => a2 x (by omega))), by rw [a2 24 (by decide), up_eq]⟩⟩
    · unfold f_X5_ordersByAll f_X5_orders
      rw [e1]
      simp only [goes0]
      rw [if_neg n1, a1, orders_eq hw.1]
      rfl
    · unfold f_X4_ordersByAll
      rw [e2, xb_inr, b1]
      rfl
end
