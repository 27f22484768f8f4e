/-! Days pass -/
section
theorem std_at {p : Nat} (hp : p < 8) : f_X4_standinOf (nI p) = some (.inr p) := by
  unfold f_X4_standinOf
  rw [if_neg (nI_pos (by omega)), if_pos (show nI p < 8 from nI_lt (b := 8) hp (by decide)), cl9 (by omega)]
theorem env_at {n k : Nat} (hk : k < n) (hn : n ≤ 6) : f_X4_envelopeAt n (nI k) = some (.inr k) := by
  unfold f_X4_envelopeAt
  rw [if_neg (nI_pos (by omega)), if_neg (nI_ge hk (by omega)), cl9 (by omega)]
theorem day12 {n : Nat} {σ : Nat → SS} {t : SS} : ∀ (m i : Nat) (s : SS), i + m = 8 → ∀ fu, m < fu → (∀ x, x < 3 → s x = t x) → (∀ p, p < 8 → s (3 + p) = if p < i then upd (t (3 + p)) 4 0 else t (3 + p)) →
    ∃ s' z, f_X4_passOneDay_12 fu n s σ (nI i) = some (s', σ, z) ∧ (∀ x, x < 3 → s' x = t x) ∧ ∀ p, p < 8 → s' (3 + p) = upd (t (3 + p)) 4 0 := by
  intro m
  induction m with
  | zero =>
    intro i s hi fu hfu ha hb
    obtain ⟨fu, rfl⟩ : ∃ g, fu = g + 1 := ⟨fu - 1, by omega⟩
    obtain rfl : i = 8 := by omega
    refine ⟨s, nI 8, by rw [f_X4_passOneDay_12, if_pos (by decide)], ha, fun p hp => ?_⟩
    rw [hb p hp, if_pos hp]
  | succ m ih =>
    intro i s hi fu hfu ha hb
    obtain ⟨fu, rfl⟩ : ∃ g, fu = g + 1 := ⟨fu - 1, by omega⟩
    have hi8 : i < 8 := by omega
    rw [f_X4_passOneDay_12, if_neg (show ¬ (8 : Int32) ≤ nI i from nI_ge (b := 8) hi8 (by decide)), std_at hi8, xn_inr, s1]
    simp only [lt]
    refine ih (i + 1) _ (by omega) fu (by omega) (fun x hx => by rw [up_ne (by omega), ha x hx]) (fun p hp => ?_)
    by_cases e : p = i
    · subst e
      rw [up_eq, hb p hp, if_neg (by omega), if_pos (by omega)]
    · rw [up_ne (by omega), hb p hp]
      by_cases h : p < i
      · rw [if_pos h, if_pos (by omega)]
      · rw [if_neg h, if_neg (by omega)]
theorem DE.day {td n : Nat} {σ0 τ t1 : SS} (h : DE td n σ0 τ) (h1 : t1 1 0 = nI (td + 1)) (hp : ∀ p, p < 8 → t1 (3 + p) = upd (σ0 (3 + p)) 4 0) : DE (td + 1) n t1 (va_up τ 0 (fun _ => nI (td + 1))) := by
  obtain ⟨d1, d2, d3, d4, d5, d6⟩ := h
  refine ⟨d1, by rw [up_eq], h1, by rw [up_ne (by decide)]; exact d4, fun k a b => ?_, fun p hp8 => ?_⟩
  · rw [up_ne (by decide), up_ne (by decide), up_ne (by decide), up_ne (by decide)]
    exact d5 k a b
  · rw [up_ne (by decide), up_ne (by decide), up_ne (by decide), up_ne (by decide), up_ne (by decide), up_ne (by decide), hp p hp8, upd_ne (by decide), upd_ne (by decide), upd_ne (by decide), upd_ne (by decide), upd_eq]
    obtain ⟨q1, q2, q3, q4, q5, x, q6, q7, q8⟩ := d6 p hp8
    exact ⟨q1, q2, q3, q4, q5, x, by omega, q7, by rw [if_neg (by omega)]⟩
theorem days_loop {td n : Nat} (htd : td < 2 ^ 30) {σ0 : SS} :
    ∀ (m i : Nat) (σ : Nat → SS) (τ : SS) (v : Int32), i + m = n → ∀ fu fv, m < fu → m < fv → DE (td + 1) n σ0 τ → (∀ k, k < i → EI (td + 1) (σ k) τ k) → (∀ k, i ≤ k → k < n → EI td (σ k) τ k) →
      ∃ (σ' : Nat → SS) (τ' : SS) (w z z' : Int32), f_X5_passes_14 fu τ v (nI i) = some (τ', w, z) ∧ f_X4_passOneDay_37 fv n σ0 σ v (nI i) = some (σ0, σ', w, z') ∧ DE (td + 1) n σ0 τ' ∧ (∀ k, k < n → EI (td + 1) (σ' k) τ' k) ∧ τ' 24 = τ 24 := by
  intro m
  induction m with
  | zero =>
    intro i σ τ v hi fu fv hfu hfv hD ha hb
    obtain ⟨fu, rfl⟩ : ∃ g, fu = g + 1 := ⟨fu - 1, by omega⟩
    obtain ⟨fv, rfl⟩ : ∃ g, fv = g + 1 := ⟨fv - 1, by omega⟩
    obtain rfl : i = n := by omega
    have hn := hD.1
    refine ⟨σ, τ, v, nI i, nI i, ?_, ?_, hD, ha, rfl⟩
    · rw [f_X5_passes_14, hD.2.2.2.1, if_pos (nI_le (Nat.le_refl _) (by omega))]
    · rw [f_X4_passOneDay_37, if_pos (nI_le (Nat.le_refl _) (by omega))]
  | succ m ih =>
    intro i σ τ v hi fu fv hfu hfv hD ha hb
    obtain ⟨fu, rfl⟩ : ∃ g, fu = g + 1 := ⟨fu - 1, by omega⟩
    obtain ⟨fv, rfl⟩ : ∃ g, fv = g + 1 := ⟨fv - 1, by omega⟩
    have hn := hD.1
    have hin : i < n := by omega
    obtain ⟨w1, σ1, τ1, m1, m2, m3, m4, m5⟩ := meet_both (hb i (Nat.le_refl _) hin) hin hn hD.2.2.2.1 hD.2.1 htd
    have hD1 : DE (td + 1) n σ0 τ1 := hD.same m3.1 (fun k2 a b => by
      have h2 := m3.2 k2 (by omega)
      exact ⟨h2.1, h2.2.1, h2.2.2.1, h2.2.2.2.1⟩)
    obtain ⟨σ', τ', w, z, z', a1, a2, a3, a4, a5⟩ := ih (i + 1) (va_up σ i σ1) τ1 (v + w1) (by omega) fu fv (by omega) (by omega) hD1
      (fun k hk => by
        by_cases e : k = i
        · subst e
          rw [up_eq]
          exact m2
        · rw [up_ne e]
          exact (ha k (by omega)).same (m3.2 k e))
      (fun k h1 h2 => by
        rw [up_ne (by omega)]
        exact (hb k (by omega) h2).same (m3.2 k (by omega)))
    refine ⟨σ', τ', w, z, z', ?_, ?_, a3, a4, a5.trans m4⟩
    · rw [m5]
      exact a1
    · rw [f_X4_passOneDay_37, if_neg (nI_ge hin (by omega)), env_at hin hn, xn_inr, hD.2.2.1, m1, Option.bind_some, s1]
      exact a2
theorem one_day {td n : Nat} (htd : td < 2 ^ 30) {σ0 τ : SS} {σ : Nat → SS} (hD : DE td n σ0 τ) (hE : ∀ k, k < n → EI td (σ k) τ k) :
    ∃ (σ0' : SS) (σ' : Nat → SS) (τ' : SS) (w : Int32), f_X5_passes τ = some (w, τ') ∧ f_X4_passOneDay n σ0 σ = some (w, σ0', σ') ∧ DE (td + 1) n σ0' τ' ∧ (∀ k, k < n → EI (td + 1) (σ' k) τ' k) ∧ τ' 24 = τ 24 := by
  have hn := hD.1
  obtain ⟨s, z0, b1, b2, b3⟩ := day12 (n := n) (σ := σ) (t := va_up σ0 1 (fun _ => nI (td + 1))) 8 0 (va_up σ0 1 (fun _ => nI (td + 1))) (by omega) FU (by unfold FU; omega) (fun _ _ => rfl) (fun p _ => by rw [if_neg (by omega)])
  have b1 : f_X4_passOneDay_12 FU n (va_up σ0 1 (fun _ => nI (td + 1))) σ 0 = some (s, σ, z0) := b1
  have hD1 : DE (td + 1) n s (va_up τ 0 (fun _ => nI (td + 1))) := hD.day (by rw [b2 1 (by decide), up_eq]) (fun p hp => by rw [b3 p hp, up_ne (by omega)])
  obtain ⟨σ', τ', w, z, z', a1, a2, a3, a4, a5⟩ := days_loop htd n 0 σ (va_up τ 0 (fun _ => nI (td + 1))) 0 (by omega) FU FU (by unfold FU; omega) (by unfold FU; omega) hD1 (fun k hk => absurd hk (by omega)) (fun k _ hk => (hE k hk).keep2 (fun x h1 h2 => up_ne (by omega)))
  have a1 : f_X5_passes_14 FU (va_up τ 0 (fun _ => nI (td + 1))) 0 0 = some (τ', w, z) := a1
  have a2 : f_X4_passOneDay_37 FU n s σ 0 0 = some (s, σ', w, z') := a2
  refine ⟨s, σ', τ', w, ?_, ?_, a3, a4, by rw [a5, up_ne (by decide)]⟩
  · unfold f_X5_passes
    simp only [lt, hD.2.1, s1]
    rw [a1]
    rfl
  · unfold f_X4_passOneDay
    simp only [lt, hD.2.2.1, s1]
    rw [b1, Option.bind_some]
    show (f_X4_passOneDay_37 FU n s σ 0 0).bind _ = _
    rw [a2]
    rfl
theorem pass_loop {n d : Nat} (hd : d ≤ 60) :
    ∀ (m i td : Nat) (σ0 : SS) (σ : Nat → SS) (τ : SS) (v : Int32), i + m = d → td + m < 2 ^ 30 → ∀ fu fv, m < fu → m < fv → DE td n σ0 τ → (∀ k, k < n → EI td (σ k) τ k) →
      ∃ (σ0' : SS) (σ' : Nat → SS) (τ' : SS) (w z z' : Int32), f_X5_pass_22 fu τ (nI d) v (nI i) = some (τ', w, z) ∧ f_X4_pass_25 fv n σ0 σ (nI d) v (nI i) = some (σ0', σ', w, z') ∧ DE (td + m) n σ0' τ' ∧ (∀ k, k < n → EI (td + m) (σ' k) τ' k) ∧ τ' 24 = τ 24 := by
  intro m
  induction m with
  | zero =>
    intro i td σ0 σ τ v hi htd fu fv hfu hfv hD hE
    obtain ⟨fu, rfl⟩ : ∃ g, fu = g + 1 := ⟨fu - 1, by omega⟩
    obtain ⟨fv, rfl⟩ : ∃ g, fv = g + 1 := ⟨fv - 1, by omega⟩
    obtain rfl : i = d := by omega
    refine ⟨σ0, σ, τ, v, nI i, nI i, ?_, ?_, hD, hE, rfl⟩
    · rw [f_X5_pass_22, if_pos (nI_le (Nat.le_refl _) (by omega))]
    · rw [f_X4_pass_25, if_pos (nI_le (Nat.le_refl _) (by omega))]
  | succ m ih =>
    intro i td σ0 σ τ v hi htd fu fv hfu hfv hD hE
    obtain ⟨fu, rfl⟩ : ∃ g, fu = g + 1 := ⟨fu - 1, by omega⟩
    obtain ⟨fv, rfl⟩ : ∃ g, fv = g + 1 := ⟨fv - 1, by omega⟩
    obtain ⟨s1', s2', s3', w1, b1, b2, b3, b4, b5⟩ := one_day (by omega) hD hE
    obtain ⟨σ0', σ', τ', w, z, z', a1, a2, a3, a4, a5⟩ := ih (i + 1) (td + 1) s1' s2' s3' (v + w1) (by omega) (by omega) fu fv (by omega) (by omega) b3 b4
    refine ⟨σ0', σ', τ', w, z, z', ?_, ?_, by rw [show td + (m + 1) = td + 1 + m by omega]; exact a3, fun k hk => by rw [show td + (m + 1) = td + 1 + m by omega]; exact a4 k hk, a5.trans b5⟩
    · rw [f_X5_pass_22, if_neg (nI_ge (by omega) (by omega)), b1, Option.bind_some, s1]
      exact a1
    · rw [f_X4_pass_25, if_neg (nI_ge (by omega) (by omega)), b2, Option.bind_some, s1]
      exact a2
theorem sa_pass : SA_pass Inv := by
  intro t n σ0 σ τ x1 ht hI
  obtain ⟨td, htd, hD, hE⟩ := id hI
  have n1 : ¬ (1 : Int32) = 0 := by decide
  by_cases hx : x1 < 1 ∨ ¬ x1 ≤ 60
  · have hin : f_X5_in x1 1 60 = 0 := by
      unfold f_X5_in
      by_cases h1 : x1 < 1
      · rw [if_pos h1]
      · rw [if_neg h1, if_pos (fa_of_nle (hx.resolve_left h1))]
    refine ⟨0, va_up τ 24 (fun _ => 1), ?_, Or.inr ⟨?_, hI.keep k24, by rw [up_eq]⟩⟩
    · unfold f_X5_pass
      rw [hin]
      simp only [goes1, if_true]
    · unfold f_X4_pass
      by_cases h1 : x1 < 1
      · rw [if_pos h1]; rfl
      · rw [if_neg h1, if_neg (hx.resolve_left h1)]; rfl
  · have h1 : ¬ x1 < 1 := fun h => hx (Or.inl h)
    have h2 : x1 ≤ 60 := Classical.byContradiction fun h => hx (Or.inr h)
    have h0 : ¬ x1 < 0 := by
      rw [fa_lt] at h1 ⊢
      have a1 : (0 : Int32).toInt = 0 := by decide
      have a2 : (1 : Int32).toInt = 1 := by decide
      omega
    obtain ⟨d, hd, rfl⟩ := nI_of h0
    have hd60 : d ≤ 60 := (nI_leI (b := 60) hd (by decide)).mp h2
    have hin : f_X5_in (nI d) 1 60 = 1 := by
      unfold f_X5_in
      rw [if_neg h1, if_neg (show ¬ (60 : Int32) < nI d from nI_nlt (a := 60) hd60 (by decide))]
    obtain ⟨σ0', σ', τ', w, z, z', a1, a2, a3, a4, a5⟩ := pass_loop hd60 d 0 td σ0 σ (va_up τ 24 (fun _ => 0)) 0 (by omega) (by omega) FU FU (by unfold FU; omega) (by unfold FU; omega) (hD.keep k24) (fun k hk => (hE k hk).keep k24)
    have a1 : f_X5_pass_22 FU (va_up τ 24 (fun _ => 0)) (nI d) 0 0 = some (τ', w, z) := a1
    have a2 : f_X4_pass_25 FU n σ0 σ (nI d) 0 0 = some (σ0', σ', w, z') := a2
    refine ⟨w, τ', ?_, Or.inl ⟨σ0', σ', ?_, ⟨td + d, by omega, a3, a4⟩, by rw [a5, up_eq]⟩⟩
    · unfold f_X5_pass
      rw [hin]
      simp only [goes0]
      rw [if_neg n1, a1]
      rfl
    · unfold f_X4_pass
      rw [if_neg h1, if_pos h2, a2]
      rfl
end
