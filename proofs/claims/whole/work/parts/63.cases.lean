/-! Which envelope, person, slot, event; what is thrown -/
section
theorem goes1 (τ : SS) (a b : Int32) : f_X5_goes τ 0 a b = (0, va_up τ 24 (fun _ => 1)) := by
  unfold f_X5_goes
  rw [if_pos rfl]
  simp only [lt]
  rw [up_eq, if_neg (by decide)]
theorem goes2 (τ : SS) (b : Int32) : f_X5_goes τ 1 0 b = (0, va_up τ 24 (fun _ => 2)) := by
  unfold f_X5_goes
  rw [if_neg (by decide), if_pos rfl]
  simp only [lt]
  rw [up_eq, if_neg (by decide)]
theorem goes3 (τ : SS) : f_X5_goes τ 1 1 0 = (0, va_up τ 24 (fun _ => 3)) := by
  unfold f_X5_goes
  rw [if_neg (by decide), if_neg (by decide), if_pos rfl]
  simp only [lt]
  rw [up_eq, if_neg (by decide)]
theorem goes0 (τ : SS) : f_X5_goes τ 1 1 1 = (1, va_up τ 24 (fun _ => 0)) := by
  unfold f_X5_goes
  rw [if_neg (by decide), if_neg (by decide), if_neg (by decide)]
  simp only [lt]
  rw [up_eq, if_pos rfl]
theorem k24 {τ : SS} {v : Nat → Int32} : Keep τ (va_up τ 24 v) := Keep.up (by decide)
theorem pre_lt {n j : Nat} (hn : n < 2 ^ 31) (hj : j < 2 ^ 31) : nI n - (1 : Int32) < nI j ↔ n ≤ j := by
  cases n with
  | zero =>
    refine ⟨fun _ => Nat.zero_le _, fun _ => ?_⟩
    rw [show nI 0 - (1 : Int32) = -1 from by decide, Int32.lt_iff_toInt_lt, nI_toInt hj]
    show (-1 : Int) < _
    omega
  | succ m =>
    rw [nI_pred, nI_ltI (by omega) hj]
    omega
theorem in_cases (m : Nat) (hm : m < 2 ^ 31) (x : Int32) : (f_X5_in x 0 (nI m - (1 : Int32)) = 0 ∧ (x < 0 ∨ nI m ≤ x)) ∨ ∃ k, k < m ∧ x = nI k ∧ f_X5_in x 0 (nI m - (1 : Int32)) = 1 ∧ ¬ x < 0 ∧ ¬ nI m ≤ x ∧ x < nI m := by
  unfold f_X5_in
  by_cases h : x < 0
  · exact Or.inl ⟨if_pos h, Or.inl h⟩
  · obtain ⟨j, hj, rfl⟩ := nI_of h
    rw [if_neg h]
    by_cases h2 : m ≤ j
    · exact Or.inl ⟨if_pos ((pre_lt hm hj).mpr h2), Or.inr (nI_le h2 hj)⟩
    · exact Or.inr ⟨j, by omega, rfl, if_neg (fun h => h2 ((pre_lt hm hj).mp h)), h, nI_ge (by omega) hm, nI_lt (by omega) hm⟩
theorem in_casesE (m : Nat) (hm : m < 2 ^ 31) (x : Int32) : (f_X5_in x 0 (nI m) = 0 ∧ (x < 0 ∨ ¬ x ≤ nI m)) ∨ ∃ k, k ≤ m ∧ x = nI k ∧ f_X5_in x 0 (nI m) = 1 ∧ ¬ x < 0 ∧ x ≤ nI m := by
  unfold f_X5_in
  by_cases h : x < 0
  · exact Or.inl ⟨if_pos h, Or.inl h⟩
  · obtain ⟨j, hj, rfl⟩ := nI_of h
    rw [if_neg h]
    by_cases h2 : m < j
    · exact Or.inl ⟨if_pos (nI_lt h2 hj), Or.inr (nI_ge h2 hj)⟩
    · exact Or.inr ⟨j, by omega, rfl, if_neg (nI_nlt (by omega) hm), h, nI_le (by omega) hm⟩
theorem env_cases {n : Nat} (hn : n ≤ 6) {τ : SS} (h1 : τ 1 0 = nI n) (x : Int32) : (f_X5_isEnvelope τ x = 0 ∧ f_X4_envelopeAt n x = some (.inl IOB)) ∨ ∃ k, k < n ∧ x = nI k ∧ f_X5_isEnvelope τ x = 1 ∧ f_X4_envelopeAt n x = some (.inr k) := by
  unfold f_X5_isEnvelope f_X4_envelopeAt
  rw [h1]
  rcases in_cases n (by omega) x with ⟨h, h2⟩ | ⟨k, h2, rfl, h3, h4, h5, -⟩
  · refine Or.inl ⟨h, ?_⟩
    rcases h2 with h2 | h2
    · rw [if_pos h2]; rfl
    · by_cases h3 : x < 0
      · rw [if_pos h3]; rfl
      · rw [if_neg h3, if_pos h2]; rfl
  · exact Or.inr ⟨k, h2, rfl, h3, by rw [if_neg h4, if_neg h5, cl9 (by omega)]⟩
theorem per_cases (x : Int32) : (f_X5_isPerson x = 0 ∧ f_X4_refuseNoPerson x = some (.inl IOB) ∧ f_X4_standinOf x = some (.inl IOB)) ∨ ∃ p, p < 8 ∧ x = nI p ∧ f_X5_isPerson x = 1 ∧ f_X4_refuseNoPerson x = some (.inr ()) ∧ f_X4_standinOf x = some (.inr p) := by
  unfold f_X5_isPerson f_X4_refuseNoPerson f_X4_standinOf
  rw [show (7 : Int32) = nI 8 - 1 from by decide, show (8 : Int32) = nI 8 from rfl]
  rcases in_cases 8 (by omega) x with ⟨h, h2⟩ | ⟨k, h2, rfl, h3, h4, h5, h6⟩
  · refine Or.inl ⟨h, ?_⟩
    by_cases h3 : x < 0
    · rw [if_pos h3, if_pos h3]; exact ⟨rfl, rfl⟩
    · have h4 : ¬ x < nI 8 := by
        rcases h2 with h2 | h2
        · exact absurd h2 h3
        · obtain ⟨j, hj, rfl⟩ := nI_of h3
          exact nI_nlt ((nI_leI (by omega) hj).mp h2) hj
      rw [if_neg h3, if_neg h3, if_neg h4, if_neg h4]; exact ⟨rfl, rfl⟩
  · exact Or.inr ⟨k, h2, rfl, h3, by rw [if_neg h4, if_pos h6], by rw [if_neg h4, if_pos h6, cl9 (by omega)]⟩
theorem slot_cases {τ σ : SS} {n k c : Nat} (hn : n ≤ 6) (h1 : τ 1 0 = nI n) (hk : k < n) (h2 : τ 2 k = nI c) (hc : c ≤ 8) (h10 : σ 10 0 = nI c) (x : Int32) : (f_X5_isSlot τ (nI k) x = some 0 ∧ f_X4_refuseNoSlot σ x = some (.inl IOB)) ∨ ∃ j, j < c ∧ x = nI j ∧ f_X5_isSlot τ (nI k) x = some 1 ∧ f_X4_refuseNoSlot σ x = some (.inr ()) := by
  have he : f_X5_isEnvelope τ (nI k) = 1 := by
    rcases env_cases hn h1 (nI k) with ⟨-, h⟩ | ⟨k', h3, h4, h5, -⟩
    · unfold f_X4_envelopeAt at h
      rw [if_neg (nI_pos (by omega)), if_neg (nI_ge hk (by omega))] at h
      cases h
    · exact h5
  unfold f_X5_isSlot f_X4_refuseNoSlot
  rw [he, if_neg (by decide), if_pos (inb9 (by omega) (by decide)), cl9 (by omega), h2, h10]
  rcases in_cases c (by omega) x with ⟨h, h2⟩ | ⟨j, h2, rfl, h3, h4, h5, h6⟩
  · refine Or.inl ⟨by rw [h, if_pos rfl], ?_⟩
    by_cases h3 : x < 0
    · rw [if_pos h3]; rfl
    · have h4 : ¬ x < nI c := by
        rcases h2 with h2 | h2
        · exact absurd h2 h3
        · obtain ⟨j, hj, rfl⟩ := nI_of h3
          exact nI_nlt ((nI_leI (by omega) hj).mp h2) hj
      rw [if_neg h3, if_neg h4]; rfl
  · exact Or.inr ⟨j, h2, rfl, by rw [h3, if_neg (by decide)], by rw [if_neg h4, if_pos h6]⟩
theorem event_cases {τ σ : SS} {n k c : Nat} (hn : n ≤ 6) (h1 : τ 1 0 = nI n) (hk : k < n) (h2 : τ 5 k = nI c) (hc : c ≤ 49) (h10 : σ 9 0 = nI c) (x : Int32) : (f_X5_isEvent τ (nI k) x = some 0 ∧ f_X4_refuseNoEvent (hs σ) x = some (.inl IOB)) ∨ ∃ j, j < c ∧ x = nI j ∧ f_X5_isEvent τ (nI k) x = some 1 ∧ f_X4_refuseNoEvent (hs σ) x = some (.inr ()) := by
  have he : f_X5_isEnvelope τ (nI k) = 1 := by
    rcases env_cases hn h1 (nI k) with ⟨-, h⟩ | ⟨k', h3, h4, h5, -⟩
    · unfold f_X4_envelopeAt at h
      rw [if_neg (nI_pos (by omega)), if_neg (nI_ge hk (by omega))] at h
      cases h
    · exact h5
  unfold f_X5_isEvent f_X4_refuseNoEvent
  rw [he, if_neg (by decide), if_pos (inb9 (by omega) (by decide)), cl9 (by omega), h2, show hs σ 4 0 = σ 9 0 from rfl, h10]
  rcases in_cases c (by omega) x with ⟨h, h2⟩ | ⟨j, h2, rfl, h3, h4, h5, h6⟩
  · refine Or.inl ⟨by rw [h, if_pos rfl], ?_⟩
    by_cases h3 : x < 0
    · rw [if_pos h3]; rfl
    · have h4 : ¬ x < nI c := by
        rcases h2 with h2 | h2
        · exact absurd h2 h3
        · obtain ⟨j, hj, rfl⟩ := nI_of h3
          exact nI_nlt ((nI_leI (by omega) hj).mp h2) hj
      rw [if_neg h3, if_neg h4]; rfl
  · exact Or.inr ⟨j, h2, rfl, by rw [h3, if_neg (by decide)], by rw [if_neg h4, if_pos h6]⟩
theorem events_cases {τ σ : SS} {n k c : Nat} (hn : n ≤ 6) (h1 : τ 1 0 = nI n) (hk : k < n) (h2 : τ 5 k = nI c) (hc : c ≤ 49) (h10 : σ 9 0 = nI c) (x : Int32) : (f_X5_areEvents τ (nI k) x = some 0 ∧ f_X4_refuseTooManyEvents (hs σ) x = some (.inl IOB)) ∨ ∃ j, j ≤ c ∧ x = nI j ∧ f_X5_areEvents τ (nI k) x = some 1 ∧ f_X4_refuseTooManyEvents (hs σ) x = some (.inr ()) := by
  have he : f_X5_isEnvelope τ (nI k) = 1 := by
    rcases env_cases hn h1 (nI k) with ⟨-, h⟩ | ⟨k', h3, h4, h5, -⟩
    · unfold f_X4_envelopeAt at h
      rw [if_neg (nI_pos (by omega)), if_neg (nI_ge hk (by omega))] at h
      cases h
    · exact h5
  unfold f_X5_areEvents f_X4_refuseTooManyEvents
  rw [he, if_neg (by decide), if_pos (inb9 (by omega) (by decide)), cl9 (by omega), h2, show hs σ 4 0 = σ 9 0 from rfl, h10]
  rcases in_casesE c (by omega) x with ⟨h, h2⟩ | ⟨j, h2, rfl, h3, h4, h5⟩
  · refine Or.inl ⟨by rw [h, if_pos rfl], ?_⟩
    by_cases h3 : x < 0
    · rw [if_pos h3]; rfl
    · rcases h2 with h2 | h2
      · exact absurd h2 h3
      · rw [if_neg h3, if_neg h2]; rfl
  · exact Or.inr ⟨j, h2, rfl, by rw [h3, if_neg (by decide)], by rw [if_neg h4, if_pos h5]⟩
theorem xb_inl {α β : Type} {E : String} {k : α → Option (String ⊕ β)} : xb (some (.inl E)) k = some (.inl E) := rfl
theorem xb_inr {α β : Type} {a : α} {k : α → Option (String ⊕ β)} : xb (some (.inr a)) k = k a := rfl
theorem xn_inr {α β : Type} {a : α} {k : α → Option β} : xn (some (.inr a)) k = k a := rfl
theorem rg9 {N i : Nat} {g : Nat → Int32} (h : i < N) (hN : N < 2 ^ 31) : rg N g (nI i) = g i := by
  unfold rg
  rw [if_neg (nI_pos (by omega)), if_pos (show nI i < Int32.ofNat N from nI_lt h hN), cl9 (by omega)]
theorem looks_tell {τ : SS} {k c len : Nat} {bf K sl : Nat → Nat} {D : Nat → Int32} (hS : Sls τ k c bf) (hE : Evs τ k c len K sl D) (hlen : len ≤ 50) (h5 : τ 5 k = nI len) :
    ∃ τ', f_X5_looks τ (nI k) = some τ' ∧ Told τ τ' (sta c K sl len) (sgn K sl len) (opd c bf K sl len) (onn (τ 21) c bf K sl D len) (rmd K sl len) := by
  obtain ⟨τ', h1, h2⟩ := tells_spec hS hE hlen
  refine ⟨τ', ?_, h2⟩
  unfold f_X5_looks
  rw [if_pos (inb9 hS.1 (by decide)), cl9 (by have := hS.1; omega), h5, h1]
  rfl
end
