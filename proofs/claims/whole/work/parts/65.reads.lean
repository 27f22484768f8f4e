/-! Calls that read -/
section
theorem slot_out {n : Nat} (hn : n ≤ 6) {τ : SS} {σ : Nat → SS} (h1 : τ 1 0 = nI n) (hc : ∀ k, k < n → ∃ c, c ≤ 8 ∧ τ 2 k = nI c ∧ σ k 10 0 = nI c) (x1 x2 : Int32) :
    (f_X5_isSlot τ x1 x2 = some 0 ∧ ((f_X4_envelopeAt n x1 = some (.inl IOB)) ∨ ∃ k, f_X4_envelopeAt n x1 = some (.inr k) ∧ f_X4_refuseNoSlot (σ k) x2 = some (.inl IOB))) ∨
    ∃ k j c, k < n ∧ j < c ∧ c ≤ 8 ∧ τ 2 k = nI c ∧ x1 = nI k ∧ x2 = nI j ∧ f_X5_isSlot τ (nI k) (nI j) = some 1 ∧ f_X4_envelopeAt n (nI k) = some (.inr k) ∧ f_X4_refuseNoSlot (σ k) (nI j) = some (.inr ()) := by
  rcases env_cases hn h1 x1 with ⟨e1, e2⟩ | ⟨k, hk, rfl, e1, e2⟩
  · exact Or.inl ⟨by unfold f_X5_isSlot; rw [e1]; rfl, Or.inl e2⟩
  · obtain ⟨c, c8, c2, c10⟩ := hc k hk
    rcases slot_cases hn h1 hk c2 c8 c10 x2 with ⟨s1, s2⟩ | ⟨j, hj, rfl, s1, s2⟩
    · exact Or.inl ⟨s1, Or.inr ⟨k, e2, s2⟩⟩
    · exact Or.inr ⟨k, j, c, hk, hj, c8, c2, rfl, rfl, s1, e2, s2⟩
theorem EI.cnt {td : Nat} {σ τ : SS} {k : Nat} (h : EI td σ τ k) : ∃ c, c ≤ 8 ∧ τ 2 k = nI c ∧ σ 10 0 = nI c := by
  obtain ⟨c, len, pc, tm, bf, pr, K, sl, dy, pe, se, k6, hpc, htm, hse, hw, hr, hc⟩ := h
  exact ⟨c, hw.1, hr.1, hc.1⟩
theorem EI.lng {td : Nat} {σ τ : SS} {k : Nat} (h : EI td σ τ k) : ∃ c, c ≤ 49 ∧ τ 5 k = nI c ∧ σ 9 0 = nI c := by
  obtain ⟨c, len, pc, tm, bf, pr, K, sl, dy, pe, se, k6, hpc, htm, hse, hw, hr, hc⟩ := h
  exact ⟨len, hw.2.1, hr.2.2.2.1, hc.2.2.2.1⟩
theorem cnt_eq {c c' : Nat} {x : Int32} (h1 : x = nI c) (h2 : x = nI c') (hc : c ≤ 49) (hc' : c' ≤ 49) : c = c' := (nI_eq (by omega) (by omega)).mp (h1.symm.trans h2)
theorem sta_two {c : Nat} {K sl : Nat → Nat} : ∀ i, sta c K sl i = 2 → sgn K sl i = 2 ^ c - 1
  | 0, h => by simp [sta] at h
  | i + 1, h => by
    have ih := sta_two (c := c) (K := K) (sl := sl) i
    rw [sta] at h
    by_cases h0 : K i = 0
    · rw [if_pos h0] at h; omega
    · rw [if_neg h0] at h
      by_cases h1 : K i = 1 ∨ K i = 2
      · rw [if_pos h1] at h
        by_cases h2 : sgn K sl (i + 1) = 2 ^ c - 1
        · exact h2
        · rw [if_neg h2] at h; omega
      · rw [if_neg h1] at h
        by_cases h6 : K i = 6
        · rw [if_pos h6] at h
          rw [sgn, if_neg h1]
          exact ih h
        · rw [if_neg h6] at h
          unfold endS at h
          split at h
          · omega
          · split at h <;> omega
theorem sa_slotState : SA_slotState Inv := by
  intro t n σ0 σ τ x1 x2 ht hI
  obtain ⟨td, htd, hD, hE⟩ := id hI
  rcases slot_out hD.1 hD.2.2.2.1 (σ := σ) (fun k hk => (hE k hk).cnt) x1 x2 with ⟨e1, e2⟩ | ⟨k, j, c', hk, hj, c8, c2, rfl, rfl, e1, e2, e3⟩
  · refine ⟨0, va_up τ 24 (fun _ => 1), ?_, Or.inr ⟨?_, hI.keep k24, by rw [up_eq]⟩⟩
    · unfold f_X5_slotState; rw [e1]; simp only [Option.bind_some, goes1]; rw [if_pos trivial]
    · unfold f_X4_slotState
      rcases e2 with e2 | ⟨k, e2, e3⟩
      · rw [e2]; rfl
      · rw [e2, xb_inr, e3]; rfl
  · obtain ⟨c, len, pc, tm, bf, pr, K, sl, dy, pe, se, k6, hpc, htm, hse, hw, hr, hc⟩ := hE k hk
    obtain rfl : c' = c := cnt_eq c2 hr.1 (by omega) (by have := hw.1; omega)
    obtain ⟨τ', l1, l2, l3⟩ := look k6 hse hw hr (k24 (v := fun _ => 0))
    have hst := sta_le c' K sl len
    refine ⟨f_X0_stateOf (σ k) (nI j), τ', ?_, Or.inl ⟨?_, hI.keep l3, by rw [l2.t24, up_eq]⟩⟩
    rotate_left
    · unfold f_X4_slotState
      rw [e2, xb_inr, e3, xb_inr]
    · unfold f_X5_slotState f_X0_stateOf
      rw [e1]
      simp only [Option.bind_some, goes0]
      rw [if_neg (by decide), l1, Option.bind_some, l2.2.2.1, hc.2.2.2.2.2.2.2.1, hc.2.2.2.2.2.2.2.2.1, hc.2.2.2.2.2.2.1, l2.2.1, open_told l2 hst]
      simp only [has5' _ (show j < 31 by omega), has4' _ (show j < 31 by omega)]
      by_cases h1 : (sgn K sl len).testBit j = false
      · rw [if_pos h1, if_pos h1]
        by_cases h2 : sta c' K sl len ≤ 2
        · rw [if_pos (show nI (sta c' K sl len) ≤ 2 from nI_le h2 (by decide))]
          by_cases h3 : (if sta c' K sl len = 1 then dif (opd c' bf K sl len) (sgn K sl len) else 0).testBit j = false
          · rw [if_pos h3, if_pos h3]
            by_cases h4 : sta c' K sl len = 0
            · rw [h4, if_pos nI_0]
            · rw [if_neg (fun e => h4 ((nI_zero (by omega)).mp e))]
              by_cases h5 : sta c' K sl len = 1
              · rw [h5, if_pos (show nI 1 = 1 from rfl)]
              · exfalso
                have h6 : sta c' K sl len = 2 := by omega
                rw [sta_two len h6, all_bit, decide_eq_false_iff_not] at h1
                exact h1 hj
          · rw [if_neg h3, if_neg h3]
        · rw [if_neg (show ¬ nI (sta c' K sl len) ≤ 2 from nI_ge (a := 2) (by omega) (by omega))]
          rw [if_pos (by rw [if_neg (by omega)]; simp), if_neg (fun e => by have := (nI_zero (by omega)).mp e; omega), if_neg (fun e => by have := (nI_eq (b := 1) (by omega) (by decide)).mp e; omega)]
      · rw [if_neg h1, if_neg h1]
theorem sa_missing : SA_missing Inv := by
  intro t n σ0 σ τ x1 x2 ht hI
  obtain ⟨td, htd, hD, hE⟩ := id hI
  rcases slot_out hD.1 hD.2.2.2.1 (σ := σ) (fun k hk => (hE k hk).cnt) x1 x2 with ⟨e1, e2⟩ | ⟨k, j, c', hk, hj, c8, c2, rfl, rfl, e1, e2, e3⟩
  · refine ⟨0, va_up τ 24 (fun _ => 1), ?_, Or.inr ⟨?_, hI.keep k24, by rw [up_eq]⟩⟩
    · unfold f_X5_missing; rw [e1]; simp only [Option.bind_some, goes1]; rw [if_pos trivial]
    · unfold f_X4_missing
      rcases e2 with e2 | ⟨k, e2, e3⟩
      · rw [e2]; rfl
      · rw [e2, xb_inr, e3]; rfl
  · obtain ⟨c, len, pc, tm, bf, pr, K, sl, dy, pe, se, k6, hpc, htm, hse, hw, hr, hc⟩ := hE k hk
    obtain rfl : c' = c := cnt_eq c2 hr.1 (by omega) (by have := hw.1; omega)
    obtain ⟨τ', l1, l2, l3⟩ := look k6 hse hw hr (k24 (v := fun _ => 0))
    have hb : bf j < 2 ^ 8 := Nat.lt_of_lt_of_le (hw.2.2.1 j hj).1 (Nat.pow_le_pow_right (by decide) (by omega))
    refine ⟨nI (pcn (dif (bf j) (sgn K sl len))), τ', ?_, Or.inl ⟨?_, hI.keep l3, by rw [l2.t24, up_eq]⟩⟩
    · unfold f_X5_missing
      rw [e1]
      simp only [Option.bind_some, goes0]
      rw [if_neg (by decide), l1, Option.bind_some, ix8, if_pos (inb9 (by omega) (by decide)), cl9 (by omega), l2.2.2.1, l3 7 (by decide), (hr.2.2.2.2.1 j hj).2, i_dif, many_pcn (dif_lt hb)]
      rfl
    · unfold f_X4_missing
      rw [e2, xb_inr, e3, xb_inr, rg9 (by omega) (by decide), (hc.2.2.2.2.1 j hj).2.1, hc.2.2.2.2.2.2.2.1, i_dif, bc_pcn (dif_lt hb)]
theorem event_out {n : Nat} (hn : n ≤ 6) {τ : SS} {σ : Nat → SS} (h1 : τ 1 0 = nI n) (hc : ∀ k, k < n → ∃ c, c ≤ 49 ∧ τ 5 k = nI c ∧ σ k 9 0 = nI c) (x1 x2 : Int32) :
    (f_X5_isEvent τ x1 x2 = some 0 ∧ ((f_X4_envelopeAt n x1 = some (.inl IOB)) ∨ ∃ k, f_X4_envelopeAt n x1 = some (.inr k) ∧ f_X4_refuseNoEvent (hs (σ k)) x2 = some (.inl IOB))) ∨
    ∃ k j c, k < n ∧ j < c ∧ c ≤ 49 ∧ τ 5 k = nI c ∧ x1 = nI k ∧ x2 = nI j ∧ f_X5_isEvent τ (nI k) (nI j) = some 1 ∧ f_X4_envelopeAt n (nI k) = some (.inr k) ∧ f_X4_refuseNoEvent (hs (σ k)) (nI j) = some (.inr ()) := by
  rcases env_cases hn h1 x1 with ⟨e1, e2⟩ | ⟨k, hk, rfl, e1, e2⟩
  · exact Or.inl ⟨by unfold f_X5_isEvent; rw [e1]; rfl, Or.inl e2⟩
  · obtain ⟨c, c8, c2, c10⟩ := hc k hk
    rcases event_cases hn h1 hk c2 c8 c10 x2 with ⟨s1, s2⟩ | ⟨j, hj, rfl, s1, s2⟩
    · exact Or.inl ⟨s1, Or.inr ⟨k, e2, s2⟩⟩
    · exact Or.inr ⟨k, j, c, hk, hj, c8, c2, rfl, rfl, s1, e2, s2⟩
theorem events_out {n : Nat} (hn : n ≤ 6) {τ : SS} {σ : Nat → SS} (h1 : τ 1 0 = nI n) (hc : ∀ k, k < n → ∃ c, c ≤ 49 ∧ τ 5 k = nI c ∧ σ k 9 0 = nI c) (x1 x2 : Int32) :
    (f_X5_areEvents τ x1 x2 = some 0 ∧ ((f_X4_envelopeAt n x1 = some (.inl IOB)) ∨ ∃ k, f_X4_envelopeAt n x1 = some (.inr k) ∧ f_X4_refuseTooManyEvents (hs (σ k)) x2 = some (.inl IOB))) ∨
    ∃ k j c, k < n ∧ j ≤ c ∧ c ≤ 49 ∧ τ 5 k = nI c ∧ x1 = nI k ∧ x2 = nI j ∧ f_X5_areEvents τ (nI k) (nI j) = some 1 ∧ f_X4_envelopeAt n (nI k) = some (.inr k) ∧ f_X4_refuseTooManyEvents (hs (σ k)) (nI j) = some (.inr ()) := by
  rcases env_cases hn h1 x1 with ⟨e1, e2⟩ | ⟨k, hk, rfl, e1, e2⟩
  · exact Or.inl ⟨by unfold f_X5_areEvents; rw [e1]; rfl, Or.inl e2⟩
  · obtain ⟨c, c8, c2, c10⟩ := hc k hk
    rcases events_cases hn h1 hk c2 c8 c10 x2 with ⟨s1, s2⟩ | ⟨j, hj, rfl, s1, s2⟩
    · exact Or.inl ⟨s1, Or.inr ⟨k, e2, s2⟩⟩
    · exact Or.inr ⟨k, j, c, hk, hj, c8, c2, rfl, rfl, s1, e2, s2⟩
theorem sa_kindOf : SA_kindOf Inv := by
  intro t n σ0 σ τ x1 x2 ht hI
  obtain ⟨td, htd, hD, hE⟩ := id hI
  rcases event_out hD.1 hD.2.2.2.1 (σ := σ) (fun k hk => (hE k hk).lng) x1 x2 with ⟨e1, e2⟩ | ⟨k, j, c', hk, hj, c8, c2, rfl, rfl, e1, e2, e3⟩
  · refine ⟨0, va_up τ 24 (fun _ => 1), ?_, Or.inr ⟨?_, hI.keep k24, by rw [up_eq]⟩⟩
    · unfold f_X5_kindOf; rw [e1]; simp only [Option.bind_some, goes1]; rw [if_pos trivial]
    · unfold f_X4_kindOf
      rcases e2 with e2 | ⟨k, e2, e3⟩
      · rw [e2]; rfl
      · rw [e2, xb_inr, e3]; rfl
  · obtain ⟨c, len, pc, tm, bf, pr, K, sl, dy, pe, se, k6, hpc, htm, hse, hw, hr, hc⟩ := hE k hk
    obtain rfl : c' = len := cnt_eq c2 hr.2.2.2.1 (by omega) (by have := hw.2.1; omega)
    refine ⟨σ k 5 j, va_up τ 24 (fun _ => 0), ?_, Or.inl ⟨?_, hI.keep k24, by rw [up_eq]⟩⟩
    · unfold f_X5_kindOf
      rw [e1]
      simp only [Option.bind_some, goes0]
      rw [if_neg (by decide), ix50, if_pos (inb9 (by omega) (by decide)), cl9 (by omega), up_ne (by decide), (hr.2.2.2.2.2 j hj).1, (hc.2.2.2.2.2.1 j hj).1]
    · unfold f_X4_kindOf
      rw [e2, xb_inr, e3, xb_inr, rg9 (by omega) (by decide)]
theorem sa_personOf : SA_personOf Inv := by
  intro t n σ0 σ τ x1 x2 ht hI
  obtain ⟨td, htd, hD, hE⟩ := id hI
  rcases event_out hD.1 hD.2.2.2.1 (σ := σ) (fun k hk => (hE k hk).lng) x1 x2 with ⟨e1, e2⟩ | ⟨k, j, c', hk, hj, c8, c2, rfl, rfl, e1, e2, e3⟩
  · refine ⟨0, va_up τ 24 (fun _ => 1), ?_, Or.inr ⟨?_, hI.keep k24, by rw [up_eq]⟩⟩
    · unfold f_X5_personOf; rw [e1]; simp only [Option.bind_some, goes1]; rw [if_pos trivial]
    · unfold f_X4_personOf
      rcases e2 with e2 | ⟨k, e2, e3⟩
      · rw [e2]; rfl
      · rw [e2, xb_inr, e3]; rfl
  · obtain ⟨c, len, pc, tm, bf, pr, K, sl, dy, pe, se, k6, hpc, htm, hse, hw, hr, hc⟩ := hE k hk
    obtain rfl : c' = len := cnt_eq c2 hr.2.2.2.1 (by omega) (by have := hw.2.1; omega)
    refine ⟨σ k 6 j, va_up τ 24 (fun _ => 0), ?_, Or.inl ⟨?_, hI.keep k24, by rw [up_eq]⟩⟩
    · unfold f_X5_personOf
      rw [e1]
      simp only [Option.bind_some, goes0]
      rw [if_neg (by decide), ix50, if_pos (inb9 (by omega) (by decide)), cl9 (by omega), up_ne (by decide), (hr.2.2.2.2.2 j hj).2.1, (hc.2.2.2.2.2.1 j hj).2.1]
    · unfold f_X4_personOf
      rw [e2, xb_inr, e3, xb_inr, rg9 (by omega) (by decide)]
theorem sa_dayOf : SA_dayOf Inv := by
  intro t n σ0 σ τ x1 x2 ht hI
  obtain ⟨td, htd, hD, hE⟩ := id hI
  rcases event_out hD.1 hD.2.2.2.1 (σ := σ) (fun k hk => (hE k hk).lng) x1 x2 with ⟨e1, e2⟩ | ⟨k, j, c', hk, hj, c8, c2, rfl, rfl, e1, e2, e3⟩
  · refine ⟨0, va_up τ 24 (fun _ => 1), ?_, Or.inr ⟨?_, hI.keep k24, by rw [up_eq]⟩⟩
    · unfold f_X5_dayOf; rw [e1]; simp only [Option.bind_some, goes1]; rw [if_pos trivial]
    · unfold f_X4_dayOf
      rcases e2 with e2 | ⟨k, e2, e3⟩
      · rw [e2]; rfl
      · rw [e2, xb_inr, e3]; rfl
  · obtain ⟨c, len, pc, tm, bf, pr, K, sl, dy, pe, se, k6, hpc, htm, hse, hw, hr, hc⟩ := hE k hk
    obtain rfl : c' = len := cnt_eq c2 hr.2.2.2.1 (by omega) (by have := hw.2.1; omega)
    refine ⟨σ k 8 j, va_up τ 24 (fun _ => 0), ?_, Or.inl ⟨?_, hI.keep k24, by rw [up_eq]⟩⟩
    · unfold f_X5_dayOf
      rw [e1]
      simp only [Option.bind_some, goes0]
      rw [if_neg (by decide), ix50, if_pos (inb9 (by omega) (by decide)), cl9 (by omega), up_ne (by decide), (hr.2.2.2.2.2 j hj).2.2.2, (hc.2.2.2.2.2.1 j hj).2.2.2]
    · unfold f_X4_dayOf
      rw [e2, xb_inr, e3, xb_inr, rg9 (by omega) (by decide)]
end
