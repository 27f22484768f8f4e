section
variable {p : Program} {l : Launch} {e : Env} {R : Room} {s : State} {m : MethodId} {args : Array Value} {below : List Frame} {meth : Method} {c : Code} {Q : State → Prop}
theorem E_X4_envelopeAt {n : Nat} {x : Int32} {E : String} (hf : f_X4_envelopeAt n x = some (.inl E)) : E = IOB := by
  unfold f_X4_envelopeAt at hf
  have hf := Option.some.inj hf
  by_cases c9 : x < 0
  · have hf := ifT c9 hf; cases hf; rfl
  · have hf := ifF c9 hf
    by_cases c9 : nI n ≤ x
    · have hf := ifT c9 hf; cases hf; rfl
    · have hf := ifF c9 hf; cases hf
theorem E_X4_standinOf {x : Int32} {E : String} (hf : f_X4_standinOf x = some (.inl E)) : E = IOB := by
  unfold f_X4_standinOf at hf
  have hf := Option.some.inj hf
  by_cases c9 : x < 0
  · have hf := ifT c9 hf; cases hf; rfl
  · have hf := ifF c9 hf
    by_cases c9 : x < 8
    · have hf := ifT c9 hf; cases hf
    · have hf := ifF c9 hf; cases hf; rfl
theorem E_X4_refuseNoPerson {x0 : Int32} {E : String} (hf : f_X4_refuseNoPerson x0 = some (.inl E)) : E = IOB := by
  rw [f_X4_refuseNoPerson] at hf
  by_cases c9 : x0 < 0
  · have hf := ifT c9 hf
    cases hf
    exact rfl
  · have hf := ifF c9 hf
    by_cases c9 : x0 < (8 : Int32)
    · have hf := ifT c9 hf
      cases hf
    · have hf := ifF c9 hf
      cases hf
      exact rfl
theorem E_X4_refuseNoSlot {σ : Nat → Nat → Int32} {x1 : Int32} {E : String} (hf : f_X4_refuseNoSlot σ x1 = some (.inl E)) : E = IOB := by
  rw [f_X4_refuseNoSlot] at hf
  by_cases c9 : x1 < 0
  · have hf := ifT c9 hf
    cases hf
    exact rfl
  · have hf := ifF c9 hf
    by_cases c9 : x1 < (σ 10 0)
    · have hf := ifT c9 hf
      cases hf
    · have hf := ifF c9 hf
      cases hf
      exact rfl
theorem E_X4_refuseNoDraft {σ : Nat → Nat → Int32} {E : String} (hf : f_X4_refuseNoDraft σ = some (.inl E)) : E = ISE := by
  rw [f_X4_refuseNoDraft] at hf
  by_cases c9 : (σ 11 0) = 0
  · have hf := ifT c9 hf
    cases hf
  · have hf := ifF c9 hf
    cases hf
    exact rfl
theorem E_X4_refuseNoEvent {σ : Nat → Nat → Int32} {x1 : Int32} {E : String} (hf : f_X4_refuseNoEvent σ x1 = some (.inl E)) : E = IOB := by
  rw [f_X4_refuseNoEvent] at hf
  by_cases c9 : x1 < 0
  · have hf := ifT c9 hf
    cases hf
    exact rfl
  · have hf := ifF c9 hf
    by_cases c9 : x1 < (σ 4 0)
    · have hf := ifT c9 hf
      cases hf
    · have hf := ifF c9 hf
      cases hf
      exact rfl
theorem E_X4_refuseTooManyEvents {σ : Nat → Nat → Int32} {x1 : Int32} {E : String} (hf : f_X4_refuseTooManyEvents σ x1 = some (.inl E)) : E = IOB := by
  rw [f_X4_refuseTooManyEvents] at hf
  by_cases c9 : x1 < 0
  · have hf := ifT c9 hf
    cases hf
    exact rfl
  · have hf := ifF c9 hf
    by_cases c9 : x1 ≤ (σ 4 0)
    · have hf := ifT c9 hf
      cases hf
    · have hf := ifF c9 hf
      cases hf
      exact rfl
theorem E_X4_addSlot {n : Nat} {σ0 : (Nat → Nat → Int32)} {σ : (Nat → Nat → Nat → Int32)} {x1 x2 x3 : Int32} {E : String} (hf : f_X4_addSlot n σ0 σ x1 x2 x3 = some (.inl E)) : E = IAE ∨ E = IOB ∨ E = ISE := by
  rw [f_X4_addSlot] at hf
  rcases xbT hf with hc0 | ⟨z1, hc1, hf⟩
  · have h9 := E_X4_envelopeAt hc0
    rw [h9]
    exact (Or.inr (Or.inl rfl))
  · skip
    rcases xbT hf with hc0 | ⟨z2, hc2, hf⟩
    · have h9 := E_X4_refuseNoPerson hc0
      rw [h9]
      exact (Or.inr (Or.inl rfl))
    · skip
      by_cases c9 : x3 < 0
      · have hf := ifT c9 hf
        cases hf
        exact (Or.inl rfl)
      · have hf := ifF c9 hf
        by_cases c9 : x3 ≤ (f_X0_allSlots (σ z1))
        · have hf := ifT c9 hf
          rcases xbT hf with hc0 | ⟨z3, hc3, hf⟩
          · have h9 := E_X4_refuseNoDraft hc0
            rw [h9]
            exact (Or.inr (Or.inr rfl))
          · skip
            by_cases c9 : ((σ z1) 10 0) < (8 : Int32)
            · have hf := ifT c9 hf
              obtain ⟨z4, hc4, hf⟩ := bdS hf
              obtain ⟨t5, _, hf⟩ := ltS hf
              cases hf
            · have hf := ifF c9 hf
              cases hf
              exact (Or.inr (Or.inr rfl))
        · have hf := ifF c9 hf
          cases hf
          exact (Or.inl rfl)
theorem E_X4_addRound {n : Nat} {σ0 : (Nat → Nat → Int32)} {σ : (Nat → Nat → Nat → Int32)} {x1 x2 : Int32} {E : String} (hf : f_X4_addRound n σ0 σ x1 x2 = some (.inl E)) : E = IAE ∨ E = IOB ∨ E = ISE := by
  rw [f_X4_addRound] at hf
  rcases xbT hf with hc0 | ⟨z1, hc1, hf⟩
  · have h9 := E_X4_envelopeAt hc0
    rw [h9]
    exact (Or.inr (Or.inl rfl))
  · skip
    by_cases c9 : x2 < (1 : Int32)
    · have hf := ifT c9 hf
      cases hf
      exact (Or.inl rfl)
    · have hf := ifF c9 hf
      by_cases c9 : x2 < (256 : Int32)
      · have hf := ifT c9 hf
        rcases xbT hf with hc0 | ⟨z2, hc2, hf⟩
        · have h9 := E_X4_refuseNoDraft hc0
          rw [h9]
          exact (Or.inr (Or.inr rfl))
        · skip
          by_cases c9 : (((σ z1) 10 0) + (f_J6_bitCount_0f7a4 x2)) ≤ (8 : Int32)
          · have hf := ifT c9 hf
            obtain ⟨z3, hc3, hf⟩ := bdS hf
            cases hf
          · have hf := ifF c9 hf
            cases hf
            exact (Or.inr (Or.inr rfl))
      · have hf := ifF c9 hf
        cases hf
        exact (Or.inl rfl)
theorem E_X4_setTimes {n : Nat} {σ0 : (Nat → Nat → Int32)} {σ : (Nat → Nat → Nat → Int32)} {x1 x2 x3 : Int32} {E : String} (hf : f_X4_setTimes n σ0 σ x1 x2 x3 = some (.inl E)) : E = IAE ∨ E = IOB ∨ E = ISE := by
  rw [f_X4_setTimes] at hf
  rcases xbT hf with hc0 | ⟨z1, hc1, hf⟩
  · have h9 := E_X4_envelopeAt hc0
    rw [h9]
    exact (Or.inr (Or.inl rfl))
  · skip
    by_cases c9 : x2 < 0
    · have hf := ifT c9 hf
      cases hf
      exact (Or.inl rfl)
    · have hf := ifF c9 hf
      by_cases c9 : x2 ≤ (30 : Int32)
      · have hf := ifT c9 hf
        by_cases c9 : x3 < 0
        · have hf := ifT c9 hf
          cases hf
          exact (Or.inl rfl)
        · have hf := ifF c9 hf
          by_cases c9 : x3 ≤ (60 : Int32)
          · have hf := ifT c9 hf
            rcases xbT hf with hc0 | ⟨z2, hc2, hf⟩
            · have h9 := E_X4_refuseNoDraft hc0
              rw [h9]
              exact (Or.inr (Or.inr rfl))
            · skip
              obtain ⟨t3, _, hf⟩ := ltS hf
              obtain ⟨t4, _, hf⟩ := ltS hf
              cases hf
          · have hf := ifF c9 hf
            cases hf
            exact (Or.inl rfl)
      · have hf := ifF c9 hf
        cases hf
        exact (Or.inl rfl)
theorem E_X4_send {n : Nat} {σ0 : (Nat → Nat → Int32)} {σ : (Nat → Nat → Nat → Int32)} {x1 : Int32} {E : String} (hf : f_X4_send n σ0 σ x1 = some (.inl E)) : E = IOB ∨ E = ISE := by
  rw [f_X4_send] at hf
  rcases xbT hf with hc0 | ⟨z1, hc1, hf⟩
  · have h9 := E_X4_envelopeAt hc0
    rw [h9]
    exact (Or.inl rfl)
  · skip
    rcases xbT hf with hc0 | ⟨z2, hc2, hf⟩
    · have h9 := E_X4_refuseNoDraft hc0
      rw [h9]
      exact (Or.inr rfl)
    · skip
      by_cases c9 : ((σ z1) 10 0) = 0
      · have hf := ifT c9 hf
        cases hf
        exact (Or.inr rfl)
      · have hf := ifF c9 hf
        obtain ⟨z3, hc3, hf⟩ := bdS hf
        obtain ⟨t4, _, hf⟩ := ltS hf
        cases hf
theorem E_X4_sign {n : Nat} {σ0 : (Nat → Nat → Int32)} {σ : (Nat → Nat → Nat → Int32)} {x1 x2 x3 : Int32} {E : String} (hf : f_X4_sign n σ0 σ x1 x2 x3 = some (.inl E)) : E = IOB ∨ E = ISE := by
  rw [f_X4_sign] at hf
  rcases xbT hf with hc0 | ⟨z1, hc1, hf⟩
  · have h9 := E_X4_refuseNoPerson hc0
    rw [h9]
    exact (Or.inl rfl)
  · skip
    rcases xbT hf with hc0 | ⟨z2, hc2, hf⟩
    · have h9 := E_X4_envelopeAt hc0
      rw [h9]
      exact (Or.inl rfl)
    · skip
      rcases xbT hf with hc0 | ⟨z3, hc3, hf⟩
      · have h9 := E_X4_refuseNoSlot hc0
        rw [h9]
        exact (Or.inl rfl)
      · skip
        obtain ⟨z4, hc4, hf⟩ := bdS hf
        by_cases c9 : z4 = 0
        · have hf := ifT c9 hf
          by_cases c9 : z4 = 0
          · have hf := ifT c9 hf
            obtain ⟨z5, hc5, hf⟩ := bdS hf
            obtain ⟨t6, _, hf⟩ := ltS hf
            cases hf
          · have hf := ifF c9 hf
            rcases xbT hf with hc0 | ⟨z5, hc5, hf⟩
            · have h9 := E_X4_standinOf hc0
              rw [h9]
              exact (Or.inl rfl)
            · skip
              obtain ⟨t6, _, hf⟩ := ltS hf
              obtain ⟨z7, hc7, hf⟩ := bdS hf
              obtain ⟨t8, _, hf⟩ := ltS hf
              cases hf
        · have hf := ifF c9 hf
          by_cases c9 : z4 = (1 : Int32)
          · have hf := ifT c9 hf
            by_cases c9 : z4 = 0
            · have hf := ifT c9 hf
              obtain ⟨z5, hc5, hf⟩ := bdS hf
              obtain ⟨t6, _, hf⟩ := ltS hf
              cases hf
            · have hf := ifF c9 hf
              rcases xbT hf with hc0 | ⟨z5, hc5, hf⟩
              · have h9 := E_X4_standinOf hc0
                rw [h9]
                exact (Or.inl rfl)
              · skip
                obtain ⟨t6, _, hf⟩ := ltS hf
                obtain ⟨z7, hc7, hf⟩ := bdS hf
                obtain ⟨t8, _, hf⟩ := ltS hf
                cases hf
          · have hf := ifF c9 hf
            cases hf
            exact (Or.inr rfl)
theorem E_X4_whyNot {n : Nat} {σ0 : (Nat → Nat → Int32)} {σ : (Nat → Nat → Nat → Int32)} {x1 x2 x3 : Int32} {E : String} (hf : f_X4_whyNot n σ0 σ x1 x2 x3 = some (.inl E)) : E = IOB := by
  rw [f_X4_whyNot] at hf
  rcases xbT hf with hc0 | ⟨z1, hc1, hf⟩
  · have h9 := E_X4_refuseNoPerson hc0
    exact h9
  · skip
    rcases xbT hf with hc0 | ⟨z2, hc2, hf⟩
    · have h9 := E_X4_envelopeAt hc0
      exact h9
    · skip
      rcases xbT hf with hc0 | ⟨z3, hc3, hf⟩
      · have h9 := E_X4_refuseNoSlot hc0
        exact h9
      · skip
        obtain ⟨z4, hc4, hf⟩ := bdS hf
        cases hf
theorem E_X4_decline {n : Nat} {σ0 : (Nat → Nat → Int32)} {σ : (Nat → Nat → Nat → Int32)} {x1 x2 x3 : Int32} {E : String} (hf : f_X4_decline n σ0 σ x1 x2 x3 = some (.inl E)) : E = IOB ∨ E = ISE := by
  rw [f_X4_decline] at hf
  rcases xbT hf with hc0 | ⟨z1, hc1, hf⟩
  · have h9 := E_X4_refuseNoPerson hc0
    rw [h9]
    exact (Or.inl rfl)
  · skip
    rcases xbT hf with hc0 | ⟨z2, hc2, hf⟩
    · have h9 := E_X4_envelopeAt hc0
      rw [h9]
      exact (Or.inl rfl)
    · skip
      rcases xbT hf with hc0 | ⟨z3, hc3, hf⟩
      · have h9 := E_X4_refuseNoSlot hc0
        rw [h9]
        exact (Or.inl rfl)
      · skip
        obtain ⟨z4, hc4, hf⟩ := bdS hf
        by_cases c9 : z4 = 0
        · have hf := ifT c9 hf
          obtain ⟨t6, _, hf⟩ := ltS hf
          cases hf
        · have hf := ifF c9 hf
          cases hf
          exact (Or.inr rfl)
theorem E_X4_cancel {n : Nat} {σ0 : (Nat → Nat → Int32)} {σ : (Nat → Nat → Nat → Int32)} {x1 : Int32} {E : String} (hf : f_X4_cancel n σ0 σ x1 = some (.inl E)) : E = IOB ∨ E = ISE := by
  rw [f_X4_cancel] at hf
  rcases xbT hf with hc0 | ⟨z1, hc1, hf⟩
  · have h9 := E_X4_envelopeAt hc0
    rw [h9]
    exact (Or.inl rfl)
  · skip
    by_cases c9 : ((σ z1) 11 0) = (1 : Int32)
    · have hf := ifT c9 hf
      obtain ⟨t3, _, hf⟩ := ltS hf
      cases hf
    · have hf := ifF c9 hf
      cases hf
      exact (Or.inr rfl)
theorem E_X4_delegate {n : Nat} {σ0 : (Nat → Nat → Int32)} {σ : (Nat → Nat → Nat → Int32)} {x1 x2 x3 x4 x5 : Int32} {E : String} (hf : f_X4_delegate n σ0 σ x1 x2 x3 x4 x5 = some (.inl E)) : E = IAE ∨ E = IOB := by
  rw [f_X4_delegate] at hf
  rcases xbT hf with hc0 | ⟨z1, hc1, hf⟩
  · have h9 := E_X4_standinOf hc0
    rw [h9]
    exact (Or.inr rfl)
  · skip
    rcases xbT hf with hc0 | ⟨z2, hc2, hf⟩
    · have h9 := E_X4_refuseNoPerson hc0
      rw [h9]
      exact (Or.inr rfl)
    · skip
      by_cases c9 : x1 = x2
      · have hf := ifT c9 hf
        cases hf
        exact (Or.inl rfl)
      · have hf := ifF c9 hf
        by_cases c9 : x3 < (σ0 1 0)
        · have hf := ifT c9 hf
          cases hf
          exact (Or.inl rfl)
        · have hf := ifF c9 hf
          by_cases c9 : x3 ≤ x4
          · have hf := ifT c9 hf
            by_cases c9 : x5 < (1 : Int32)
            · have hf := ifT c9 hf
              cases hf
              exact (Or.inl rfl)
            · have hf := ifF c9 hf
              by_cases c9 : x5 ≤ (9 : Int32)
              · have hf := ifT c9 hf
                obtain ⟨t3, _, hf⟩ := ltS hf
                obtain ⟨t4, _, hf⟩ := ltS hf
                obtain ⟨t5, _, hf⟩ := ltS hf
                obtain ⟨t6, _, hf⟩ := ltS hf
                cases hf
              · have hf := ifF c9 hf
                cases hf
                exact (Or.inl rfl)
          · have hf := ifF c9 hf
            cases hf
            exact (Or.inl rfl)
theorem E_X4_revoke {n : Nat} {σ0 : (Nat → Nat → Int32)} {σ : (Nat → Nat → Nat → Int32)} {x1 : Int32} {E : String} (hf : f_X4_revoke n σ0 σ x1 = some (.inl E)) : E = IOB ∨ E = ISE := by
  rw [f_X4_revoke] at hf
  rcases xbT hf with hc0 | ⟨z1, hc1, hf⟩
  · have h9 := E_X4_standinOf hc0
    rw [h9]
    exact (Or.inl rfl)
  · skip
    by_cases c9 : (σ0 (3 + z1) 0) = (-1 : Int32)
    · have hf := ifT c9 hf
      cases hf
      exact (Or.inr rfl)
    · have hf := ifF c9 hf
      obtain ⟨t2, _, hf⟩ := ltS hf
      cases hf
theorem E_X4_delegateToday {n : Nat} {σ0 : (Nat → Nat → Int32)} {σ : (Nat → Nat → Nat → Int32)} {x1 : Int32} {E : String} (hf : f_X4_delegateToday n σ0 σ x1 = some (.inl E)) : E = IOB := by
  rw [f_X4_delegateToday] at hf
  rcases xbT hf with hc0 | ⟨z1, hc1, hf⟩
  · have h9 := E_X4_standinOf hc0
    exact h9
  · skip
    cases hf
theorem E_X4_signedFor {n : Nat} {σ0 : (Nat → Nat → Int32)} {σ : (Nat → Nat → Nat → Int32)} {x1 : Int32} {E : String} (hf : f_X4_signedFor n σ0 σ x1 = some (.inl E)) : E = IOB := by
  rw [f_X4_signedFor] at hf
  rcases xbT hf with hc0 | ⟨z1, hc1, hf⟩
  · have h9 := E_X4_standinOf hc0
    exact h9
  · skip
    cases hf
theorem E_X4_toSign {n : Nat} {σ0 : (Nat → Nat → Int32)} {σ : (Nat → Nat → Nat → Int32)} {x1 : Int32} {E : String} (hf : f_X4_toSign n σ0 σ x1 = some (.inl E)) : E = IOB := by
  rw [f_X4_toSign] at hf
  rcases xbT hf with hc0 | ⟨z1, hc1, hf⟩
  · have h9 := E_X4_refuseNoPerson hc0
    exact h9
  · skip
    obtain ⟨z2, hc2, hf⟩ := bdS hf
    cases hf
theorem E_X4_nextReminder {n : Nat} {σ0 : (Nat → Nat → Int32)} {σ : (Nat → Nat → Nat → Int32)} {x1 : Int32} {E : String} (hf : f_X4_nextReminder n σ0 σ x1 = some (.inl E)) : E = IOB := by
  rw [f_X4_nextReminder] at hf
  rcases xbT hf with hc0 | ⟨z1, hc1, hf⟩
  · have h9 := E_X4_envelopeAt hc0
    exact h9
  · skip
    obtain ⟨z2, hc2, hf⟩ := bdS hf
    cases hf
theorem E_X4_state {n : Nat} {σ0 : (Nat → Nat → Int32)} {σ : (Nat → Nat → Nat → Int32)} {x1 : Int32} {E : String} (hf : f_X4_state n σ0 σ x1 = some (.inl E)) : E = IOB := by
  rw [f_X4_state] at hf
  rcases xbT hf with hc0 | ⟨z1, hc1, hf⟩
  · have h9 := E_X4_envelopeAt hc0
    exact h9
  · skip
    cases hf
theorem E_X4_slots {n : Nat} {σ0 : (Nat → Nat → Int32)} {σ : (Nat → Nat → Nat → Int32)} {x1 : Int32} {E : String} (hf : f_X4_slots n σ0 σ x1 = some (.inl E)) : E = IOB := by
  rw [f_X4_slots] at hf
  rcases xbT hf with hc0 | ⟨z1, hc1, hf⟩
  · have h9 := E_X4_envelopeAt hc0
    exact h9
  · skip
    cases hf
theorem E_X4_slotState {n : Nat} {σ0 : (Nat → Nat → Int32)} {σ : (Nat → Nat → Nat → Int32)} {x1 x2 : Int32} {E : String} (hf : f_X4_slotState n σ0 σ x1 x2 = some (.inl E)) : E = IOB := by
  rw [f_X4_slotState] at hf
  rcases xbT hf with hc0 | ⟨z1, hc1, hf⟩
  · have h9 := E_X4_envelopeAt hc0
    exact h9
  · skip
    rcases xbT hf with hc0 | ⟨z2, hc2, hf⟩
    · have h9 := E_X4_refuseNoSlot hc0
      exact h9
    · skip
      cases hf
theorem E_X4_missing {n : Nat} {σ0 : (Nat → Nat → Int32)} {σ : (Nat → Nat → Nat → Int32)} {x1 x2 : Int32} {E : String} (hf : f_X4_missing n σ0 σ x1 x2 = some (.inl E)) : E = IOB := by
  rw [f_X4_missing] at hf
  rcases xbT hf with hc0 | ⟨z1, hc1, hf⟩
  · have h9 := E_X4_envelopeAt hc0
    exact h9
  · skip
    rcases xbT hf with hc0 | ⟨z2, hc2, hf⟩
    · have h9 := E_X4_refuseNoSlot hc0
      exact h9
    · skip
      cases hf
theorem E_X4_share {n : Nat} {σ0 : (Nat → Nat → Int32)} {σ : (Nat → Nat → Nat → Int32)} {x1 : Int32} {E : String} (hf : f_X4_share n σ0 σ x1 = some (.inl E)) : E = IOB := by
  rw [f_X4_share] at hf
  rcases xbT hf with hc0 | ⟨z1, hc1, hf⟩
  · have h9 := E_X4_envelopeAt hc0
    exact h9
  · skip
    by_cases c9 : ((σ z1) 10 0) = 0
    · have hf := ifT c9 hf
      cases hf
    · have hf := ifF c9 hf
      obtain ⟨_, hf⟩ := ifS hf
      cases hf
theorem E_X4_ahead {n : Nat} {σ0 : (Nat → Nat → Int32)} {σ : (Nat → Nat → Nat → Int32)} {x1 x2 : Int32} {E : String} (hf : f_X4_ahead n σ0 σ x1 x2 = some (.inl E)) : E = IOB := by
  rw [f_X4_ahead] at hf
  rcases xbT hf with hc0 | ⟨z1, hc1, hf⟩
  · have h9 := E_X4_envelopeAt hc0
    exact h9
  · skip
    rcases xbT hf with hc0 | ⟨z2, hc2, hf⟩
    · have h9 := E_X4_refuseNoSlot hc0
      exact h9
    · skip
      obtain ⟨z3, hc3, hf⟩ := bdS hf
      cases hf
theorem E_X4_roundOf {n : Nat} {σ0 : (Nat → Nat → Int32)} {σ : (Nat → Nat → Nat → Int32)} {x1 x2 : Int32} {E : String} (hf : f_X4_roundOf n σ0 σ x1 x2 = some (.inl E)) : E = IOB := by
  rw [f_X4_roundOf] at hf
  rcases xbT hf with hc0 | ⟨z1, hc1, hf⟩
  · have h9 := E_X4_envelopeAt hc0
    exact h9
  · skip
    rcases xbT hf with hc0 | ⟨z2, hc2, hf⟩
    · have h9 := E_X4_refuseNoSlot hc0
      exact h9
    · skip
      cases hf
theorem E_X4_orders {n : Nat} {σ0 : (Nat → Nat → Int32)} {σ : (Nat → Nat → Nat → Int32)} {x1 : Int32} {E : String} (hf : f_X4_orders n σ0 σ x1 = some (.inl E)) : E = IOB := by
  rw [f_X4_orders] at hf
  rcases xbT hf with hc0 | ⟨z1, hc1, hf⟩
  · have h9 := E_X4_envelopeAt hc0
    exact h9
  · skip
    obtain ⟨z2, hc2, hf⟩ := bdS hf
    obtain ⟨t3, _, hf⟩ := ltS hf
    cases hf
theorem E_X4_ordersByAll {n : Nat} {σ0 : (Nat → Nat → Int32)} {σ : (Nat → Nat → Nat → Int32)} {x1 : Int32} {E : String} (hf : f_X4_ordersByAll n σ0 σ x1 = some (.inl E)) : E = IOB := by
  rw [f_X4_ordersByAll] at hf
  rcases xbT hf with hc0 | ⟨z1, hc1, hf⟩
  · have h9 := E_X4_envelopeAt hc0
    exact h9
  · skip
    obtain ⟨z2, hc2, hf⟩ := bdS hf
    cases hf
theorem E_X4_ordersLeft {n : Nat} {σ0 : (Nat → Nat → Int32)} {σ : (Nat → Nat → Nat → Int32)} {x1 : Int32} {E : String} (hf : f_X4_ordersLeft n σ0 σ x1 = some (.inl E)) : E = IOB := by
  rw [f_X4_ordersLeft] at hf
  rcases xbT hf with hc0 | ⟨z1, hc1, hf⟩
  · have h9 := E_X4_envelopeAt hc0
    exact h9
  · skip
    obtain ⟨z2, hc2, hf⟩ := bdS hf
    obtain ⟨t3, _, hf⟩ := ltS hf
    cases hf
theorem E_X4_events {n : Nat} {σ0 : (Nat → Nat → Int32)} {σ : (Nat → Nat → Nat → Int32)} {x1 : Int32} {E : String} (hf : f_X4_events n σ0 σ x1 = some (.inl E)) : E = IOB := by
  rw [f_X4_events] at hf
  rcases xbT hf with hc0 | ⟨z1, hc1, hf⟩
  · have h9 := E_X4_envelopeAt hc0
    exact h9
  · skip
    cases hf
theorem E_X4_kindOf {n : Nat} {σ0 : (Nat → Nat → Int32)} {σ : (Nat → Nat → Nat → Int32)} {x1 x2 : Int32} {E : String} (hf : f_X4_kindOf n σ0 σ x1 x2 = some (.inl E)) : E = IOB := by
  rw [f_X4_kindOf] at hf
  rcases xbT hf with hc0 | ⟨z1, hc1, hf⟩
  · have h9 := E_X4_envelopeAt hc0
    exact h9
  · skip
    rcases xbT hf with hc0 | ⟨z2, hc2, hf⟩
    · have h9 := E_X4_refuseNoEvent hc0
      exact h9
    · skip
      cases hf
theorem E_X4_personOf {n : Nat} {σ0 : (Nat → Nat → Int32)} {σ : (Nat → Nat → Nat → Int32)} {x1 x2 : Int32} {E : String} (hf : f_X4_personOf n σ0 σ x1 x2 = some (.inl E)) : E = IOB := by
  rw [f_X4_personOf] at hf
  rcases xbT hf with hc0 | ⟨z1, hc1, hf⟩
  · have h9 := E_X4_envelopeAt hc0
    exact h9
  · skip
    rcases xbT hf with hc0 | ⟨z2, hc2, hf⟩
    · have h9 := E_X4_refuseNoEvent hc0
      exact h9
    · skip
      cases hf
theorem E_X4_dayOf {n : Nat} {σ0 : (Nat → Nat → Int32)} {σ : (Nat → Nat → Nat → Int32)} {x1 x2 : Int32} {E : String} (hf : f_X4_dayOf n σ0 σ x1 x2 = some (.inl E)) : E = IOB := by
  rw [f_X4_dayOf] at hf
  rcases xbT hf with hc0 | ⟨z1, hc1, hf⟩
  · have h9 := E_X4_envelopeAt hc0
    exact h9
  · skip
    rcases xbT hf with hc0 | ⟨z2, hc2, hf⟩
    · have h9 := E_X4_refuseNoEvent hc0
      exact h9
    · skip
      cases hf
theorem E_X4_seal {n : Nat} {σ0 : (Nat → Nat → Int32)} {σ : (Nat → Nat → Nat → Int32)} {x1 x2 : Int32} {E : String} (hf : f_X4_seal n σ0 σ x1 x2 = some (.inl E)) : E = IOB := by
  rw [f_X4_seal] at hf
  rcases xbT hf with hc0 | ⟨z1, hc1, hf⟩
  · have h9 := E_X4_envelopeAt hc0
    exact h9
  · skip
    rcases xbT hf with hc0 | ⟨z2, hc2, hf⟩
    · have h9 := E_X4_refuseTooManyEvents hc0
      exact h9
    · skip
      obtain ⟨z3, hc3, hf⟩ := bdS hf
      cases hf
theorem E_X4_stateBehind {n : Nat} {σ0 : (Nat → Nat → Int32)} {σ : (Nat → Nat → Nat → Int32)} {x1 x2 : Int32} {E : String} (hf : f_X4_stateBehind n σ0 σ x1 x2 = some (.inl E)) : E = IOB := by
  rw [f_X4_stateBehind] at hf
  rcases xbT hf with hc0 | ⟨z1, hc1, hf⟩
  · have h9 := E_X4_envelopeAt hc0
    exact h9
  · skip
    rcases xbT hf with hc0 | ⟨z2, hc2, hf⟩
    · have h9 := E_X4_refuseTooManyEvents hc0
      exact h9
    · skip
      obtain ⟨z3, hc3, hf⟩ := bdS hf
      cases hf
theorem E_X4_openBehind {n : Nat} {σ0 : (Nat → Nat → Int32)} {σ : (Nat → Nat → Nat → Int32)} {x1 x2 : Int32} {E : String} (hf : f_X4_openBehind n σ0 σ x1 x2 = some (.inl E)) : E = IOB := by
  rw [f_X4_openBehind] at hf
  rcases xbT hf with hc0 | ⟨z1, hc1, hf⟩
  · have h9 := E_X4_envelopeAt hc0
    exact h9
  · skip
    rcases xbT hf with hc0 | ⟨z2, hc2, hf⟩
    · have h9 := E_X4_refuseTooManyEvents hc0
      exact h9
    · skip
      obtain ⟨z3, hc3, hf⟩ := bdS hf
      by_cases c9 : z3 = (1 : Int32)
      · have hf := ifT c9 hf
        obtain ⟨z4, hc4, hf⟩ := bdS hf
        obtain ⟨z5, hc5, hf⟩ := bdS hf
        cases hf
      · have hf := ifF c9 hf
        cases hf
theorem E_X4_pass {n : Nat} {σ0 : (Nat → Nat → Int32)} {σ : (Nat → Nat → Nat → Int32)} {x1 : Int32} {E : String} (hf : f_X4_pass n σ0 σ x1 = some (.inl E)) : E = IAE := by
  rw [f_X4_pass] at hf
  by_cases c9 : x1 < (1 : Int32)
  · have hf := ifT c9 hf
    cases hf
    exact rfl
  · have hf := ifF c9 hf
    by_cases c9 : x1 ≤ (60 : Int32)
    · have hf := ifT c9 hf
      obtain ⟨z1, hc1, hf⟩ := bdS hf
      cases hf
    · have hf := ifF c9 hf
      cases hf
      exact rfl
end
