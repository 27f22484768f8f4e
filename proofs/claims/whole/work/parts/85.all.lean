/-! All calls; the start -/
section
theorem inv_all : SAll Inv := ⟨sa_draft, sa_addSlot, sa_addRound, sa_setTimes, sa_send, sa_sign, sa_whyNot, sa_decline, sa_cancel, sa_delegate, sa_revoke, sa_delegateToday, sa_signedFor, sa_toSign, sa_pass, sa_today, sa_nextReminder, sa_envelopes, sa_state, sa_slots, sa_slotState, sa_missing, sa_share, sa_ahead, sa_roundOf, sa_orders, sa_ordersByAll, sa_ordersLeft, sa_events, sa_kindOf, sa_personOf, sa_dayOf, sa_seal, sa_stateBehind, sa_openBehind⟩
theorem inv_start : Inv 0 0 σ00 (fun _ _ _ => 0) σm0 := by
  refine ⟨0, by omega, ⟨by decide, rfl, rfl, rfl, fun k _ _ => ⟨rfl, rfl, rfl, rfl⟩, fun p hp => ?_⟩, fun k hk => absurd hk (by omega)⟩
  rcases (show p = 0 ∨ p = 1 ∨ p = 2 ∨ p = 3 ∨ p = 4 ∨ p = 5 ∨ p = 6 ∨ p = 7 by omega) with rfl | rfl | rfl | rfl | rfl | rfl | rfl | rfl <;> exact ⟨rfl, Or.inl rfl, rfl, rfl, rfl, 0, Nat.le_refl _, rfl, rfl⟩
end
