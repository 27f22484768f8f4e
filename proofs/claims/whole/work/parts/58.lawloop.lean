/-! The law from its entry to its end, over any invariant that each call keeps -/
section
def SAll (Inv : IT) : Prop := SA_draft Inv ∧ SA_addSlot Inv ∧ SA_addRound Inv ∧ SA_setTimes Inv ∧ SA_send Inv ∧ SA_sign Inv ∧ SA_whyNot Inv ∧ SA_decline Inv ∧ SA_cancel Inv ∧ SA_delegate Inv ∧ SA_revoke Inv ∧ SA_delegateToday Inv ∧ SA_signedFor Inv ∧ SA_toSign Inv ∧ SA_pass Inv ∧ SA_today Inv ∧ SA_nextReminder Inv ∧ SA_envelopes Inv ∧ SA_state Inv ∧ SA_slots Inv ∧ SA_slotState Inv ∧ SA_missing Inv ∧ SA_share Inv ∧ SA_ahead Inv ∧ SA_roundOf Inv ∧ SA_orders Inv ∧ SA_ordersByAll Inv ∧ SA_ordersLeft Inv ∧ SA_events Inv ∧ SA_kindOf Inv ∧ SA_personOf Inv ∧ SA_dayOf Inv ∧ SA_seal Inv ∧ SA_stateBehind Inv ∧ SA_openBehind Inv
theorem tab9 (x : Int32) : (x.toInt < 0 ∨ 34 < x.toInt) ∨ x.toInt = 0 ∨ x.toInt = 1 ∨ x.toInt = 2 ∨ x.toInt = 3 ∨ x.toInt = 4 ∨ x.toInt = 5 ∨ x.toInt = 6 ∨ x.toInt = 7 ∨ x.toInt = 8 ∨ x.toInt = 9 ∨ x.toInt = 10 ∨ x.toInt = 11 ∨ x.toInt = 12 ∨ x.toInt = 13 ∨ x.toInt = 14 ∨ x.toInt = 15 ∨ x.toInt = 16 ∨ x.toInt = 17 ∨ x.toInt = 18 ∨ x.toInt = 19 ∨ x.toInt = 20 ∨ x.toInt = 21 ∨ x.toInt = 22 ∨ x.toInt = 23 ∨ x.toInt = 24 ∨ x.toInt = 25 ∨ x.toInt = 26 ∨ x.toInt = 27 ∨ x.toInt = 28 ∨ x.toInt = 29 ∨ x.toInt = 30 ∨ x.toInt = 31 ∨ x.toInt = 32 ∨ x.toInt = 33 ∨ x.toInt = 34 := by omega
theorem lim9 {t L : Nat} (ht : 6 * t ≤ L) (hL : L ≤ 3072) (h : ¬ (Int32.ofNat L - 6 < nI (6 * t))) : 6 * t + 6 ≤ L := by
  rw [Int32.lt_iff_toInt_lt, Int32.toInt_sub, nI_toInt (by omega)] at h
  rw [show (Int32.ofNat L).toInt = L from nI_toInt (by omega), show (6 : Int32).toInt = 6 from rfl, Int.bmod_eq_of_le (by omega) (by omega)] at h
  omega
theorem hi9 {t L : Nat} (h : 6 * t + 6 ≤ L) (hL : L ≤ 3072) : HI (nI (6 * t)) L := by
  have key : ∀ k : Nat, k < 6 → vp_in (nI (6 * t) + nI k) L := fun k hk => by
    rw [nI_add]
    exact vp_in_nI (by omega) (by omega)
  exact ⟨vp_in_nI (by omega) (by omega), key 1 (by omega), key 2 (by omega), key 3 (by omega), key 4 (by omega), key 5 (by omega)⟩
variable {p : Program} {l : Launch} {e : Env} {s : State} {m : MethodId} {below : List Frame} {meth : Method} {c : Code} {D : va_G} {cA : Nat → ClassId} {b L : Nat} {xs : Nat → Int32}
set_option maxHeartbeats 1000000 in
set_option maxRecDepth 100000 in
theorem law_loop {Inv : IT} (hn6 : ∀ t n σ0 σ τ, Inv t n σ0 σ τ → n ≤ 6) (skip : ∀ t n σ0 σ τ, Inv t n σ0 σ τ → Inv (t + 1) n σ0 σ τ) (S : SAll Inv) (X : LX p l s m #[.ref b] meth c D cA b L xs) (hr : meth.sig.returnType = ret) (hL : L ≤ 3072) {q0 qm : Nat → Nat} {o o2 : Nat} :
    ∀ (k t : Nat), 6 * t ≤ L → 512 ≤ t + k → ∀ (n : Nat) (q : Nat → Nat → Nat) (σ0 : Nat → Nat → Int32) (σ : Nat → Nat → Nat → Int32) (τ : Nat → Nat → Int32) (f : Nat → Int64) (f2 : Nat → UInt64) (H : Heap) (locs : List Loc), Inv t n σ0 σ τ → St D (nA s) s.heap (wL n q0 q qm cA σ0 σ τ o o2 f f2) H locs →
    ∀ ls : Array Slot, lv_has ls 8 (L0 b (q0 0) (qm 0) o o2 (nI (6 * t))) → W p l e room_1 s m #[.ref b] below meth c H locs (100 + 20 * t) (2000 + 263 * t) (lw_Z below #[.ref b] s) (F0 m 28 ls []) := by
  intro k
  induction k with
  | zero =>
    intro t ht hk n q σ0 σ τ f f2 H locs hI h ls hl
    obtain ⟨C, hl0, hX, hN, hscr, hbl⟩ := id X
    obtain ⟨hx, hb, hml, hown, hts, hK, hlk⟩ := id C
    have hbA : ¬ nA s b := Nat.not_le.mpr hbl
    refine lv_iload (pc := 28) hx hb dL_law_28 (lv_at hl 5 rfl) ?_
    refine lv_aload_n (pc := 30) hx hb dL_law_30 rfl (lv_at hl 0 rfl) ?_
    refine va_slen (pc := 31) hx hb hscr hbl hbA h.2.2.1 dL_law_31 ?_
    refine lv_bipush (pc := 32) (v := 6) hx hb dL_law_32 (by decide) ?_
    refine lv_isub (pc := 34) hx hb dL_law_34 ?_
    refine lv_icmp_gt (pc := 35) (tgt := 2370) hx hb dL_law_35 (by decide) (fun _ => ?_) (fun c9 => ?_)
    · refine lv_iconst (pc := 2370) (v := 1) hx hb dL_law_2370 (by decide) ?_
      refine va_forget (fun q hq => h.2.2.1.2.2 q hq) ?_
      refine W.widen (k := 601024) (n := 7293034) (by omega) (by omega) ?_
      exact W.base (lw_ret (Drawn.sameBut.refl s.drawn lw_cs) hx hb hr hlk dL_law_2371)
    · have := lim9 ht hL c9
      omega
  | succ k ih =>
    intro t ht hk n q σ0 σ τ f f2 H locs hI h ls hl
    obtain ⟨C, hl0, hX, hN, hscr, hbl⟩ := id X
    obtain ⟨hx, hb, hml, hown, hts, hK, hlk⟩ := id C
    have hbA : ¬ nA s b := Nat.not_le.mpr hbl
    refine lv_iload (pc := 28) hx hb dL_law_28 (lv_at hl 5 rfl) ?_
    refine lv_aload_n (pc := 30) hx hb dL_law_30 rfl (lv_at hl 0 rfl) ?_
    refine va_slen (pc := 31) hx hb hscr hbl hbA h.2.2.1 dL_law_31 ?_
    refine lv_bipush (pc := 32) (v := 6) hx hb dL_law_32 (by decide) ?_
    refine lv_isub (pc := 34) hx hb dL_law_34 ?_
    refine lv_icmp_gt (pc := 35) (tgt := 2370) hx hb dL_law_35 (by decide) (fun _ => ?_) (fun c9 => ?_)
    · refine lv_iconst (pc := 2370) (v := 1) hx hb dL_law_2370 (by decide) ?_
      refine va_forget (fun q hq => h.2.2.1.2.2 q hq) ?_
      refine W.widen (k := 601024) (n := 7293034) (by omega) (by omega) ?_
      exact W.base (lw_ret (Drawn.sameBut.refl s.drawn lw_cs) hx hb hr hlk dL_law_2371)
    have h6 := lim9 ht hL c9
    have hi := hi9 h6 hL
    have ht9 : t < 512 := by omega
    have kk : LK p l e s m #[.ref b] below meth c D cA b q0 qm o o2 Inv t (nI (6 * t)) (100 + 20 * t) (2000 + 263 * t) (lw_Z below #[.ref b] s) := by
      intro n q σ0 σ τ f f2 H locs hI h ls hl
      refine lv_iinc (pc := 2364) (v := nI (6 * (t + 1))) (lv' := [(5, .int (nI (6 * (t + 1)))), (0, .ref b), (1, .ref (q0 0)), (2, .ref (qm 0)), (3, .ref o), (4, .ref o2)]) hx hb dL_law_2364 hl (k := 5) rfl (nI_add (6 * t) 6) (by decide) rfl (fun ls hl => ?_)
      refine lv_goto (pc := 2367) (tgt := 28) hx hb dL_law_2367 (by decide) ?_
      exact W.widen (by omega) (by omega) (ih (t + 1) (by omega) (by omega) n q σ0 σ τ f f2 H locs hI h ls (lv_sub hl [1, 2, 3, 4, 5, 0] rfl))
    obtain ⟨S_draft, S_addSlot, S_addRound, S_setTimes, S_send, S_sign, S_whyNot, S_decline, S_cancel, S_delegate, S_revoke, S_delegateToday, S_signedFor, S_toSign, S_pass, S_today, S_nextReminder, S_envelopes, S_state, S_slots, S_slotState, S_missing, S_share, S_ahead, S_roundOf, S_orders, S_ordersByAll, S_ordersLeft, S_events, S_kindOf, S_personOf, S_dayOf, S_seal, S_stateBehind, S_openBehind⟩ := id S
    refine lv_aload_n (pc := 38) hx hb dL_law_38 rfl (lv_at hl 0 rfl) ?_
    refine lv_iload (pc := 39) hx hb dL_law_39 (lv_at hl 5 rfl) ?_
    refine va_sld (pc := 41) hx hb hscr hbl hbA h.2.2.1 hi.1 dL_law_41 ?_
    refine lv_bipush (pc := 42) (v := 63) hx hb dL_law_42 (by decide) ?_
    refine lv_iand (pc := 44) hx hb dL_law_44 ?_
    generalize xs (nI (6 * t)).toNatClampNeg &&& 63 = x9
    rcases tab9 x9 with hz | hz | hz | hz | hz | hz | hz | hz | hz | hz | hz | hz | hz | hz | hz | hz | hz | hz | hz | hz | hz | hz | hz | hz | hz | hz | hz | hz | hz | hz | hz | hz | hz | hz | hz | hz
    · refine lv_tableOut (pc := 45) (tgt := 2364) hx hb dL_law_45 hz (by decide) ?_
      exact W.widen (by omega) (by omega) (kk n q σ0 σ τ f f2 H locs (skip _ _ _ _ _ hI) h ls hl)
    · refine lv_tableIn (pc := 45) (off := 155) (tgt := 200) hx hb dL_law_45 (by rw [hz]; decide) (by rw [hz]; decide) (by rw [hz]; rfl) (by decide) ?_
      exact law_draft hn6 S_draft ht9 hI X h hi hl (by omega) (by omega) kk
    · refine lv_tableIn (pc := 45) (off := 199) (tgt := 244) hx hb dL_law_45 (by rw [hz]; decide) (by rw [hz]; decide) (by rw [hz]; rfl) (by decide) ?_
      exact law_addSlot hn6 S_addSlot ht9 hI X h hi hl (by omega) (by omega) kk
    · refine lv_tableIn (pc := 45) (off := 279) (tgt := 324) hx hb dL_law_45 (by rw [hz]; decide) (by rw [hz]; decide) (by rw [hz]; rfl) (by decide) ?_
      exact law_addRound hn6 S_addRound ht9 hI X h hi hl (by omega) (by omega) kk
    · refine lv_tableIn (pc := 45) (off := 347) (tgt := 392) hx hb dL_law_45 (by rw [hz]; decide) (by rw [hz]; decide) (by rw [hz]; rfl) (by decide) ?_
      exact law_setTimes hn6 S_setTimes ht9 hI X h hi hl (by omega) (by omega) kk
    · refine lv_tableIn (pc := 45) (off := 407) (tgt := 452) hx hb dL_law_45 (by rw [hz]; decide) (by rw [hz]; decide) (by rw [hz]; rfl) (by decide) ?_
      exact law_send hn6 S_send ht9 hI X h hi hl (by omega) (by omega) kk
    · refine lv_tableIn (pc := 45) (off := 463) (tgt := 508) hx hb dL_law_45 (by rw [hz]; decide) (by rw [hz]; decide) (by rw [hz]; rfl) (by decide) ?_
      exact law_sign hn6 S_sign ht9 hI X h hi hl (by omega) (by omega) kk
    · refine lv_tableIn (pc := 45) (off := 543) (tgt := 588) hx hb dL_law_45 (by rw [hz]; decide) (by rw [hz]; decide) (by rw [hz]; rfl) (by decide) ?_
      exact law_whyNot hn6 S_whyNot ht9 hI X h hi hl (by omega) (by omega) kk
    · refine lv_tableIn (pc := 45) (off := 623) (tgt := 668) hx hb dL_law_45 (by rw [hz]; decide) (by rw [hz]; decide) (by rw [hz]; rfl) (by decide) ?_
      exact law_decline hn6 S_decline ht9 hI X h hi hl (by omega) (by omega) kk
    · refine lv_tableIn (pc := 45) (off := 703) (tgt := 748) hx hb dL_law_45 (by rw [hz]; decide) (by rw [hz]; decide) (by rw [hz]; rfl) (by decide) ?_
      exact law_cancel hn6 S_cancel ht9 hI X h hi hl (by omega) (by omega) kk
    · refine lv_tableIn (pc := 45) (off := 759) (tgt := 804) hx hb dL_law_45 (by rw [hz]; decide) (by rw [hz]; decide) (by rw [hz]; rfl) (by decide) ?_
      exact law_delegate hn6 S_delegate ht9 hI X h hi hl (by omega) (by omega) kk
    · refine lv_tableIn (pc := 45) (off := 863) (tgt := 908) hx hb dL_law_45 (by rw [hz]; decide) (by rw [hz]; decide) (by rw [hz]; rfl) (by decide) ?_
      exact law_revoke hn6 S_revoke ht9 hI X h hi hl (by omega) (by omega) kk
    · refine lv_tableIn (pc := 45) (off := 919) (tgt := 964) hx hb dL_law_45 (by rw [hz]; decide) (by rw [hz]; decide) (by rw [hz]; rfl) (by decide) ?_
      exact law_delegateToday hn6 S_delegateToday ht9 hI X h hi hl (by omega) (by omega) kk
    · refine lv_tableIn (pc := 45) (off := 975) (tgt := 1020) hx hb dL_law_45 (by rw [hz]; decide) (by rw [hz]; decide) (by rw [hz]; rfl) (by decide) ?_
      exact law_signedFor hn6 S_signedFor ht9 hI X h hi hl (by omega) (by omega) kk
    · refine lv_tableIn (pc := 45) (off := 1031) (tgt := 1076) hx hb dL_law_45 (by rw [hz]; decide) (by rw [hz]; decide) (by rw [hz]; rfl) (by decide) ?_
      exact law_toSign hn6 S_toSign ht9 hI X h hi hl (by omega) (by omega) kk
    · refine lv_tableIn (pc := 45) (off := 1087) (tgt := 1132) hx hb dL_law_45 (by rw [hz]; decide) (by rw [hz]; decide) (by rw [hz]; rfl) (by decide) ?_
      exact law_pass hn6 S_pass ht9 hI X h hi hl (by omega) (by omega) kk
    · refine lv_tableIn (pc := 45) (off := 1143) (tgt := 1188) hx hb dL_law_45 (by rw [hz]; decide) (by rw [hz]; decide) (by rw [hz]; rfl) (by decide) ?_
      exact law_today hn6 S_today ht9 hI X h hi hl (by omega) (by omega) kk
    · refine lv_tableIn (pc := 45) (off := 1156) (tgt := 1201) hx hb dL_law_45 (by rw [hz]; decide) (by rw [hz]; decide) (by rw [hz]; rfl) (by decide) ?_
      exact law_nextReminder hn6 S_nextReminder ht9 hI X h hi hl (by omega) (by omega) kk
    · refine lv_tableIn (pc := 45) (off := 1212) (tgt := 1257) hx hb dL_law_45 (by rw [hz]; decide) (by rw [hz]; decide) (by rw [hz]; rfl) (by decide) ?_
      exact law_envelopes hn6 S_envelopes ht9 hI X h hi hl (by omega) (by omega) kk
    · refine lv_tableIn (pc := 45) (off := 1225) (tgt := 1270) hx hb dL_law_45 (by rw [hz]; decide) (by rw [hz]; decide) (by rw [hz]; rfl) (by decide) ?_
      exact law_state hn6 S_state ht9 hI X h hi hl (by omega) (by omega) kk
    · refine lv_tableIn (pc := 45) (off := 1281) (tgt := 1326) hx hb dL_law_45 (by rw [hz]; decide) (by rw [hz]; decide) (by rw [hz]; rfl) (by decide) ?_
      exact law_slots hn6 S_slots ht9 hI X h hi hl (by omega) (by omega) kk
    · refine lv_tableIn (pc := 45) (off := 1337) (tgt := 1382) hx hb dL_law_45 (by rw [hz]; decide) (by rw [hz]; decide) (by rw [hz]; rfl) (by decide) ?_
      exact law_slotState hn6 S_slotState ht9 hI X h hi hl (by omega) (by omega) kk
    · refine lv_tableIn (pc := 45) (off := 1405) (tgt := 1450) hx hb dL_law_45 (by rw [hz]; decide) (by rw [hz]; decide) (by rw [hz]; rfl) (by decide) ?_
      exact law_missing hn6 S_missing ht9 hI X h hi hl (by omega) (by omega) kk
    · refine lv_tableIn (pc := 45) (off := 1473) (tgt := 1518) hx hb dL_law_45 (by rw [hz]; decide) (by rw [hz]; decide) (by rw [hz]; rfl) (by decide) ?_
      exact law_share hn6 S_share ht9 hI X h hi hl (by omega) (by omega) kk
    · refine lv_tableIn (pc := 45) (off := 1551) (tgt := 1596) hx hb dL_law_45 (by rw [hz]; decide) (by rw [hz]; decide) (by rw [hz]; rfl) (by decide) ?_
      exact law_ahead hn6 S_ahead ht9 hI X h hi hl (by omega) (by omega) kk
    · refine lv_tableIn (pc := 45) (off := 1619) (tgt := 1664) hx hb dL_law_45 (by rw [hz]; decide) (by rw [hz]; decide) (by rw [hz]; rfl) (by decide) ?_
      exact law_roundOf hn6 S_roundOf ht9 hI X h hi hl (by omega) (by omega) kk
    · refine lv_tableIn (pc := 45) (off := 1687) (tgt := 1732) hx hb dL_law_45 (by rw [hz]; decide) (by rw [hz]; decide) (by rw [hz]; rfl) (by decide) ?_
      exact law_orders hn6 S_orders ht9 hI X h hi hl (by omega) (by omega) kk
    · refine lv_tableIn (pc := 45) (off := 1743) (tgt := 1788) hx hb dL_law_45 (by rw [hz]; decide) (by rw [hz]; decide) (by rw [hz]; rfl) (by decide) ?_
      exact law_ordersByAll hn6 S_ordersByAll ht9 hI X h hi hl (by omega) (by omega) kk
    · refine lv_tableIn (pc := 45) (off := 1799) (tgt := 1844) hx hb dL_law_45 (by rw [hz]; decide) (by rw [hz]; decide) (by rw [hz]; rfl) (by decide) ?_
      exact law_ordersLeft hn6 S_ordersLeft ht9 hI X h hi hl (by omega) (by omega) kk
    · refine lv_tableIn (pc := 45) (off := 1855) (tgt := 1900) hx hb dL_law_45 (by rw [hz]; decide) (by rw [hz]; decide) (by rw [hz]; rfl) (by decide) ?_
      exact law_events hn6 S_events ht9 hI X h hi hl (by omega) (by omega) kk
    · refine lv_tableIn (pc := 45) (off := 1911) (tgt := 1956) hx hb dL_law_45 (by rw [hz]; decide) (by rw [hz]; decide) (by rw [hz]; rfl) (by decide) ?_
      exact law_kindOf hn6 S_kindOf ht9 hI X h hi hl (by omega) (by omega) kk
    · refine lv_tableIn (pc := 45) (off := 1979) (tgt := 2024) hx hb dL_law_45 (by rw [hz]; decide) (by rw [hz]; decide) (by rw [hz]; rfl) (by decide) ?_
      exact law_personOf hn6 S_personOf ht9 hI X h hi hl (by omega) (by omega) kk
    · refine lv_tableIn (pc := 45) (off := 2047) (tgt := 2092) hx hb dL_law_45 (by rw [hz]; decide) (by rw [hz]; decide) (by rw [hz]; rfl) (by decide) ?_
      exact law_dayOf hn6 S_dayOf ht9 hI X h hi hl (by omega) (by omega) kk
    · refine lv_tableIn (pc := 45) (off := 2115) (tgt := 2160) hx hb dL_law_45 (by rw [hz]; decide) (by rw [hz]; decide) (by rw [hz]; rfl) (by decide) ?_
      exact law_seal hn6 S_seal ht9 hI X h hi hl (by omega) (by omega) kk
    · refine lv_tableIn (pc := 45) (off := 2183) (tgt := 2228) hx hb dL_law_45 (by rw [hz]; decide) (by rw [hz]; decide) (by rw [hz]; rfl) (by decide) ?_
      exact law_stateBehind hn6 S_stateBehind ht9 hI X h hi hl (by omega) (by omega) kk
    · refine lv_tableIn (pc := 45) (off := 2251) (tgt := 2296) hx hb dL_law_45 (by rw [hz]; decide) (by rw [hz]; decide) (by rw [hz]; rfl) (by decide) ?_
      exact law_openBehind hn6 S_openBehind ht9 hI X h hi hl (by omega) (by omega) kk
end
