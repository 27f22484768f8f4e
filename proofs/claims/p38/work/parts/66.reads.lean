/-! What the desk's reading calls answer -/
section
theorem per_at {p : Nat} (hp : p < 8) : f_X4_refuseNoPerson (nI p) = some (.inr ()) := by
  unfold f_X4_refuseNoPerson
  rw [if_neg (nI_pos (by omega)), if_pos (show nI p < 8 from nI_lt (b := 8) hp (by decide))]
theorem slot_at {σ : SS} {c j : Nat} (hj : j < c) (hc : c ≤ 8) (h10 : σ 10 0 = nI c) : f_X4_refuseNoSlot σ (nI j) = some (.inr ()) := by
  unfold f_X4_refuseNoSlot
  rw [if_neg (nI_pos (by omega)), h10, if_pos (nI_lt hj (by omega))]
theorem slot_no {σ : SS} {c j : Nat} (hj : c ≤ j) (hc : j < 2 ^ 31) (h10 : σ 10 0 = nI c) : f_X4_refuseNoSlot σ (nI j) = some (.inl IOB) := by
  unfold f_X4_refuseNoSlot
  rw [if_neg (nI_pos (by omega)), h10, if_neg (nI_nlt hj (by omega))]
  rfl
theorem event_at {σ : SS} {len i : Nat} (hi : i < len) (hl : len ≤ 49) (h9 : σ 9 0 = nI len) : f_X4_refuseNoEvent (hs σ) (nI i) = some (.inr ()) := by
  unfold f_X4_refuseNoEvent
  rw [if_neg (nI_pos (by omega)), show hs σ 4 0 = nI len from h9, if_pos (nI_lt hi (by omega))]
theorem events_at {σ : SS} {len i : Nat} (hi : i ≤ len) (hl : len ≤ 49) (h9 : σ 9 0 = nI len) : f_X4_refuseTooManyEvents (hs σ) (nI i) = some (.inr ()) := by
  unfold f_X4_refuseTooManyEvents
  rw [if_neg (nI_pos (by omega)), show hs σ 4 0 = nI len from h9, if_pos (nI_le hi (by omega))]
theorem env_no {n e : Nat} (he : n ≤ e) (hb : e < 2 ^ 31) : f_X4_envelopeAt n (nI e) = some (.inl IOB) := by
  unfold f_X4_envelopeAt
  rw [if_neg (nI_pos (by omega)), if_pos (nI_le he (by omega))]
  rfl
theorem v_today (d : Dk) (hn : d.1 ≤ 6) : gn_today d = some (d.2.1 1 0) := by
  unfold gn_today f_X4_today; rw [if_pos hn]
theorem v_envelopes (d : Dk) (hn : d.1 ≤ 6) : gn_envelopes d = some (nI d.1) := by
  unfold gn_envelopes f_X4_envelopes; rw [if_pos hn]
variable {d : Dk} {e td c len pc tm : Nat} {bf pr K sl dy : Nat → Nat} {pe se : Nat → Int32}
theorem v_state (hn : d.1 ≤ 6) (he : e < d.1) (hE : CE td (d.2.2 e) c len pc tm bf pr K sl dy pe se) : gn_state d (nI e) = some (nI (sta c K sl len)) ∧ gm_state d (nI e) = some (nI (sta c K sl len)) := by
  unfold gn_state gm_state f_X4_state
  rw [if_pos hn, if_pos hn, env_at he hn, xb_inr, hE.2.2.2.2.2.2.2.2.2.2.1]
  exact ⟨rfl, rfl⟩
theorem v_slots (hn : d.1 ≤ 6) (he : e < d.1) (hE : CE td (d.2.2 e) c len pc tm bf pr K sl dy pe se) : gn_slots d (nI e) = some (nI c) ∧ gm_slots d (nI e) = some (nI c) := by
  unfold gn_slots gm_slots f_X4_slots
  rw [if_pos hn, if_pos hn, env_at he hn, xb_inr, hE.2.2.2.2.1]
  exact ⟨rfl, rfl⟩
theorem v_events (hn : d.1 ≤ 6) (he : e < d.1) (hE : CE td (d.2.2 e) c len pc tm bf pr K sl dy pe se) : gn_events d (nI e) = some (nI len) := by
  unfold gn_events f_X4_events
  rw [if_pos hn, env_at he hn, xb_inr, hE.2.2.2.2.2.2.2.1]
def sst (c : Nat) (bf K sl : Nat → Nat) (len j : Nat) : Nat := if (sgn K sl len).testBit j = true then 2 else if (opn c bf K sl len).testBit j = true then 1 else if sta c K sl len ≤ 1 then 0 else 3
theorem stateOf_ok {σ : SS} {j : Nat} (hE : CE td σ c len pc tm bf pr K sl dy pe se) (hj : j < 31) : f_X0_stateOf σ (nI j) = nI (sst c bf K sl len j) := by
  have hc := hE.2.2.2.2
  have hst := sta_le c K sl len
  unfold f_X0_stateOf sst
  rw [hc.2.2.2.2.2.2.2.1, hc.2.2.2.2.2.2.2.2.1, hc.2.2.2.2.2.2.1]
  simp only [has4' _ hj]
  have eo : (if sta c K sl len = 1 then dif (opd c bf K sl len) (sgn K sl len) else 0) = opn c bf K sl len := rfl
  rw [eo]
  have ft : ¬ (false = true) := by decide
  have tf : ¬ (true = false) := by decide
  cases h1 : (sgn K sl len).testBit j with
  | true => rw [if_neg tf, if_pos rfl]; rfl
  | false =>
    rw [if_pos rfl, if_neg ft]
    cases h2 : (opn c bf K sl len).testBit j with
    | true => rw [if_neg tf, if_pos rfl]; rfl
    | false =>
      rw [if_pos rfl, if_neg ft]
      by_cases h4 : sta c K sl len = 0
      · rw [h4, if_pos nI_0, if_pos (show 0 ≤ 1 by decide)]; rfl
      · rw [if_neg (fun e => h4 ((nI_zero (by omega)).mp e))]
        by_cases h5 : sta c K sl len = 1
        · rw [h5, if_pos (show nI 1 = 1 from rfl), if_pos (show 1 ≤ 1 by decide)]; rfl
        · rw [if_neg (show ¬ nI (sta c K sl len) = 1 from fun e => h5 ((nI_eq (b := 1) (by omega) (by decide)).mp e)), if_neg (show ¬ sta c K sl len ≤ 1 by omega)]; rfl
theorem v_slotState {j : Nat} (hn : d.1 ≤ 6) (he : e < d.1) (hE : CE td (d.2.2 e) c len pc tm bf pr K sl dy pe se) (hj : j < c) : gn_slotState d (nI e) (nI j) = some (nI (sst c bf K sl len j)) ∧ gm_slotState d (nI e) (nI j) = some (nI (sst c bf K sl len j)) := by
  have h8 := hE.2.2.2.1.1
  unfold gn_slotState gm_slotState f_X4_slotState
  rw [if_pos hn, if_pos hn, env_at he hn, xb_inr, slot_at hj h8 hE.2.2.2.2.1, xb_inr, stateOf_ok hE (by omega)]
  exact ⟨rfl, rfl⟩
theorem v_slotState_no {j : Nat} (hn : d.1 ≤ 6) (he : e < d.1) (hE : CE td (d.2.2 e) c len pc tm bf pr K sl dy pe se) (hj : c ≤ j) (hb : j < 2 ^ 31) : gm_slotState d (nI e) (nI j) = some (-1000001) := by
  unfold gm_slotState f_X4_slotState
  rw [if_pos hn, env_at he hn, xb_inr, slot_no hj hb hE.2.2.2.2.1]
  rfl
theorem v_missing {j : Nat} (hn : d.1 ≤ 6) (he : e < d.1) (hE : CE td (d.2.2 e) c len pc tm bf pr K sl dy pe se) (hj : j < c) : gn_missing d (nI e) (nI j) = some (nI (pcn (dif (bf j) (sgn K sl len)))) := by
  have h8 := hE.2.2.2.1.1
  have hc := hE.2.2.2.2
  have hb := (hE.2.2.2.1.2.2.1 j hj).1
  unfold gn_missing f_X4_missing
  rw [if_pos hn, env_at he hn, xb_inr, slot_at hj h8 hc.1, xb_inr, rg9 (by omega) (by decide), (hc.2.2.2.2.1 j hj).2.1, hc.2.2.2.2.2.2.2.1, i_dif, bc_pcn (lt8 (dif_lt hb) (by omega))]
theorem v_round {j : Nat} (hn : d.1 ≤ 6) (he : e < d.1) (hE : CE td (d.2.2 e) c len pc tm bf pr K sl dy pe se) (hj : j < c) : gn_roundOf d (nI e) (nI j) = some (nI (rl bf c j)) := by
  have h8 := hE.2.2.2.1.1
  have hc := hE.2.2.2.2
  unfold gn_roundOf f_X4_roundOf
  rw [if_pos hn, env_at he hn, xb_inr, slot_at hj h8 hc.1, xb_inr, rg9 (by omega) (by decide), (hc.2.2.2.2.1 j hj).2.2]
theorem dnl_l {j : Nat} (hE : CE td (d.2.2 e) c len pc tm bf pr K sl dy pe se) (hj : j < c) : dnl bf (bf j) j < 256 := by
  have hw := hE.2.2.2.1
  have h8 := hw.1
  have hbl : ∀ q, q < j → bf q < 2 ^ j := fun q hq => Nat.lt_trans (hw.2.2.1 q (by omega)).1 (Nat.pow_lt_pow_right (by decide) hq)
  exact lt8 (dnl_lt j _ hbl (hw.2.2.1 j hj).1) (by omega)
theorem v_ahead {j : Nat} (hn : d.1 ≤ 6) (he : e < d.1) (hE : CE td (d.2.2 e) c len pc tm bf pr K sl dy pe se) (hj : j < c) : gn_ahead d (nI e) (nI j) = some (nI (pcn (dnl bf (bf j) j))) := by
  have h8 := hE.2.2.2.1.1
  have hc := hE.2.2.2.2
  obtain ⟨z4, q4⟩ := ahead4 (σ := d.2.2 e) (nI j) h8 (fun q hq => (hc.2.2.2.2.1 q hq).2.1) j (bf j) (by omega) FU (by unfold FU; omega)
  unfold gn_ahead f_X4_ahead f_X0_aheadOf
  rw [if_pos hn, env_at he hn, xb_inr, slot_at hj h8 hc.1, xb_inr, rg9 (by omega) (by decide), (hc.2.2.2.2.1 j hj).2.1, sub_m1, q4]
  simp only [Option.bind_some]
  rw [bc_pcn (dnl_l hE hj)]
theorem v_kind {i : Nat} (hn : d.1 ≤ 6) (he : e < d.1) (hE : CE td (d.2.2 e) c len pc tm bf pr K sl dy pe se) (hi : i < len) : gn_kindOf d (nI e) (nI i) = some (nI (K i)) := by
  have hl := hE.2.2.2.1.2.1
  have hc := hE.2.2.2.2
  unfold gn_kindOf f_X4_kindOf
  rw [if_pos hn, env_at he hn, xb_inr, event_at hi hl hc.2.2.2.1, xb_inr, rg9 (by omega) (by decide), (hc.2.2.2.2.2.1 i hi).1]
theorem v_person {i : Nat} (hn : d.1 ≤ 6) (he : e < d.1) (hE : CE td (d.2.2 e) c len pc tm bf pr K sl dy pe se) (hi : i < len) : gn_personOf d (nI e) (nI i) = some (pe i) := by
  have hl := hE.2.2.2.1.2.1
  have hc := hE.2.2.2.2
  unfold gn_personOf f_X4_personOf
  rw [if_pos hn, env_at he hn, xb_inr, event_at hi hl hc.2.2.2.1, xb_inr, rg9 (by omega) (by decide), (hc.2.2.2.2.2.1 i hi).2.1]
theorem v_day {i : Nat} (hn : d.1 ≤ 6) (he : e < d.1) (hE : CE td (d.2.2 e) c len pc tm bf pr K sl dy pe se) (hi : i < len) : gn_dayOf d (nI e) (nI i) = some (nI (dy i)) := by
  have hl := hE.2.2.2.1.2.1
  have hc := hE.2.2.2.2
  unfold gn_dayOf f_X4_dayOf
  rw [if_pos hn, env_at he hn, xb_inr, event_at hi hl hc.2.2.2.1, xb_inr, rg9 (by omega) (by decide), (hc.2.2.2.2.2.1 i hi).2.2.2]
theorem v_seal {s : Nat} (hn : d.1 ≤ 6) (he : e < d.1) (hE : CE td (d.2.2 e) c len pc tm bf pr K sl dy pe se) (hsl : s ≤ len) : gn_seal d (nI e) (nI s) = some (sealF K dy pe se s) := by
  have hl := hE.2.2.2.1.2.1
  have hc := hE.2.2.2.2
  obtain ⟨z4, q4⟩ := seal4 (σ := d.2.2 e) hl hsl hc.2.2.2.2.2.1 s 0 (by omega) FU (by unfold FU; omega)
  unfold gn_seal f_X4_seal f_X1_sealBehind
  rw [if_pos hn, env_at he hn, xb_inr, events_at hsl hl hc.2.2.2.1, xb_inr]
  have q4 : f_X1_sealBehind_4 FU (hs (d.2.2 e)) (nI s) (1 : Int32) (0 : Int32) = some (sealF K dy pe se s, z4) := q4
  rw [q4]
  rfl
theorem v_stB {s : Nat} (hn : d.1 ≤ 6) (he : e < d.1) (hE : CE td (d.2.2 e) c len pc tm bf pr K sl dy pe se) (hsl : s ≤ len) : gn_stateBehind d (nI e) (nI s) = some (nI (sta c K sl s)) := by
  have hl := hE.2.2.2.1.2.1
  have hc := hE.2.2.2.2
  unfold gn_stateBehind f_X4_stateBehind
  rw [if_pos hn, env_at he hn, xb_inr, events_at hsl hl hc.2.2.2.1, xb_inr, hc.1, state_spec hE.2.2.2.1 hsl (fun i hi => (hc.2.2.2.2.2.1 i hi).1)]
  rfl
theorem opn_rdy {s : Nat} (hw : Wf td c len bf pr K sl dy) (hsl : s ≤ len) : opn c bf K sl s = if sta c K sl s = 1 then dif (rdy bf (sgn K sl s) c) (sgn K sl s) else 0 := by
  unfold opn
  by_cases h : sta c K sl s = 1
  · rw [if_pos h, if_pos h]
    have h0 := sta_pos h
    have hK0 : K 0 = 0 := ((hw.2.2.2.1 0 (by omega)).2.2.1).mp rfl
    rw [opd_rdy hK0 s h0]
  · rw [if_neg h, if_neg h]
theorem v_opB {s : Nat} (hn : d.1 ≤ 6) (he : e < d.1) (hE : CE td (d.2.2 e) c len pc tm bf pr K sl dy pe se) (hsl : s ≤ len) : gn_openBehind d (nI e) (nI s) = some (nI (opn c bf K sl s)) := by
  have hw := hE.2.2.2.1
  have hl := hw.2.1
  have hc := hE.2.2.2.2
  have hst := sta_le c K sl s
  unfold gn_openBehind f_X4_openBehind
  rw [if_pos hn, env_at he hn, xb_inr, events_at hsl hl hc.2.2.2.1, xb_inr, hc.1, state_spec hw hsl (fun i hi => (hc.2.2.2.2.2.1 i hi).1), Option.bind_some, opn_rdy hw hsl]
  by_cases h : sta c K sl s = 1
  · rw [if_pos h, h, if_pos (show nI 1 = 1 from rfl), signed_spec hw hsl (fun i hi => (hc.2.2.2.2.2.1 i hi).1) (fun i hi hk => by rw [(hc.2.2.2.2.2.1 i hi).2.2.1]; exact hE.2.2.1.se i hi hk), Option.bind_some, next_spec (sgn K sl s) hw.1 hc.1 hw.b8 (fun j hj => (hc.2.2.2.2.1 j hj).2.1)]
    rfl
  · rw [if_neg h, if_neg (show ¬ nI (sta c K sl s) = 1 from fun q => h ((nI_eq (b := 1) (by omega) (by decide)).mp q))]
    rfl
theorem v_share (hn : d.1 ≤ 6) (he : e < d.1) (hE : CE td (d.2.2 e) c len pc tm bf pr K sl dy pe se) : gn_share d (nI e) = some (if c = 0 then FP.fconst0 else FP.fdiv (FP.i2f (nI (pcn (sgn K sl len)))) (FP.i2f (nI c))) ∧ (¬ c = 0 → nN (FP.i2f (nI (pcn (sgn K sl len)))) (FP.i2f (nI c))) := by
  have hw := hE.2.2.2.1
  have h8 := hw.1
  have hc := hE.2.2.2.2
  have hsg := lt8 (hw.sg len (Nat.le_refl _)) h8
  unfold gn_share f_X4_share
  rw [if_pos hn, env_at he hn, xb_inr, hc.1]
  by_cases h0 : c = 0
  · rw [h0, if_pos nI_0, if_pos rfl]
    exact ⟨rfl, fun h => absurd rfl h⟩
  · obtain ⟨s1, -, -⟩ := share_ok c (by omega) (pcn (sgn K sl len)) (by have := pcn_le (sgn K sl len); omega) h0
    rw [if_neg (fun e => h0 ((nI_zero (by omega)).mp e)), if_neg h0, hc.2.2.2.2.2.2.2.1, bc_pcn hsg, if_pos s1]
    exact ⟨rfl, fun _ => s1⟩
theorem behind_eo (hE : CE td (d.2.2 e) c len pc tm bf pr K sl dy pe se) (g : Nat → Int32) {fr : Nat} (hfr : fr < 2 ^ c) :
    ∃ σ', f_X0_ordersBehind (eo (d.2.2 e) g) (nI fr) = some (nI (dp bf c fr (2 ^ c - 1) (2 ^ c - 1)), σ') ∧ ∀ x, x < 17 → σ' x = d.2.2 e x := by
  have hw := hE.2.2.2.1
  have hc := hE.2.2.2.2
  have hx : ∀ x, x ≠ 17 → eo (d.2.2 e) g x = d.2.2 e x := fun x hx => if_neg hx
  obtain ⟨σ', b1, b2⟩ := behind_spec (σ := eo (d.2.2 e) g) hw.1 (by rw [hx 10 (by decide)]; exact hc.1) hw.b8 (fun j hj => by rw [hx 1 (by decide)]; exact (hc.2.2.2.2.1 j hj).2.1) hfr
  exact ⟨σ', b1, fun x h => (b2 x (by omega)).trans (hx x (by omega))⟩
theorem v_orders (hn : d.1 ≤ 6) (he : e < d.1) (hE : CE td (d.2.2 e) c len pc tm bf pr K sl dy pe se) : ∃ g, gn_orders d (nI e) = some (nI (dp bf c 0 (2 ^ c - 1) (2 ^ c - 1)), d.1, va_up d.2.1 2 g, d.2.2) := by
  obtain ⟨σ', b1, b2⟩ := behind_eo hE (d.2.1 2) (Nat.two_pow_pos c)
  have b1 : f_X0_ordersBehind (eo (d.2.2 e) (d.2.1 2)) 0 = some (nI (dp bf c 0 (2 ^ c - 1) (2 ^ c - 1)), σ') := b1
  refine ⟨σ' 17, ?_⟩
  unfold gn_orders f_X4_orders
  rw [if_pos hn, env_at he hn, xb_inr, b1, Option.bind_some]
  have hC : ∀ k q, q < 17 → va_up d.2.2 e σ' k q = d.2.2 k q := by
    intro k q hq
    by_cases hk : k = e
    · subst hk; rw [up_eq]; exact b2 q hq
    · rw [up_ne hk]
  show @ite _ (∀ k c, c < 17 → va_up d.2.2 e σ' k c = d.2.2 k c) (Classical.propDecidable _) _ _ = _
  exact if_pos hC
theorem v_ordersLeft (hn : d.1 ≤ 6) (he : e < d.1) (hE : CE td (d.2.2 e) c len pc tm bf pr K sl dy pe se) : ∃ g, gn_ordersLeft d (nI e) = some (nI (dp bf c (sgn K sl len) (2 ^ c - 1) (2 ^ c - 1)), d.1, va_up d.2.1 2 g, d.2.2) := by
  obtain ⟨σ', b1, b2⟩ := behind_eo hE (d.2.1 2) (hE.2.2.2.1.sg len (Nat.le_refl _))
  refine ⟨σ' 17, ?_⟩
  unfold gn_ordersLeft f_X4_ordersLeft
  rw [if_pos hn, env_at he hn, xb_inr, hE.2.2.2.2.2.2.2.2.2.2.2.1, b1, Option.bind_some]
  have hC : ∀ k q, q < 17 → va_up d.2.2 e σ' k q = d.2.2 k q := by
    intro k q hq
    by_cases hk : k = e
    · subst hk; rw [up_eq]; exact b2 q hq
    · rw [up_ne hk]
  show @ite _ (∀ k c, c < 17 → va_up d.2.2 e σ' k c = d.2.2 k c) (Classical.propDecidable _) _ _ = _
  exact if_pos hC
theorem v_byAll (hn : d.1 ≤ 6) (he : e < d.1) (hE : CE td (d.2.2 e) c len pc tm bf pr K sl dy pe se) : gn_ordersByAll d (nI e) = some (nI (dp bf c 0 (2 ^ c - 1) (2 ^ c - 1))) := by
  have hw := hE.2.2.2.1
  have hc := hE.2.2.2.2
  have b1 := try_spec (σ := d.2.2 e) (bf := bf) hw.1 hc.1 hw.b8 (fun j hj => (hc.2.2.2.2.1 j hj).2.1) c 0 0 12 (by omega) (by have := hw.1; omega)
  have b1 : f_X4_countByTrying (d.2.2 e) 12 0 0 = some (nI (tr bf c c 0)) := b1
  unfold gn_ordersByAll f_X4_ordersByAll
  rw [if_pos hn, env_at he hn, xb_inr, b1, orders_eq hw.1]
  rfl
theorem v_next (htd : td < 2 ^ 30) (hn : d.1 ≤ 6) (he : e < d.1) (h1 : d.2.1 1 0 = nI td) (hE : CE td (d.2.2 e) c len pc tm bf pr K sl dy pe se) : ∃ v, gn_nextReminder d (nI e) = some v ∧ gm_nextReminder d (nI e) = some v ∧ NXT td c pc (opn c bf K sl len) (fun j => ond c bf K sl dy len j) (fun j => rmd K sl len j) v := by
  obtain ⟨v, h2, h3⟩ := next_ok htd hE
  refine ⟨v, ?_, ?_, h3⟩
  · unfold gn_nextReminder f_X4_nextReminder
    rw [if_pos hn, env_at he hn, xb_inr, h1, h2]
    rfl
  · unfold gm_nextReminder f_X4_nextReminder
    rw [if_pos hn, env_at he hn, xb_inr, h1, h2]
    rfl
/-- who may sign, the desk's way -/
def rsn (σ0 : SS) (td c : Nat) (bf pr K sl : Nat → Nat) (len p j : Nat) : Nat :=
  if sta c K sl len ≠ 1 then 2 else if (opn c bf K sl len).testBit j = false then 3 else if pr j = p then 0 else
    if f_X3_otherOn (ds σ0 (pr j)) (nI td) = nI p then (if σ0 (3 + pr j) 4 < σ0 (3 + pr j) 3 then 1 else 5) else 4
theorem reason_ok {σ0 σ : SS} {p j : Nat} (h1 : σ0 1 0 = nI td) (hE : CE td σ c len pc tm bf pr K sl dy pe se) (hp : p < 8) (hj : j < c) : f_X4_reasonFor σ0 σ (nI p) (nI j) = some (nI (rsn σ0 td c bf pr K sl len p j)) := by
  have hw := hE.2.2.2.1
  have h8 := hw.1
  have hc := hE.2.2.2.2
  have hst := sta_le c K sl len
  have hpr := (hw.2.2.1 j hj).2
  unfold f_X4_reasonFor rsn
  rw [hc.2.2.2.2.2.2.1, hc.2.2.2.2.2.2.2.2.1, rg9 (by omega) (by decide), (hc.2.2.2.2.1 j hj).1, std_at hpr, xn_inr, h1]
  simp only [has4' _ (show j < 31 by omega)]
  have eo : (if sta c K sl len = 1 then dif (opd c bf K sl len) (sgn K sl len) else 0) = opn c bf K sl len := rfl
  rw [eo]
  by_cases hs : sta c K sl len = 1
  · rw [hs, if_pos (show nI 1 = 1 from rfl), if_neg (show ¬ (1 ≠ 1) by omega)]
    cases hb : (opn c bf K sl len).testBit j with
    | false => rw [if_pos rfl, if_pos rfl]; rfl
    | true =>
      rw [if_neg (show ¬ (true = false) by decide), if_neg (show ¬ (true = false) by decide)]
      by_cases hq : pr j = p
      · rw [hq, if_pos rfl, if_pos rfl]; rfl
      · rw [if_neg (show ¬ nI (pr j) = nI p from fun e => hq ((nI_eq (by omega) (by omega)).mp e)), if_neg hq]
        split
        · split
          · rfl
          · rfl
        · rfl
  · rw [if_neg (show ¬ nI (sta c K sl len) = 1 from fun q => hs ((nI_eq (b := 1) (by omega) (by decide)).mp q)), if_pos hs]
    rfl
theorem rsn_le {σ0 : SS} {p j : Nat} : rsn σ0 td c bf pr K sl len p j ≤ 5 := by
  unfold rsn
  split
  · omega
  · split
    · omega
    · split
      · omega
      · split
        · split
          · omega
          · omega
        · omega
theorem v_why {p j : Nat} (hn : d.1 ≤ 6) (he : e < d.1) (h1 : d.2.1 1 0 = nI td) (hE : CE td (d.2.2 e) c len pc tm bf pr K sl dy pe se) (hp : p < 8) (hj : j < c) : gn_whyNot d (nI p) (nI e) (nI j) = some (nI (rsn d.2.1 td c bf pr K sl len p j)) ∧ gm_whyNot d (nI p) (nI e) (nI j) = some (nI (rsn d.2.1 td c bf pr K sl len p j)) := by
  have h8 := hE.2.2.2.1.1
  unfold gn_whyNot gm_whyNot f_X4_whyNot
  rw [if_pos hn, if_pos hn, per_at hp, xb_inr, env_at he hn, xb_inr, slot_at hj h8 hE.2.2.2.2.1, xb_inr, reason_ok h1 hE hp hj, Option.bind_some]
  exact ⟨rfl, rfl⟩
theorem v_why_no {p j : Nat} (hn : d.1 ≤ 6) (he : e < d.1) (hE : CE td (d.2.2 e) c len pc tm bf pr K sl dy pe se) (hp : p < 8) (hj : c ≤ j) (hb : j < 2 ^ 31) : gm_whyNot d (nI p) (nI e) (nI j) = some (-1000001) := by
  unfold gm_whyNot f_X4_whyNot
  rw [if_pos hn, per_at hp, xb_inr, env_at he hn, xb_inr, slot_no hj hb hE.2.2.2.2.1]
  rfl
theorem v_delT {p : Nat} (hn : d.1 ≤ 6) (h1 : d.2.1 1 0 = nI td) (hp : p < 8) : gn_delegateToday d (nI p) = some (f_X3_otherOn (ds d.2.1 p) (nI td)) ∧ gm_delegateToday d (nI p) = some (f_X3_otherOn (ds d.2.1 p) (nI td)) := by
  unfold gn_delegateToday gm_delegateToday f_X4_delegateToday
  rw [if_pos hn, if_pos hn, std_at hp, xb_inr, h1]
  exact ⟨rfl, rfl⟩
theorem v_sgF {p : Nat} (hn : d.1 ≤ 6) (hp : p < 8) : gn_signedFor d (nI p) = some (d.2.1 (3 + p) 4) ∧ gm_signedFor d (nI p) = some (d.2.1 (3 + p) 4) := by
  unfold gn_signedFor gm_signedFor f_X4_signedFor
  rw [if_pos hn, if_pos hn, std_at hp, xb_inr]
  exact ⟨rfl, rfl⟩
end
