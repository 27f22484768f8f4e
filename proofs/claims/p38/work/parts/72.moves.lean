/-! What the desk's changing calls answer, in their own terms -/
section
variable {d : Dk} {e c p j : Nat} {σ' : SS}
theorem up_lt6 {n e : Nat} (h : n ≤ e) (h6 : e < 6) : f_X4_envelopeAt n (nI e) = some (.inl IOB) := env_no h (by omega)
-- drafts
theorem x_draft_ok (hn : d.1 < 6) : gm_draft d = some (nI d.1, d.1 + 1, d.2.1, va_up d.2.2 d.1 (fun _ _ => 0)) := by unfold gm_draft; rw [if_pos hn]
theorem x_draft_no (hn : d.1 = 6) : gm_draft d = some (-1000003, d) := by unfold gm_draft; rw [if_neg (by omega), if_pos hn]
theorem x_addSlot_no (hn : d.1 ≤ 6) (he : d.1 ≤ e) (h6 : e < 6) (x y : Int32) : gm_addSlot d (nI e) x y = some (-1000001, d) := by
  unfold gm_addSlot f_X4_addSlot
  rw [if_pos hn, up_lt6 he h6]
  rfl
theorem all_slots {σ : SS} (h10 : σ 10 0 = nI c) (hc : c ≤ 8) : f_X0_allSlots σ = nI (2 ^ c - 1) := by unfold f_X0_allSlots; rw [h10, i_all hc]
theorem x_addSlot_st {b s : Nat} (hn : d.1 ≤ 6) (he : e < d.1) (h10 : d.2.2 e 10 0 = nI c) (hc : c ≤ 8) (h11 : d.2.2 e 11 0 = nI s) (hs : s ≤ 5) (hp : p < 8) (hb : b < 2 ^ c) (h : ¬ s = 0 ∨ c = 8) : gm_addSlot d (nI e) (nI p) (nI b) = some (-1000003, d) := by
  have hpw := pu_p8 hc
  unfold gm_addSlot f_X4_addSlot
  rw [if_pos hn, env_at he hn, xb_inr, per_at hp, xb_inr, if_neg (nI_pos (by omega)), all_slots h10 hc, if_pos (nI_le (by omega) (by omega))]
  by_cases h0 : s = 0
  · subst h0
    rw [nodraft0 h11, xb_inr, h10, if_neg (show ¬ nI c < 8 from nI_nlt (b := 8) (by omega) (by omega))]
    show some (cE ISE, d) = _
    rw [cE_ISE]
  · rw [nodraft1 h11 hs h0]
    show some (cE ISE, d) = _
    rw [cE_ISE]
theorem x_addSlot_ok {b : Nat} (hn : d.1 ≤ 6) (he : e < d.1) (h10 : d.2.2 e 10 0 = nI c) (hc : c < 8) (h11 : d.2.2 e 11 0 = nI 0) (hp : p < 8) (hb : b < 2 ^ c) (ha : f_X0_append (d.2.2 e) (nI p) (nI b) = some σ') (h10' : σ' 10 0 = nI (c + 1)) : gm_addSlot d (nI e) (nI p) (nI b) = some (nI c, d.1, d.2.1, va_up d.2.2 e σ') := by
  have hpw := pu_p8 (show c ≤ 8 by omega)
  unfold gm_addSlot f_X4_addSlot
  rw [if_pos hn, env_at he hn, xb_inr, per_at hp, xb_inr, if_neg (nI_pos (by omega)), all_slots h10 (by omega), if_pos (nI_le (by omega) (by omega)), nodraft0 h11, xb_inr, h10, if_pos (show nI c < 8 from nI_lt (b := 8) hc (by decide)), ha, Option.bind_some]
  show some (σ' 10 0 - (1 : Int32), d.1, d.2.1, va_up d.2.2 e σ') = _
  rw [h10', nI_pred9]
theorem x_addSlot_8 (hn : d.1 ≤ 6) (h6 : e < 6) : gm_addSlot d (nI e) 8 (-1) = some (-1000001, d) := by
  unfold gm_addSlot f_X4_addSlot
  rw [if_pos hn]
  rcases Nat.lt_or_ge e d.1 with h | h
  · rw [env_at h hn, xb_inr, show f_X4_refuseNoPerson 8 = some (.inl IOB) from by decide]; rfl
  · rw [up_lt6 h h6]; rfl
theorem x_addSlot_00 (hn : d.1 ≤ 6) : gm_addSlot d 0 0 (-1) = some (if d.1 = 0 then -1000001 else -1000002, d) := by
  unfold gm_addSlot f_X4_addSlot
  rw [if_pos hn]
  by_cases h : d.1 = 0
  · have h2 := up_lt6 (n := d.1) (e := 0) (by omega) (by omega)
    have h2 : f_X4_envelopeAt d.1 0 = some (.inl IOB) := h2
    rw [h2, if_pos h]; rfl
  · have h2 := env_at (k := 0) (show 0 < d.1 by omega) hn
    have h2 : f_X4_envelopeAt d.1 0 = some (.inr 0) := h2
    have h3 := per_at (p := 0) (by omega)
    have h3 : f_X4_refuseNoPerson 0 = some (.inr ()) := h3
    rw [h2, xb_inr, h3, xb_inr, if_pos (by decide), if_neg h]
    show some (cE IAE, d) = _
    rw [cE_IAE]
theorem x_addRound_no (hn : d.1 ≤ 6) (he : d.1 ≤ e) (h6 : e < 6) (x : Int32) : gm_addRound d (nI e) x = some (-1000001, d) := by
  unfold gm_addRound f_X4_addRound
  rw [if_pos hn, up_lt6 he h6]
  rfl
theorem x_addRound_0 (hn : d.1 ≤ 6) (he : e < d.1) : gm_addRound d (nI e) 0 = some (-1000002, d) := by
  unfold gm_addRound f_X4_addRound
  rw [if_pos hn, env_at he hn, xb_inr, if_pos (by decide)]
  show some (cE IAE, d) = _
  rw [cE_IAE]
theorem x_addRound_st {q s : Nat} (hn : d.1 ≤ 6) (he : e < d.1) (h10 : d.2.2 e 10 0 = nI c) (hc : c ≤ 8) (h11 : d.2.2 e 11 0 = nI s) (hs : s ≤ 5) (hq0 : 0 < q) (hq : q < 256) (h : ¬ s = 0 ∨ 8 < c + pcn q) : gm_addRound d (nI e) (nI q) = some (-1000003, d) := by
  have hpq := pcn_le q
  unfold gm_addRound f_X4_addRound
  rw [if_pos hn, env_at he hn, xb_inr, if_neg (show ¬ nI q < 1 from nI_nlt (b := 1) (by omega) (by omega)), if_pos (show nI q < 256 from nI_lt (b := 256) hq (by decide))]
  by_cases h0 : s = 0
  · subst h0
    rw [nodraft0 h11, xb_inr, h10, bc_pcn hq, nI_add, if_neg (show ¬ nI (c + pcn q) ≤ 8 from nI_ge (a := 8) (by omega) (by omega))]
    show some (cE ISE, d) = _
    rw [cE_ISE]
  · rw [nodraft1 h11 hs h0]
    show some (cE ISE, d) = _
    rw [cE_ISE]
theorem x_addRound_ok {q c' : Nat} {z : Int32} (hn : d.1 ≤ 6) (he : e < d.1) (h10 : d.2.2 e 10 0 = nI c) (hc : c ≤ 8) (h11 : d.2.2 e 11 0 = nI 0) (hq0 : 0 < q) (hq : q < 256) (h : c + pcn q ≤ 8) (hr : f_X4_addRound_65 FU d.1 d.2.1 d.2.2 e (d.2.2 e) (nI e) (nI q) (nI (2 ^ c - 1)) 0 = some (d.2.1, σ', z)) (h10' : σ' 10 0 = nI c') : gm_addRound d (nI e) (nI q) = some (nI c', d.1, d.2.1, va_up d.2.2 e σ') := by
  have hpq := pcn_le q
  unfold gm_addRound f_X4_addRound
  rw [if_pos hn, env_at he hn, xb_inr, if_neg (show ¬ nI q < 1 from nI_nlt (b := 1) (by omega) (by omega)), if_pos (show nI q < 256 from nI_lt (b := 256) hq (by decide)), nodraft0 h11, xb_inr, h10, bc_pcn hq, nI_add, if_pos (show nI (c + pcn q) ≤ 8 from nI_le (b := 8) (by omega) (by omega)), all_slots h10 hc, hr, Option.bind_some]
  show some (σ' 10 0, d.1, d.2.1, va_up d.2.2 e σ') = _
  rw [h10']
theorem x_times_no (hn : d.1 ≤ 6) (he : d.1 ≤ e) (h6 : e < 6) (x y : Int32) : gm_setTimes d (nI e) x y = some (-1000001, d) := by
  unfold gm_setTimes f_X4_setTimes
  rw [if_pos hn, up_lt6 he h6]
  rfl
theorem x_times_31 (hn : d.1 ≤ 6) (he : e < d.1) : gm_setTimes d (nI e) 31 0 = some (-1000002, d) := by
  unfold gm_setTimes f_X4_setTimes
  rw [if_pos hn, env_at he hn, xb_inr, if_neg (by decide), if_neg (by decide)]
  show some (cE IAE, d) = _
  rw [cE_IAE]
theorem x_times_st {pc tm s : Nat} (hn : d.1 ≤ 6) (he : e < d.1) (h11 : d.2.2 e 11 0 = nI s) (hs : s ≤ 5) (hpc : pc ≤ 30) (htm : tm ≤ 60) (h : ¬ s = 0) : gm_setTimes d (nI e) (nI pc) (nI tm) = some (-1000003, d) := by
  unfold gm_setTimes f_X4_setTimes
  rw [if_pos hn, env_at he hn, xb_inr, if_neg (nI_pos (by omega)), if_pos (show nI pc ≤ 30 from nI_le (b := 30) hpc (by decide)), if_neg (nI_pos (by omega)), if_pos (show nI tm ≤ 60 from nI_le (b := 60) htm (by decide)), nodraft1 h11 hs h]
  show some (cE ISE, d) = _
  rw [cE_ISE]
theorem x_times_ok {pc tm : Nat} (hn : d.1 ≤ 6) (he : e < d.1) (h11 : d.2.2 e 11 0 = nI 0) (hpc : pc ≤ 30) (htm : tm ≤ 60) : gm_setTimes d (nI e) (nI pc) (nI tm) = some (0, d.1, d.2.1, va_up d.2.2 e (va_up (va_up (d.2.2 e) 12 (fun _ => nI pc)) 13 (fun _ => nI tm))) := by
  unfold gm_setTimes f_X4_setTimes
  rw [if_pos hn, env_at he hn, xb_inr, if_neg (nI_pos (by omega)), if_pos (show nI pc ≤ 30 from nI_le (b := 30) hpc (by decide)), if_neg (nI_pos (by omega)), if_pos (show nI tm ≤ 60 from nI_le (b := 60) htm (by decide)), nodraft0 h11, xb_inr]
  rfl
theorem x_send_no (hn : d.1 ≤ 6) (he : d.1 ≤ e) (h6 : e < 2 ^ 31) : gm_send d (nI e) = some (-1000001, d) := by
  unfold gm_send f_X4_send
  rw [if_pos hn, env_no he h6]
  rfl
theorem x_send_st {s : Nat} (hn : d.1 ≤ 6) (he : e < d.1) (h10 : d.2.2 e 10 0 = nI c) (hc : c ≤ 8) (h11 : d.2.2 e 11 0 = nI s) (hs : s ≤ 5) (h : ¬ s = 0 ∨ c = 0) : gm_send d (nI e) = some (-1000003, d) := by
  unfold gm_send f_X4_send
  rw [if_pos hn, env_at he hn, xb_inr]
  by_cases h0 : s = 0
  · subst h0
    have hc0 : c = 0 := h.resolve_left (fun q => q rfl)
    rw [nodraft0 h11, xb_inr, h10, hc0, if_pos nI_0]
    show some (cE ISE, d) = _
    rw [cE_ISE]
  · rw [nodraft1 h11 hs h0]
    show some (cE ISE, d) = _
    rw [cE_ISE]
theorem x_send_ok {td v : Nat} (hn : d.1 ≤ 6) (he : e < d.1) (h1 : d.2.1 1 0 = nI td) (h10 : d.2.2 e 10 0 = nI c) (hc0 : 0 < c) (hc : c ≤ 8) (h11 : d.2.2 e 11 0 = nI 0) (hst : f_X0_start (d.2.2 e) (nI td) = some (nI v, σ')) : gm_send d (nI e) = some (nI v, d.1, d.2.1, va_up d.2.2 e σ') := by
  unfold gm_send f_X4_send
  rw [if_pos hn, env_at he hn, xb_inr, nodraft0 h11, xb_inr, h10, if_neg (nI_ne0 hc0 (by omega)), h1, hst, Option.bind_some]
  rfl
-- signing
theorem x_sign_no (hn : d.1 ≤ 6) (he : d.1 ≤ e) (h6 : e < 6) (hp : p < 8) (x : Int32) : gm_sign d (nI p) (nI e) x = some (-1000001, d) := by
  unfold gm_sign f_X4_sign
  rw [if_pos hn, per_at hp, xb_inr, up_lt6 he h6]
  rfl
theorem x_sign_sl (hn : d.1 ≤ 6) (he : e < d.1) (h10 : d.2.2 e 10 0 = nI c) (hp : p < 8) (hj : c ≤ j) (hb : j < 2 ^ 31) : gm_sign d (nI p) (nI e) (nI j) = some (-1000001, d) := by
  unfold gm_sign f_X4_sign
  rw [if_pos hn, per_at hp, xb_inr, env_at he hn, xb_inr, slot_no hj hb h10]
  rfl
theorem x_sign_st {r : Nat} (hn : d.1 ≤ 6) (he : e < d.1) (h10 : d.2.2 e 10 0 = nI c) (hc : c ≤ 8) (hp : p < 8) (hj : j < c) (hr : f_X4_reasonFor d.2.1 (d.2.2 e) (nI p) (nI j) = some (nI r)) (hr2 : 2 ≤ r) (hr5 : r ≤ 5) : gm_sign d (nI p) (nI e) (nI j) = some (-1000003, d) := by
  unfold gm_sign f_X4_sign
  rw [if_pos hn, per_at hp, xb_inr, env_at he hn, xb_inr, slot_at hj hc h10, xb_inr, hr, Option.bind_some, if_neg (show ¬ nI r = 0 from fun q => by have := (nI_zero (by omega)).mp q; omega), if_neg (show ¬ nI r = 1 from fun q => by have := (nI_eq (b := 1) (by omega) (by decide)).mp q; omega)]
  show some (cE ISE, d) = _
  rw [cE_ISE]
theorem x_sign_0 {td v : Nat} (hn : d.1 ≤ 6) (he : e < d.1) (h1 : d.2.1 1 0 = nI td) (h10 : d.2.2 e 10 0 = nI c) (hc : c ≤ 8) (hp : p < 8) (hj : j < c) (hr : f_X4_reasonFor d.2.1 (d.2.2 e) (nI p) (nI j) = some (nI 0)) (hm : f_X0_mark (d.2.2 e) (nI 1) (nI p) (nI j) (nI td) = some (nI v, σ')) : gm_sign d (nI p) (nI e) (nI j) = some (nI v, d.1, d.2.1, va_up d.2.2 e σ') := by
  have hm : f_X0_mark (d.2.2 e) 1 (nI p) (nI j) (nI td) = some (nI v, σ') := hm
  unfold gm_sign f_X4_sign
  rw [if_pos hn, per_at hp, xb_inr, env_at he hn, xb_inr, slot_at hj hc h10, xb_inr, hr, Option.bind_some, if_pos (show nI 0 = (0 : Int32) from rfl), if_pos (show nI 0 = (0 : Int32) from rfl), h1, hm, Option.bind_some]
  rfl
/-- one more signed in the place of a person -/
def bump (σ0 : SS) (o : Nat) : SS := va_up σ0 (3 + o) (upd (σ0 (3 + o)) 4 (σ0 (3 + o) 4 + (1 : Int32)))
theorem x_sign_1 {td v o : Nat} (hn : d.1 ≤ 6) (he : e < d.1) (h1 : d.2.1 1 0 = nI td) (h10 : d.2.2 e 10 0 = nI c) (hc : c ≤ 8) (hp : p < 8) (hj : j < c) (ho : d.2.2 e 0 j = nI o) (ho8 : o < 8) (hr : f_X4_reasonFor d.2.1 (d.2.2 e) (nI p) (nI j) = some (nI 1)) (hm : f_X0_mark (d.2.2 e) (nI 2) (nI p) (nI j) (nI td) = some (nI v, σ')) : gm_sign d (nI p) (nI e) (nI j) = some (nI v, d.1, bump d.2.1 o, va_up d.2.2 e σ') := by
  have hm : f_X0_mark (d.2.2 e) 2 (nI p) (nI j) (nI td) = some (nI v, σ') := hm
  have h1' : va_up d.2.1 (3 + o) (upd (d.2.1 (3 + o)) 4 (d.2.1 (3 + o) 4 + (1 : Int32))) 1 0 = nI td := by rw [up_ne (by omega)]; exact h1
  unfold gm_sign f_X4_sign
  rw [if_pos hn, per_at hp, xb_inr, env_at he hn, xb_inr, slot_at hj hc h10, xb_inr, hr, Option.bind_some, if_neg (show ¬ nI 1 = (0 : Int32) by decide), if_pos (show nI 1 = (1 : Int32) from rfl), if_neg (show ¬ nI 1 = (0 : Int32) by decide), rg9 (by omega) (by decide), ho, std_at ho8, xb_inr]
  simp only [lt]
  rw [h1', hm, Option.bind_some]
  rfl
theorem x_decl_no (hn : d.1 ≤ 6) (he : d.1 ≤ e) (h6 : e < 6) (hp : p < 8) (x : Int32) : gm_decline d (nI p) (nI e) x = some (-1000001, d) := by
  unfold gm_decline f_X4_decline
  rw [if_pos hn, per_at hp, xb_inr, up_lt6 he h6]
  rfl
theorem x_decl_sl (hn : d.1 ≤ 6) (he : e < d.1) (h10 : d.2.2 e 10 0 = nI c) (hp : p < 8) (hj : c ≤ j) (hb : j < 2 ^ 31) : gm_decline d (nI p) (nI e) (nI j) = some (-1000001, d) := by
  unfold gm_decline f_X4_decline
  rw [if_pos hn, per_at hp, xb_inr, env_at he hn, xb_inr, slot_no hj hb h10]
  rfl
theorem x_decl_st {r : Nat} (hn : d.1 ≤ 6) (he : e < d.1) (h10 : d.2.2 e 10 0 = nI c) (hc : c ≤ 8) (hp : p < 8) (hj : j < c) (hr : f_X4_reasonFor d.2.1 (d.2.2 e) (nI p) (nI j) = some (nI r)) (hr2 : 1 ≤ r) (hr5 : r ≤ 5) : gm_decline d (nI p) (nI e) (nI j) = some (-1000003, d) := by
  unfold gm_decline f_X4_decline
  rw [if_pos hn, per_at hp, xb_inr, env_at he hn, xb_inr, slot_at hj hc h10, xb_inr, hr, Option.bind_some, if_neg (show ¬ nI r = 0 from fun q => by have := (nI_zero (by omega)).mp q; omega)]
  show some (cE ISE, d) = _
  rw [cE_ISE]
theorem x_decl_ok {td v : Nat} (hn : d.1 ≤ 6) (he : e < d.1) (h1 : d.2.1 1 0 = nI td) (h10 : d.2.2 e 10 0 = nI c) (hc : c ≤ 8) (hp : p < 8) (hj : j < c) (hr : f_X4_reasonFor d.2.1 (d.2.2 e) (nI p) (nI j) = some (nI 0)) (hf : f_X0_finish (d.2.2 e) (nI 3) (nI 3) (nI p) (nI j) (nI td) = (nI v, σ')) : gm_decline d (nI p) (nI e) (nI j) = some (nI v, d.1, d.2.1, va_up d.2.2 e σ') := by
  have hf : f_X0_finish (d.2.2 e) 3 3 (nI p) (nI j) (nI td) = (nI v, σ') := hf
  unfold gm_decline f_X4_decline
  rw [if_pos hn, per_at hp, xb_inr, env_at he hn, xb_inr, slot_at hj hc h10, xb_inr, hr, Option.bind_some, if_pos (show nI 0 = (0 : Int32) from rfl), h1, hf]
  rfl
theorem x_canc_no (hn : d.1 ≤ 6) (he : d.1 ≤ e) (h6 : e < 6) : gm_cancel d (nI e) = some (-1000001, d) := by
  unfold gm_cancel f_X4_cancel
  rw [if_pos hn, up_lt6 he h6]
  rfl
theorem x_canc_st {s : Nat} (hn : d.1 ≤ 6) (he : e < d.1) (h11 : d.2.2 e 11 0 = nI s) (hs : s ≤ 5) (h : ¬ s = 1) : gm_cancel d (nI e) = some (-1000003, d) := by
  unfold gm_cancel f_X4_cancel
  rw [if_pos hn, env_at he hn, xb_inr, h11, if_neg (show ¬ nI s = 1 from fun q => h ((nI_eq (b := 1) (by omega) (by decide)).mp q))]
  show some (cE ISE, d) = _
  rw [cE_ISE]
theorem x_canc_ok {td v : Nat} (hn : d.1 ≤ 6) (he : e < d.1) (h1 : d.2.1 1 0 = nI td) (h11 : d.2.2 e 11 0 = nI 1) (hf : f_X0_finish (d.2.2 e) (nI 4) (nI 4) (-1) (-1) (nI td) = (nI v, σ')) : gm_cancel d (nI e) = some (nI v, d.1, d.2.1, va_up d.2.2 e σ') := by
  have hf : f_X0_finish (d.2.2 e) 4 4 (-1) (-1) (nI td) = (nI v, σ') := hf
  unfold gm_cancel f_X4_cancel
  rw [if_pos hn, env_at he hn, xb_inr, h11, if_pos (show nI 1 = (1 : Int32) from rfl), h1, hf]
  rfl
-- delegates
def setD (σ0 : SS) (p : Nat) (o x y z : Int32) : SS := va_up σ0 (3 + p) (upd (upd (upd (upd (σ0 (3 + p)) 0 o) 1 x) 2 y) 3 z)
theorem up_up {α : Type} {f : Nat → α} {i : Nat} {x y : α} : va_up (va_up f i x) i y = va_up f i y := by
  funext k
  by_cases h : k = i
  · subst h; rw [up_eq, up_eq]
  · rw [up_ne h, up_ne h, up_ne h]
theorem x_dele_ok {q : Nat} {x y : Int32} {z : Nat} (hn : d.1 ≤ 6) (hp : p < 8) (hq : q < 8) (hpq : p ≠ q) (hx : ¬ x < d.2.1 1 0) (hxy : x ≤ y) (hz1 : 1 ≤ z) (hz9 : z ≤ 9) : gm_delegate d (nI p) (nI q) x y (nI z) = some (d.2.1 (3 + p) 0, d.1, setD d.2.1 p (nI q) x y (nI z), d.2.2) := by
  unfold gm_delegate f_X4_delegate
  rw [if_pos hn, std_at hp, xb_inr, per_at hq, xb_inr, if_neg (fun h => hpq ((nI_eq (by omega) (by omega)).mp h)), if_neg hx, if_pos hxy, if_neg (show ¬ nI z < 1 from nI_nlt (b := 1) hz1 (by omega)), if_pos (show nI z ≤ 9 from nI_le (b := 9) hz9 (by decide))]
  simp only [lt]
  show some (d.2.1 (3 + p) 0, d.1, va_up (va_up (va_up (va_up d.2.1 (3 + p) (upd (d.2.1 (3 + p)) 0 (nI q))) (3 + p) _) (3 + p) _) (3 + p) _, d.2.2) = _
  simp only [up_up, up_eq]
  rfl
theorem x_dele_st {q : Nat} {x y : Int32} {z : Nat} (hn : d.1 ≤ 6) (hp : p < 8) (hq : q < 8) (hz : z < 2 ^ 31) (h : p = q ∨ x < d.2.1 1 0 ∨ ¬ x ≤ y ∨ z < 1 ∨ 9 < z) : gm_delegate d (nI p) (nI q) x y (nI z) = some (-1000002, d) := by
  have hh : f_X4_delegate d.1 d.2.1 d.2.2 (nI p) (nI q) x y (nI z) = some (.inl IAE) := by
    unfold f_X4_delegate
    rw [std_at hp, xb_inr, per_at hq, xb_inr]
    by_cases h1 : p = q
    · rw [if_pos (by rw [h1])]; rfl
    · rw [if_neg (fun h => h1 ((nI_eq (by omega) (by omega)).mp h))]
      by_cases h2 : x < d.2.1 1 0
      · rw [if_pos h2]; rfl
      · rw [if_neg h2]
        by_cases h3 : x ≤ y
        · rw [if_pos h3]
          by_cases h4 : z < 1
          · rw [if_pos (show nI z < 1 from nI_lt (b := 1) h4 (by decide))]; rfl
          · rw [if_neg (show ¬ nI z < 1 from nI_nlt (b := 1) (by omega) hz), if_neg (show ¬ nI z ≤ 9 from nI_ge (a := 9) (by rcases h with h | h | h | h | h; exact absurd h h1; exact absurd h h2; exact absurd h3 h; omega; exact h) hz)]; rfl
        · rw [if_neg h3]; rfl
  unfold gm_delegate
  rw [if_pos hn, hh]
  show some (cE IAE, d) = _
  rw [cE_IAE]
theorem x_revo_no (hn : d.1 ≤ 6) (hp : p < 8) (h : d.2.1 (3 + p) 0 = -1) : gm_revoke d (nI p) = some (-1000003, d) := by
  unfold gm_revoke f_X4_revoke
  rw [if_pos hn, std_at hp, xb_inr, if_pos h]
  show some (cE ISE, d) = _
  rw [cE_ISE]
def unD (σ0 : SS) (p : Nat) : SS := va_up σ0 (3 + p) (upd (σ0 (3 + p)) 0 (-1))
theorem x_revo_ok (hn : d.1 ≤ 6) (hp : p < 8) (h : ¬ d.2.1 (3 + p) 0 = -1) : gm_revoke d (nI p) = some (d.2.1 (3 + p) 0, d.1, unD d.2.1 p, d.2.2) := by
  unfold gm_revoke f_X4_revoke
  rw [if_pos hn, std_at hp, xb_inr, if_neg h]
  rfl
end
