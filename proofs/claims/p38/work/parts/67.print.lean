/-! Two desks of one state; print; how many slots a person may sign -/
section
def DK (td : Nat) (d : Dk) : Prop := d.1 ≤ 6 ∧ d.2.1 1 0 = nI td ∧ ∀ e, e < d.1 → ∃ (c len pc tm : Nat) (bf pr K sl dy : Nat → Nat) (pe se : Nat → Int32), CE td (d.2.2 e) c len pc tm bf pr K sl dy pe se
def Twin (d u : Dk) : Prop := u.1 = d.1 ∧ u.2.2 = d.2.2 ∧ ∀ x, x ≠ 2 → u.2.1 x = d.2.1 x
theorem Twin.dk {td : Nat} {d u : Dk} (h : Twin d u) (hd : DK td d) : DK td u := by
  obtain ⟨h1, h2, h3⟩ := hd
  refine ⟨by rw [h.1]; exact h1, by rw [h.2.2 1 (by decide)]; exact h2, fun e he => ?_⟩
  rw [h.2.1]
  exact h3 e (by rw [← h.1]; exact he)
theorem cg_ds {s s' : SS} (h : ∀ x, x ≠ 2 → s' x = s x) (p : Nat) : ds s' p = ds s p := by
  funext c i
  show s' (3 + p) c = s (3 + p) c
  rw [h _ (by omega)]
theorem cg_reason {s s' : SS} (h : ∀ x, x ≠ 2 → s' x = s x) (τ : SS) (x y : Int32) : f_X4_reasonFor s' τ x y = f_X4_reasonFor s τ x y := by
  unfold f_X4_reasonFor
  simp only [cg_ds h, h 1 (by decide), fun z => h (3 + z) (show 3 + z ≠ 2 by omega)]
theorem cg_26 {s s' : SS} (h : ∀ x, x ≠ 2 → s' x = s x) (n : Nat) (σ : Nat → SS) (k : Nat) (x1 : Int32) : ∀ (fu : Nat) (τ : SS) (x2 x3 x5 : Int32), f_X4_toSign_26 fu n s' σ k τ x1 x2 x3 x5 = f_X4_toSign_26 fu n s σ k τ x1 x2 x3 x5 := by
  intro fu
  induction fu with
  | zero => intro τ x2 x3 x5; rfl
  | succ fu ih =>
    intro τ x2 x3 x5
    rw [f_X4_toSign_26, f_X4_toSign_26]
    simp only [cg_reason h, ih]
theorem cg_8 {s s' : SS} (h : ∀ x, x ≠ 2 → s' x = s x) (n : Nat) (σ : Nat → SS) (x1 : Int32) : ∀ (fu : Nat) (x2 x3 : Int32), f_X4_toSign_8 fu n s' σ x1 x2 x3 = f_X4_toSign_8 fu n s σ x1 x2 x3 := by
  intro fu
  induction fu with
  | zero => intro x2 x3; rfl
  | succ fu ih =>
    intro x2 x3
    rw [f_X4_toSign_8, f_X4_toSign_8]
    simp only [cg_26 h, ih]
section
variable {d u : Dk}
theorem tw_today (h : Twin d u) : gn_today u = gn_today d := by unfold gn_today f_X4_today; rw [h.1, h.2.2 1 (by decide)]
theorem tw_envelopes (h : Twin d u) : gn_envelopes u = gn_envelopes d := by unfold gn_envelopes f_X4_envelopes; rw [h.1]
theorem tw_state (h : Twin d u) (x : Int32) : gn_state u x = gn_state d x := by unfold gn_state f_X4_state; rw [h.1, h.2.1]
theorem tw_slots (h : Twin d u) (x : Int32) : gn_slots u x = gn_slots d x := by unfold gn_slots f_X4_slots; rw [h.1, h.2.1]
theorem tw_events (h : Twin d u) (x : Int32) : gn_events u x = gn_events d x := by unfold gn_events f_X4_events; rw [h.1, h.2.1]
theorem tw_slotState (h : Twin d u) (x y : Int32) : gn_slotState u x y = gn_slotState d x y := by unfold gn_slotState f_X4_slotState; rw [h.1, h.2.1]
theorem tw_missing (h : Twin d u) (x y : Int32) : gn_missing u x y = gn_missing d x y := by unfold gn_missing f_X4_missing; rw [h.1, h.2.1]
theorem tw_seal (h : Twin d u) (x y : Int32) : gn_seal u x y = gn_seal d x y := by unfold gn_seal f_X4_seal; rw [h.1, h.2.1]
theorem tw_next (h : Twin d u) (x : Int32) : gn_nextReminder u x = gn_nextReminder d x := by unfold gn_nextReminder f_X4_nextReminder; rw [h.1, h.2.1, h.2.2 1 (by decide)]
theorem tw_nextm (h : Twin d u) (x : Int32) : gm_nextReminder u x = gm_nextReminder d x := by unfold gm_nextReminder f_X4_nextReminder; rw [h.1, h.2.1, h.2.2 1 (by decide)]
theorem tw_delT (h : Twin d u) (x : Int32) : gn_delegateToday u x = gn_delegateToday d x := by
  unfold gn_delegateToday f_X4_delegateToday
  simp only [h.1, cg_ds h.2.2, h.2.2 1 (by decide)]
theorem tw_sgF (h : Twin d u) (x : Int32) : gn_signedFor u x = gn_signedFor d x := by
  unfold gn_signedFor f_X4_signedFor
  simp only [h.1, fun z => h.2.2 (3 + z) (show 3 + z ≠ 2 by omega)]
theorem tw_toSign (h : Twin d u) (x : Int32) : gn_toSign u x = gn_toSign d x := by
  unfold gn_toSign f_X4_toSign
  rw [h.1, h.2.1]
  simp only [cg_8 h.2.2]
theorem tw_why (h : Twin d u) (x y z : Int32) : gm_whyNot u x y z = gm_whyNot d x y z := by
  unfold gm_whyNot f_X4_whyNot
  rw [h.1, h.2.1]
  simp only [cg_reason h.2.2]
theorem tw_121 (h : Twin d u) : ∀ n, f_L_print_121 u n = f_L_print_121 d n := by
  intro n
  induction n with
  | zero => funext x1 x3; rfl
  | succ n ih =>
    funext x1 x3
    rw [f_L_print_121, f_L_print_121, ih]
    simp only [tw_delT h, tw_sgF h, tw_toSign h]
theorem tw_69 (h : Twin d u) (r : Int64 → Int32 → Option Int64) : ∀ n, f_L_print_69 u r n = f_L_print_69 d r n := by
  intro n
  induction n with
  | zero => funext x1 x3 x4; rfl
  | succ n ih =>
    funext x1 x3 x4
    rw [f_L_print_69, f_L_print_69, ih]
    simp only [tw_slots h, tw_slotState h, tw_missing h]
theorem tw_18 (h : Twin d u) : ∀ n, f_L_print_18 u n = f_L_print_18 d n := by
  intro n
  induction n with
  | zero => funext x1 x3; rfl
  | succ n ih =>
    funext x1 x3
    rw [f_L_print_18, f_L_print_18, ih]
    simp only [tw_envelopes h, tw_state h, tw_events h, tw_seal h, tw_next h, tw_69 h, f_L_print_119, tw_121 h]
theorem tw_print (h : Twin d u) : f_L_print u = f_L_print d := by
  unfold f_L_print
  rw [tw_today h, tw_envelopes h, tw_18 h]
end
/-- 1 where the person may sign -/
def rz (σ0 : SS) (σ : Nat → SS) (p e j : Nat) : Nat := match f_X4_reasonFor σ0 (σ e) (nI p) (nI j) with
  | some v => if v = 0 ∨ v = 1 then 1 else 0
  | none => 0
def cz (σ : Nat → SS) (e : Nat) : Nat := (σ e 10 0).toNatClampNeg
theorem cz_eq {td e c len pc tm : Nat} {σ : Nat → SS} {bf pr K sl dy : Nat → Nat} {pe se : Nat → Int32} (hE : CE td (σ e) c len pc tm bf pr K sl dy pe se) : cz σ e = c := by
  unfold cz
  rw [hE.2.2.2.2.1, cl9 (by have := hE.2.2.2.1.1; omega)]
theorem rz_eq {td e c len pc tm p j : Nat} {σ0 : SS} {σ : Nat → SS} {bf pr K sl dy : Nat → Nat} {pe se : Nat → Int32} (h1 : σ0 1 0 = nI td) (hE : CE td (σ e) c len pc tm bf pr K sl dy pe se) (hp : p < 8) (hj : j < c) :
    rz σ0 σ p e j = if rsn σ0 td c bf pr K sl len p j < 2 then 1 else 0 := by
  have hle := rsn_le (σ0 := σ0) (td := td) (c := c) (bf := bf) (pr := pr) (K := K) (sl := sl) (len := len) (p := p) (j := j)
  unfold rz
  rw [reason_ok h1 hE hp hj]
  show (if nI _ = 0 ∨ nI _ = 1 then 1 else 0) = _
  by_cases h : rsn σ0 td c bf pr K sl len p j < 2
  · rw [if_pos h, if_pos]
    rcases (show rsn σ0 td c bf pr K sl len p j = 0 ∨ rsn σ0 td c bf pr K sl len p j = 1 by omega) with e | e
    · exact Or.inl (by rw [e]; rfl)
    · exact Or.inr (by rw [e]; rfl)
  · rw [if_neg h, if_neg]
    rintro (e | e)
    · have := (nI_zero (by omega)).mp e; omega
    · have := (nI_eq (b := 1) (by omega) (by decide)).mp e; omega
theorem ts26 {td n e c len pc tm p A : Nat} {σ0 : SS} {σ : Nat → SS} {bf pr K sl dy : Nat → Nat} {pe se : Nat → Int32} (h1 : σ0 1 0 = nI td) (hE : CE td (σ e) c len pc tm bf pr K sl dy pe se) (hp : p < 8) (x3 : Int32) :
    ∀ (m j : Nat) (τ : SS), j + m = c → ∀ fu, m < fu → ∃ z, f_X4_toSign_26 fu n σ0 σ e τ (nI p) (nI (A + smj (rz σ0 σ p e) j)) x3 (nI j) = some (nI (A + smj (rz σ0 σ p e) c), z) := by
  have h8 := hE.2.2.2.1.1
  intro m
  induction m with
  | zero =>
    intro j τ hj fu hfu
    obtain ⟨fu, rfl⟩ : ∃ g, fu = g + 1 := ⟨fu - 1, by omega⟩
    obtain rfl : j = c := by omega
    exact ⟨_, by rw [f_X4_toSign_26, hE.2.2.2.2.1, if_pos (nI_le (Nat.le_refl _) (by omega))]⟩
  | succ m ih =>
    intro j τ hj fu hfu
    obtain ⟨fu, rfl⟩ : ∃ g, fu = g + 1 := ⟨fu - 1, by omega⟩
    have hjc : j < c := by omega
    have hle := rsn_le (σ0 := σ0) (td := td) (c := c) (bf := bf) (pr := pr) (K := K) (sl := sl) (len := len) (p := p) (j := j)
    have ez := rz_eq h1 hE hp hjc
    have es : smj (rz σ0 σ p e) (j + 1) = smj (rz σ0 σ p e) j + rz σ0 σ p e j := rfl
    obtain ⟨z, hz⟩ := ih (j + 1) (σ e) (by omega) fu (by omega)
    refine ⟨z, ?_⟩
    rw [f_X4_toSign_26, hE.2.2.2.2.1, if_neg (nI_ge hjc (by omega)), reason_ok h1 hE hp hjc, Option.bind_some, s1, s1]
    by_cases h0 : rsn σ0 td c bf pr K sl len p j < 2
    · rw [if_pos h0] at ez
      rw [es, ez] at hz
      by_cases h2 : rsn σ0 td c bf pr K sl len p j = 0
      · rw [h2, if_pos nI_0]; exact hz
      · rw [if_neg (show ¬ nI (rsn σ0 td c bf pr K sl len p j) = 0 from fun e => h2 ((nI_zero (by omega)).mp e)), show rsn σ0 td c bf pr K sl len p j = 1 by omega, if_pos (show nI 1 = 1 from rfl)]; exact hz
    · rw [if_neg h0] at ez
      rw [es, ez] at hz
      rw [if_neg (show ¬ nI (rsn σ0 td c bf pr K sl len p j) = 0 from fun e => by have := (nI_zero (by omega)).mp e; omega), if_neg (show ¬ nI (rsn σ0 td c bf pr K sl len p j) = 1 from fun e => by have := (nI_eq (b := 1) (by omega) (by decide)).mp e; omega)]
      exact hz
def tsn (σ0 : SS) (σ : Nat → SS) (p : Nat) : Nat → Nat := smj (fun e => smj (rz σ0 σ p e) (cz σ e))
theorem ts8 {td p : Nat} {d : Dk} (hd : DK td d) (hp : p < 8) :
    ∀ (m e : Nat), e + m = d.1 → ∀ fu, m < fu → ∃ z, f_X4_toSign_8 fu d.1 d.2.1 d.2.2 (nI p) (nI (tsn d.2.1 d.2.2 p e)) (nI e) = some (nI (tsn d.2.1 d.2.2 p d.1), z) := by
  obtain ⟨hn, h1, hE⟩ := hd
  intro m
  induction m with
  | zero =>
    intro e he fu hfu
    obtain ⟨fu, rfl⟩ : ∃ g, fu = g + 1 := ⟨fu - 1, by omega⟩
    obtain rfl : e = d.1 := by omega
    exact ⟨_, by rw [f_X4_toSign_8, if_pos (nI_le (Nat.le_refl _) (by omega))]⟩
  | succ m ih =>
    intro e he fu hfu
    obtain ⟨fu, rfl⟩ : ∃ g, fu = g + 1 := ⟨fu - 1, by omega⟩
    obtain ⟨c, len, pc, tm, bf, pr, K, sl, dy, pe, se, hc⟩ := hE e (by omega)
    have h8 := hc.2.2.2.1.1
    obtain ⟨z, hz⟩ := ts26 (n := d.1) (A := tsn d.2.1 d.2.2 p e) h1 hc hp (nI e) c 0 (d.2.2 e) (by omega) FU (by unfold FU; omega)
    have hz : f_X4_toSign_26 FU d.1 d.2.1 d.2.2 e (d.2.2 e) (nI p) (nI (tsn d.2.1 d.2.2 p e)) (nI e) 0 = some (nI (tsn d.2.1 d.2.2 p e + smj (rz d.2.1 d.2.2 p e) c), z) := hz
    obtain ⟨z2, hz2⟩ := ih (e + 1) (by omega) fu (by omega)
    refine ⟨z2, ?_⟩
    rw [f_X4_toSign_8, if_neg (nI_ge (by omega) (by omega)), env_at (show e < d.1 by omega) hn, xn_inr, hz, Option.bind_some, s1]
    have et : tsn d.2.1 d.2.2 p (e + 1) = tsn d.2.1 d.2.2 p e + smj (rz d.2.1 d.2.2 p e) c := by
      show tsn d.2.1 d.2.2 p e + smj (rz d.2.1 d.2.2 p e) (cz d.2.2 e) = _
      rw [cz_eq hc]
    rw [et] at hz2
    exact hz2
theorem v_toSign {td p : Nat} {d : Dk} (hd : DK td d) (hp : p < 8) : gn_toSign d (nI p) = some (nI (tsn d.2.1 d.2.2 p d.1)) := by
  obtain ⟨z, hz⟩ := ts8 hd hp d.1 0 (by omega) FU (by have := hd.1; unfold FU; omega)
  have hz : f_X4_toSign_8 FU d.1 d.2.1 d.2.2 (nI p) 0 0 = some (nI (tsn d.2.1 d.2.2 p d.1), z) := hz
  unfold gn_toSign f_X4_toSign
  rw [if_pos hd.1, per_at hp, xb_inr, hz]
  rfl
/-! print answers -/
theorem p121 {td : Nat} {d : Dk} (hd : DK td d) : ∀ (m p : Nat) (x1 : Int64), p + m = 8 → ∀ fu, m < fu → ∃ y, f_L_print_121 d fu x1 (nI p) = some y := by
  intro m
  induction m with
  | zero =>
    intro p x1 hp fu hfu
    obtain ⟨fu, rfl⟩ : ∃ g, fu = g + 1 := ⟨fu - 1, by omega⟩
    obtain rfl : p = 8 := by omega
    exact ⟨x1, by rw [f_L_print_121, if_pos (show (8 : Int32) ≤ nI 8 by decide)]⟩
  | succ m ih =>
    intro p x1 hp fu hfu
    obtain ⟨fu, rfl⟩ : ∃ g, fu = g + 1 := ⟨fu - 1, by omega⟩
    rw [f_L_print_121, if_neg (show ¬ (8 : Int32) ≤ nI p from nI_ge (b := 8) (by omega) (by decide)), (v_delT hd.1 hd.2.1 (show p < 8 by omega)).1, Option.bind_some, (v_sgF hd.1 (show p < 8 by omega)).1, Option.bind_some, v_toSign hd (show p < 8 by omega), Option.bind_some, s1]
    exact ih (p + 1) _ (by omega) fu (by omega)
theorem p69 {td e c len pc tm : Nat} {d : Dk} {bf pr K sl dy : Nat → Nat} {pe se : Nat → Int32} (hd : DK td d) (he : e < d.1) (hE : CE td (d.2.2 e) c len pc tm bf pr K sl dy pe se) (r : Int64 → Int32 → Option Int64) : ∀ (m j : Nat) (x1 : Int64), j + m = c → ∀ fu, m < fu → ∃ y, f_L_print_69 d r fu x1 (nI e) (nI j) = r y (nI (e + 1)) := by
  have h8 := hE.2.2.2.1.1
  intro m
  induction m with
  | zero =>
    intro j x1 hj fu hfu
    obtain ⟨fu, rfl⟩ : ∃ g, fu = g + 1 := ⟨fu - 1, by omega⟩
    obtain rfl : j = c := by omega
    exact ⟨x1, by rw [f_L_print_69, (v_slots hd.1 he hE).1, Option.bind_some, if_pos (nI_le (Nat.le_refl _) (by omega)), s1]⟩
  | succ m ih =>
    intro j x1 hj fu hfu
    obtain ⟨fu, rfl⟩ : ∃ g, fu = g + 1 := ⟨fu - 1, by omega⟩
    rw [f_L_print_69, (v_slots hd.1 he hE).1, Option.bind_some, if_neg (nI_ge (by omega) (by omega)), (v_slotState hd.1 he hE (show j < c by omega)).1, Option.bind_some, v_missing hd.1 he hE (show j < c by omega), Option.bind_some, s1]
    exact ih (j + 1) _ (by omega) fu (by omega)
theorem p18 {td : Nat} {d : Dk} (htd : td < 2 ^ 30) (hd : DK td d) : ∀ (m e : Nat) (x1 : Int64), e + m = d.1 → ∀ fu, m < fu → ∃ y, f_L_print_18 d fu x1 (nI e) = some y := by
  have hn := hd.1
  intro m
  induction m with
  | zero =>
    intro e x1 he fu hfu
    obtain ⟨fu, rfl⟩ : ∃ g, fu = g + 1 := ⟨fu - 1, by omega⟩
    rw [f_L_print_18, v_envelopes d hn, Option.bind_some, if_pos (nI_le (show d.1 ≤ e by omega) (by omega))]
    exact p121 hd 8 0 x1 (by omega) FU (by unfold FU; omega)
  | succ m ih =>
    intro e x1 he fu hfu
    obtain ⟨fu, rfl⟩ : ∃ g, fu = g + 1 := ⟨fu - 1, by omega⟩
    have hen : e < d.1 := by omega
    obtain ⟨c, len, pc, tm, bf, pr, K, sl, dy, pe, se, hc⟩ := hd.2.2 e hen
    obtain ⟨v, hv, -⟩ := v_next htd hn hen hd.2.1 hc
    obtain ⟨y, hy⟩ := p69 hd hen hc (f_L_print_18 d fu) c 0 ((((41 : Int64) * (((41 : Int64) * (((41 : Int64) * x1) + (nI (sta c K sl len)).toInt64)) + (sealF K dy pe se len).toInt64)) + v.toInt64)) (by omega) FU (by have := hc.2.2.2.1.1; unfold FU; omega)
    rw [f_L_print_18, v_envelopes d hn, Option.bind_some, if_neg (nI_ge hen (by omega)), (v_state hn hen hc).1, Option.bind_some, v_events hn hen hc, Option.bind_some, v_seal hn hen hc (Nat.le_refl _), Option.bind_some, hv, Option.bind_some]
    have hy : f_L_print_69 d (f_L_print_18 d fu) FU ((((41 : Int64) * (((41 : Int64) * (((41 : Int64) * x1) + (nI (sta c K sl len)).toInt64)) + (sealF K dy pe se len).toInt64)) + v.toInt64)) (nI e) 0 = f_L_print_18 d fu y (nI (e + 1)) := hy
    rw [hy]
    exact ih (e + 1) y (by omega) fu (by omega)
theorem print_ok {td : Nat} {d : Dk} (htd : td < 2 ^ 30) (hd : DK td d) : ∃ y, f_L_print d = some y := by
  unfold f_L_print
  rw [v_today d hd.1, Option.bind_some, v_envelopes d hd.1, Option.bind_some]
  exact p18 htd hd d.1 0 _ (by omega) FU (by have := hd.1; unfold FU; omega)
end
