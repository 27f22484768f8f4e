/-! A look at an envelope, on both sides -/
section
theorem sta_le (c : Nat) (K sl : Nat → Nat) : ∀ i, sta c K sl i ≤ 5
  | 0 => Nat.zero_le _
  | i + 1 => by
    have ih := sta_le c K sl i
    rw [sta]
    unfold endS
    repeat' split
    all_goals omega
theorem open_told {τ τ' : SS} {st sg op : Nat} {on : Nat → Int32} {rm : Nat → Nat} (h : Told τ τ' st sg op on rm) (hst : st ≤ 5) : f_X5_open τ' = nI (if st = 1 then dif op sg else 0) := by
  obtain ⟨-, h18, h19, h20, -, -⟩ := h
  unfold f_X5_open
  rw [h18, h19, h20, i_dif]
  by_cases h1 : st = 1
  · rw [h1, if_pos (show nI 1 = 1 from rfl), if_pos rfl]
  · rw [if_neg (show ¬ nI st = 1 from fun e => h1 ((nI_eq (b := 1) (by omega) (by decide)).mp e)), if_neg h1]; rfl
theorem RefE.keep {τ τ' : SS} {k c len pc tm : Nat} {bf pr K dy : Nat → Nat} {pe se : Nat → Int32} (h : RefE τ k c len pc tm bf pr K dy pe se) (hk : Keep τ τ') : RefE τ' k c len pc tm bf pr K dy pe se := by
  obtain ⟨r1, r2, r3, r4, r5, r6⟩ := h
  refine ⟨by rw [hk 2 (by decide)]; exact r1, by rw [hk 3 (by decide)]; exact r2, by rw [hk 4 (by decide)]; exact r3, by rw [hk 5 (by decide)]; exact r4, fun j hj => ?_, fun i hi => ?_⟩
  · rw [hk 6 (by decide), hk 7 (by decide)]; exact r5 j hj
  · rw [hk 8 (by decide), hk 9 (by decide), hk 10 (by decide), hk 11 (by decide)]; exact r6 i hi
theorem look {td c len pc tm k : Nat} {τ τ1 : SS} {bf pr K sl dy : Nat → Nat} {pe se : Nat → Int32} (hk : k < 6) (hse : ∀ i, i < len → (K i = 1 ∨ K i = 2 ∨ K i = 6) → se i = nI (sl i)) (hw : Wf td c len bf pr K sl dy) (hr : RefE τ k c len pc tm bf pr K dy pe se) (h1 : Keep τ τ1) :
    ∃ τ', f_X5_looks τ1 (nI k) = some τ' ∧ Told τ1 τ' (sta c K sl len) (sgn K sl len) (opd c bf K sl len) (onn (τ1 21) c bf K sl (fun i => nI (dy i)) len) (rmd K sl len) ∧ Keep τ τ' := by
  have hr1 := hr.keep h1
  obtain ⟨hS, hV⟩ := EI_tell hk hse hw hr1
  obtain ⟨τ', h2, h3⟩ := looks_tell hS hV (by have := hw.2.1; omega) hr1.2.2.2.1
  exact ⟨τ', h2, h3, h1.tr h3.keep⟩
theorem Told.t24 {τ τ' : SS} {st sg op : Nat} {on : Nat → Int32} {rm : Nat → Nat} (h : Told τ τ' st sg op on rm) : τ' 24 = τ 24 := h.1 24 (by decide)
theorem Wf.sg {td c len : Nat} {bf pr K sl dy : Nat → Nat} (hw : Wf td c len bf pr K sl dy) : ∀ i, i ≤ len → sgn K sl i < 2 ^ c := sgn_lt (fun i hi h => ((hw.2.2.2.1 i hi).2.2.2.2.1 (by omega)).1)
theorem Wf.op {td c len : Nat} {bf pr K sl dy : Nat → Nat} (hw : Wf td c len bf pr K sl dy) : ∀ i, i ≤ len → opd c bf K sl i < 2 ^ c := by
  intro i hi
  cases i with
  | zero => exact Nat.two_pow_pos c
  | succ i =>
    have h0 : K 0 = 0 := ((hw.2.2.2.1 0 (by omega)).2.2.1).mp rfl
    rw [opd_rdy h0 (i + 1) (by omega)]
    exact rdy_lt _ _ _
theorem lt8 {a c : Nat} (h : a < 2 ^ c) (hc : c ≤ 8) : a < 256 := Nat.lt_of_lt_of_le h (pu_p8 hc)
theorem sa_today : SA_today Inv := by
  intro t n σ0 σ τ ht hI
  obtain ⟨td, htd, hD, hE⟩ := id hI
  refine ⟨va_up τ 24 (fun _ => 0), ?_, hI.keep k24⟩
  unfold f_X5_today f_X5_told f_X4_today
  simp only [lt]
  rw [hD.2.1, hD.2.2.1]
theorem sa_envelopes : SA_envelopes Inv := by
  intro t n σ0 σ τ ht hI
  obtain ⟨td, htd, hD, hE⟩ := id hI
  refine ⟨va_up τ 24 (fun _ => 0), ?_, hI.keep k24⟩
  unfold f_X5_envelopes f_X5_told f_X4_envelopes
  simp only [lt]
  rw [hD.2.2.2.1]
theorem sa_state : SA_state Inv := by
  intro t n σ0 σ τ x1 ht hI
  obtain ⟨td, htd, hD, hE⟩ := id hI
  rcases env_cases hD.1 hD.2.2.2.1 x1 with ⟨e1, e2⟩ | ⟨k, hk, rfl, e1, e2⟩
  · refine ⟨0, va_up τ 24 (fun _ => 1), ?_, Or.inr ⟨?_, hI.keep k24, by rw [up_eq]⟩⟩
    · unfold f_X5_state; rw [e1]; simp only [goes1]; rw [if_pos trivial]
    · unfold f_X4_state; rw [e2]; rfl
  · obtain ⟨c, len, pc, tm, bf, pr, K, sl, dy, pe, se, k6, hpc, htm, hse, hw, hr, hc⟩ := hE k hk
    obtain ⟨τ', l1, l2, l3⟩ := look k6 hse hw hr (k24 (v := fun _ => 0))
    refine ⟨τ' 18 0, τ', ?_, Or.inl ⟨?_, hI.keep l3, by rw [l2.t24, up_eq]⟩⟩
    · unfold f_X5_state; rw [e1]; simp only [goes0]; rw [if_neg (by decide), l1]; rfl
    · unfold f_X4_state; rw [e2, xb_inr, l2.2.1, hc.2.2.2.2.2.2.1]
theorem sa_slots : SA_slots Inv := by
  intro t n σ0 σ τ x1 ht hI
  obtain ⟨td, htd, hD, hE⟩ := id hI
  rcases env_cases hD.1 hD.2.2.2.1 x1 with ⟨e1, e2⟩ | ⟨k, hk, rfl, e1, e2⟩
  · refine ⟨0, va_up τ 24 (fun _ => 1), ?_, Or.inr ⟨?_, hI.keep k24, by rw [up_eq]⟩⟩
    · unfold f_X5_slots; rw [e1]; simp only [goes1]; rw [if_pos trivial]
    · unfold f_X4_slots; rw [e2]; rfl
  · obtain ⟨c, len, pc, tm, bf, pr, K, sl, dy, pe, se, k6, hpc, htm, hse, hw, hr, hc⟩ := hE k hk
    refine ⟨nI c, va_up τ 24 (fun _ => 0), ?_, Or.inl ⟨?_, hI.keep k24, by rw [up_eq]⟩⟩
    · unfold f_X5_slots; rw [e1]; simp only [goes0]; rw [if_neg (by decide), if_pos (inb9 k6 (by decide)), cl9 (by omega), up_ne (by decide), hr.1]
    · unfold f_X4_slots; rw [e2, xb_inr, hc.1]
theorem sa_events : SA_events Inv := by
  intro t n σ0 σ τ x1 ht hI
  obtain ⟨td, htd, hD, hE⟩ := id hI
  rcases env_cases hD.1 hD.2.2.2.1 x1 with ⟨e1, e2⟩ | ⟨k, hk, rfl, e1, e2⟩
  · refine ⟨0, va_up τ 24 (fun _ => 1), ?_, Or.inr ⟨?_, hI.keep k24, by rw [up_eq]⟩⟩
    · unfold f_X5_events; rw [e1]; simp only [goes1]; rw [if_pos trivial]
    · unfold f_X4_events; rw [e2]; rfl
  · obtain ⟨c, len, pc, tm, bf, pr, K, sl, dy, pe, se, k6, hpc, htm, hse, hw, hr, hc⟩ := hE k hk
    refine ⟨nI len, va_up τ 24 (fun _ => 0), ?_, Or.inl ⟨?_, hI.keep k24, by rw [up_eq]⟩⟩
    · unfold f_X5_events; rw [e1]; simp only [goes0]; rw [if_neg (by decide), if_pos (inb9 k6 (by decide)), cl9 (by omega), up_ne (by decide), hr.2.2.2.1]
    · unfold f_X4_events; rw [e2, xb_inr, hc.2.2.2.1]
theorem has5' (a : Nat) {k : Nat} (hk : k < 31) : (f_X5_has (nI a) (nI k) = 0) = (a.testBit k = false) := by
  rw [has5 a hk]
  cases a.testBit k <;> simp
theorem has4' (a : Nat) {k : Nat} (hk : k < 31) : (f_X4_has (nI a) (nI k) = 0) = (a.testBit k = false) := by
  rw [has4 a hk]
  cases a.testBit k <;> simp
end
