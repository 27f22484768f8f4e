/-! Histories: what events alone tell -/
section
def sgc (K : Nat → Nat) : Nat → Nat
  | 0 => 0
  | i + 1 => if K i = 1 ∨ K i = 2 then sgc K i + 1 else sgc K i
set_option maxRecDepth 4000 in
theorem pcn_add {a s : Nat} (ha : a < 256) (hs : s < 8) (h : a.testBit s = false) : pcn (a ||| 2 ^ s) = pcn a + 1 := (by decide +kernel : ∀ s, s < 8 → ∀ a, a < 256 → a.testBit s = false → pcn (a ||| 2 ^ s) = pcn a + 1) s hs a ha h
set_option maxRecDepth 4000 in
theorem pcn_all {a c : Nat} (hc : c ≤ 8) (h : a < 2 ^ c) : pcn a = c ↔ a = 2 ^ c - 1 := (by decide +kernel : ∀ c, c < 9 → ∀ a, a < 256 → a < 2 ^ c → (pcn a = c ↔ a = 2 ^ c - 1)) c (by omega) a (lt8 h hc) h
set_option maxRecDepth 4000 in
theorem pcn_c {a c : Nat} (hc : c ≤ 8) (h : a < 2 ^ c) : pcn a ≤ c := (by decide +kernel : ∀ c, c < 9 → ∀ a, a < 256 → a < 2 ^ c → pcn a ≤ c) c (by omega) a (lt8 h hc) h
theorem sgc_pcn {td c len : Nat} {bf pr K sl dy : Nat → Nat} (hw : Wf td c len bf pr K sl dy) : ∀ i, i ≤ len → sgc K i = pcn (sgn K sl i)
  | 0, _ => by rw [sgc, sgn]; decide
  | i + 1, hi => by
    have ih := sgc_pcn hw i (by omega)
    rw [sgc, sgn]
    by_cases hk : K i = 1 ∨ K i = 2
    · obtain ⟨h1, h2⟩ := (hw.2.2.2.1 i (by omega)).2.2.2.2.1 (by omega)
      have hc := hw.1
      rw [if_pos hk, if_pos hk, ih, pcn_add (lt8 (hw.sg i (by omega)) hw.1) (by omega) h2]
    · rw [if_neg hk, if_neg hk, ih]
theorem signing_iff {k : Nat} (h : k ≤ 6) : f_X1_isSigning (nI k) = if k = 1 ∨ k = 2 then 1 else 0 := (by decide +kernel : ∀ k, k < 7 → f_X1_isSigning (nI k) = if k = 1 ∨ k = 2 then 1 else 0) k (by omega)
theorem with_spec {k s : Nat} (h : k ≤ 6) (hs : s ≤ 5) (b : Int32) : f_X1_stateWith (nI k) (nI s) b = if k = 0 then 1 else if k = 1 ∨ k = 2 then (if b = 0 then nI s else 2) else if k = 6 then nI s else nI (endS k) := by
  rcases (show k = 0 ∨ k = 1 ∨ k = 2 ∨ k = 3 ∨ k = 4 ∨ k = 5 ∨ k = 6 by omega) with rfl | rfl | rfl | rfl | rfl | rfl | rfl <;> (unfold f_X1_stateWith endS; simp [show nI 0 = 0 from rfl, show nI 1 = 1 from rfl, show nI 2 = 2 from rfl, show nI 3 = 3 from rfl, show nI 4 = 4 from rfl, show nI 5 = 5 from rfl, show nI 6 = 6 from rfl])
theorem state_loop {σ : SS} {td c len s : Nat} {bf pr K sl dy : Nat → Nat} (hw : Wf td c len bf pr K sl dy) (hsl : s ≤ len) (hK : ∀ i, i < len → σ 5 i = nI (K i)) :
    ∀ (m i : Nat), i + m = s → ∀ fu, m < fu → ∃ z, f_X1_stateAfter_8 fu (hs σ) (nI s) (nI c) (nI (sta c K sl i)) (nI (sgc K i)) (nI i) = some (nI (sta c K sl s), z) := by
  have hc := hw.1
  have hl := hw.2.1
  intro m
  induction m with
  | zero =>
    intro i hi fu hfu
    obtain ⟨fu, rfl⟩ : ∃ g, fu = g + 1 := ⟨fu - 1, by omega⟩
    obtain rfl : i = s := by omega
    exact ⟨_, by rw [f_X1_stateAfter_8, if_pos (nI_le (Nat.le_refl _) (by omega))]⟩
  | succ m ih =>
    intro i hi fu hfu
    obtain ⟨fu, rfl⟩ : ∃ g, fu = g + 1 := ⟨fu - 1, by omega⟩
    obtain ⟨w1, w2, w3, w4, w5, w6⟩ := hw.2.2.2.1 i (by omega)
    have hst := sta_le c K sl i
    have ih := ih (i + 1) (by omega) fu (by omega)
    have hp := sgc_pcn hw (i + 1) (by omega)
    have hsg := hw.sg (i + 1) (by omega)
    have hle := pcn_c hc hsg
    have hall := pcn_all hc hsg
    rw [f_X1_stateAfter_8, if_neg (nI_ge (by omega) (by omega))]
    have e0 : rg 49 (hs σ 0) (nI i) = nI (K i) := by rw [rg9 (by omega) (by decide)]; exact hK i (by omega)
    simp only [e0, s1]
    rw [signing_iff w1]
    by_cases hk : K i = 1 ∨ K i = 2
    · have hk0 : ¬ K i = 0 := by omega
      rw [if_pos hk, if_neg (show ¬ (1 : Int32) = 0 by decide), with_spec w1 hst, with_spec w1 hst]
      simp only [if_neg hk0, if_pos hk, if_neg (show ¬ (1 : Int32) = 0 by decide), if_true]
      have e1 : sta c K sl i = 1 := w4 (by have := w3; omega)
      rw [sgc, if_pos hk] at hp
      rw [sta, if_neg (by omega), if_pos hk, sgc, if_pos hk] at ih
      by_cases ha : sgn K sl (i + 1) = 2 ^ c - 1
      · rw [if_pos ha] at ih
        rw [if_pos (show nI (sgc K i + 1) = nI c by congr 1; have := hall.mpr ha; omega)]
        exact ih
      · rw [if_neg ha] at ih
        have hne : ¬ pcn (sgn K sl (i + 1)) = c := fun h => ha (hall.mp h)
        rw [if_neg (fun e => hne (by have := (nI_eq (by omega) (by omega)).mp e; omega)), e1]
        exact ih
    · rw [if_neg hk, if_pos rfl, with_spec w1 hst, with_spec w1 hst, if_neg hk, if_neg hk, ite_self]
      rw [sta, if_neg hk, sgc, if_neg hk] at ih
      by_cases h0 : K i = 0
      · rw [if_pos h0] at ih ⊢
        exact ih
      · rw [if_neg h0] at ih ⊢
        by_cases h6 : K i = 6
        · rw [if_pos h6] at ih ⊢
          exact ih
        · rw [if_neg h6] at ih ⊢
          exact ih
theorem state_spec {σ : SS} {td c len s : Nat} {bf pr K sl dy : Nat → Nat} (hw : Wf td c len bf pr K sl dy) (hsl : s ≤ len) (hK : ∀ i, i < len → σ 5 i = nI (K i)) : f_X1_stateAfter (hs σ) (nI s) (nI c) = some (nI (sta c K sl s)) := by
  have hl := hw.2.1
  obtain ⟨z, h⟩ := state_loop hw hsl hK s 0 (by omega) FU (by unfold FU; omega)
  unfold f_X1_stateAfter
  rw [show (0 : Int32) = nI 0 from rfl]
  have h : f_X1_stateAfter_8 FU (hs σ) (nI s) (nI c) (nI 0) (nI 0) (nI 0) = some (nI (sta c K sl s), z) := h
  rw [h]
  rfl
theorem signed_loop {σ : SS} {td c len s : Nat} {bf pr K sl dy : Nat → Nat} (hw : Wf td c len bf pr K sl dy) (hsl : s ≤ len) (hK : ∀ i, i < len → σ 5 i = nI (K i)) (hS : ∀ i, i < len → (K i = 1 ∨ K i = 2 ∨ K i = 6) → σ 7 i = nI (sl i)) :
    ∀ (m i : Nat), i + m = s → ∀ fu, m < fu → ∃ z, f_X1_signedAfter_4 fu (hs σ) (nI s) (nI (sgn K sl i)) (nI i) = some (nI (sgn K sl s), z) := by
  have hc := hw.1
  have hl := hw.2.1
  intro m
  induction m with
  | zero =>
    intro i hi fu hfu
    obtain ⟨fu, rfl⟩ : ∃ g, fu = g + 1 := ⟨fu - 1, by omega⟩
    obtain rfl : i = s := by omega
    exact ⟨_, by rw [f_X1_signedAfter_4, if_pos (nI_le (Nat.le_refl _) (by omega))]⟩
  | succ m ih =>
    intro i hi fu hfu
    obtain ⟨fu, rfl⟩ : ∃ g, fu = g + 1 := ⟨fu - 1, by omega⟩
    obtain ⟨w1, w2, w3, w4, w5, w6⟩ := hw.2.2.2.1 i (by omega)
    have ih := ih (i + 1) (by omega) fu (by omega)
    rw [f_X1_signedAfter_4, if_neg (nI_ge (by omega) (by omega))]
    have e0 : rg 49 (hs σ 0) (nI i) = nI (K i) := by rw [rg9 (by omega) (by decide)]; exact hK i (by omega)
    simp only [e0, s1]
    rw [signing_iff w1]
    rw [sgn] at ih
    by_cases hk : K i = 1 ∨ K i = 2
    · have e2 : rg 49 (hs σ 2) (nI i) = nI (sl i) := by rw [rg9 (by omega) (by decide)]; exact hS i (by omega) (by omega)
      have := (w5 (by omega)).1
      rw [if_pos hk, if_neg (by decide), e2, i_one (by omega), fa_or]
      rw [if_pos hk] at ih
      exact ih
    · rw [if_neg hk, if_pos rfl]
      rw [if_neg hk] at ih
      exact ih
theorem signed_spec {σ : SS} {td c len s : Nat} {bf pr K sl dy : Nat → Nat} (hw : Wf td c len bf pr K sl dy) (hsl : s ≤ len) (hK : ∀ i, i < len → σ 5 i = nI (K i)) (hS : ∀ i, i < len → (K i = 1 ∨ K i = 2 ∨ K i = 6) → σ 7 i = nI (sl i)) : f_X1_signedAfter (hs σ) (nI s) = some (nI (sgn K sl s)) := by
  have hl := hw.2.1
  obtain ⟨z, h⟩ := signed_loop hw hsl hK hS s 0 (by omega) FU (by unfold FU; omega)
  unfold f_X1_signedAfter
  rw [show (0 : Int32) = nI 0 from rfl]
  have h : f_X1_signedAfter_4 FU (hs σ) (nI s) (nI 0) (nI 0) = some (nI (sgn K sl s), z) := h
  rw [h]
  rfl
theorem next_loop {σ : SS} {c d : Nat} {bf : Nat → Nat} (hc : c ≤ 8) (h10 : σ 10 0 = nI c) (hbf : ∀ j, j < c → bf j < 2 ^ 8) (h1 : ∀ j, j < c → σ 1 j = nI (bf j)) :
    ∀ (m i : Nat), i + m = c → ∀ fu, m < fu → ∃ z, f_X0_nextBehind_4 fu σ (nI d) (nI (dif (rdy bf d i) d)) (nI i) = some (nI (dif (rdy bf d c) d), z) := by
  intro m
  induction m with
  | zero =>
    intro i hi fu hfu
    obtain ⟨fu, rfl⟩ : ∃ g, fu = g + 1 := ⟨fu - 1, by omega⟩
    obtain rfl : i = c := by omega
    exact ⟨_, by rw [f_X0_nextBehind_4, h10, if_pos (nI_le (Nat.le_refl _) (by omega))]⟩
  | succ m ih =>
    intro i hi fu hfu
    obtain ⟨fu, rfl⟩ : ∃ g, fu = g + 1 := ⟨fu - 1, by omega⟩
    have hic : i < c := by omega
    have ih := ih (i + 1) (by omega) fu (by omega)
    rw [f_X0_nextBehind_4, h10, if_neg (nI_ge hic (by omega)), rg9 (by omega) (by decide), h1 i hic, i_dif, s1, i_one (by omega), fa_or]
    simp only [has4' _ (show i < 31 by omega)]
    have hz : (nI (dif (bf i) d) = 0) = (dif (bf i) d = 0) := propext (nI_zero (Nat.lt_trans (dif_lt (hbf i hic)) (by decide)))
    simp only [hz]
    have key : ∀ v, dif (rdy bf d (i + 1)) d = v → ∃ z, f_X0_nextBehind_4 fu σ (nI d) (nI v) (nI (i + 1)) = some (nI (dif (rdy bf d c) d), z) := fun v e => by rw [← e]; exact ih
    by_cases hd : d.testBit i = false
    · rw [if_pos hd]
      by_cases h2 : dif (bf i) d = 0
      · rw [if_pos h2]
        refine key _ (nat_ext fun j => ?_)
        rw [dif_bit, rdy_bit, Nat.testBit_or, dif_bit, rdy_bit, two_bit]
        by_cases hj : i = j
        · subst hj; simp [h2, hd]
        · by_cases h3 : j < i
          · simp [hj, h3, show j < i + 1 by omega]
          · simp [hj, h3, show ¬ j < i + 1 by omega]
      · rw [if_neg h2]
        refine key _ (by rw [rdy, if_neg h2])
    · rw [if_neg hd]
      refine key _ (nat_ext fun j => ?_)
      rw [dif_bit, rdy_bit, dif_bit, rdy_bit]
      by_cases hj : i = j
      · subst hj
        have : d.testBit i = true := by simpa using hd
        simp [this]
      · by_cases h3 : j < i
        · simp [h3, show j < i + 1 by omega]
        · simp [h3, show ¬ j < i + 1 by omega]
theorem next_spec {σ : SS} {c : Nat} (d : Nat) {bf : Nat → Nat} (hc : c ≤ 8) (h10 : σ 10 0 = nI c) (hbf : ∀ j, j < c → bf j < 2 ^ 8) (h1 : ∀ j, j < c → σ 1 j = nI (bf j)) : f_X0_nextBehind σ (nI d) = some (nI (dif (rdy bf d c) d)) := by
  obtain ⟨z, h⟩ := next_loop (d := d) hc h10 hbf h1 c 0 (by omega) FU (by unfold FU; omega)
  unfold f_X0_nextBehind
  rw [show (0 : Int32) = nI 0 from rfl]
  have h : f_X0_nextBehind_4 FU σ (nI d) (nI 0) (nI 0) = some (nI (dif (rdy bf d c) d), z) := by
    rw [← h]; congr 2; simp [rdy, dif]
  rw [h]
  rfl
theorem Wf.b8 {td c len : Nat} {bf pr K sl dy : Nat → Nat} (hw : Wf td c len bf pr K sl dy) : ∀ j, j < c → bf j < 2 ^ 8 := fun j hj => Nat.lt_of_lt_of_le (hw.2.2.1 j hj).1 (Nat.pow_le_pow_right (by decide) (by have := hw.1; omega))
theorem sa_stateBehind : SA_stateBehind Inv := by
  intro t n σ0 σ τ x1 x2 ht hI
  obtain ⟨td, htd, hD, hE⟩ := id hI
  rcases events_out hD.1 hD.2.2.2.1 (σ := σ) (fun k hk => (hE k hk).lng) x1 x2 with ⟨e1, e2⟩ | ⟨k, j, c', hk, hj, c8, c2, rfl, rfl, e1, e2, e3⟩
  · refine ⟨0, va_up τ 24 (fun _ => 1), ?_, Or.inr ⟨?_, hI.keep k24, by rw [up_eq]⟩⟩
    · unfold f_X5_stateBehind; rw [e1]; simp only [Option.bind_some, goes1]; rw [if_pos trivial]
    · unfold f_X4_stateBehind
      rcases e2 with e2 | ⟨k, e2, e3⟩
      · rw [e2]; rfl
      · rw [e2, xb_inr, e3]; rfl
  · obtain ⟨c, len, pc, tm, bf, pr, K, sl, dy, pe, se, k6, hpc, htm, hse, hw, hr, hc⟩ := hE k hk
    obtain rfl : c' = len := cnt_eq c2 hr.2.2.2.1 (by omega) (by have := hw.2.1; omega)
    obtain ⟨hS, hV⟩ := EI_tell k6 hse hw (hr.keep (k24 (v := fun _ => 0)))
    obtain ⟨τ', l1, l2⟩ := tells_spec hS (hV.le hj) (by omega)
    refine ⟨nI (sta c K sl j), τ', ?_, Or.inl ⟨?_, hI.keep (k24.tr l2.keep), by rw [l2.t24, up_eq]⟩⟩
    · unfold f_X5_stateBehind; rw [e1]; simp only [Option.bind_some, goes0]; rw [if_neg (by decide), l1, Option.bind_some, l2.2.1]
    · unfold f_X4_stateBehind
      rw [e2, xb_inr, e3, xb_inr, hc.1, state_spec hw hj (fun i hi => (hc.2.2.2.2.2.1 i hi).1)]
      rfl
theorem sa_openBehind : SA_openBehind Inv := by
  intro t n σ0 σ τ x1 x2 ht hI
  obtain ⟨td, htd, hD, hE⟩ := id hI
  rcases events_out hD.1 hD.2.2.2.1 (σ := σ) (fun k hk => (hE k hk).lng) x1 x2 with ⟨e1, e2⟩ | ⟨k, j, c', hk, hj, c8, c2, rfl, rfl, e1, e2, e3⟩
  · refine ⟨0, va_up τ 24 (fun _ => 1), ?_, Or.inr ⟨?_, hI.keep k24, by rw [up_eq]⟩⟩
    · unfold f_X5_openBehind; rw [e1]; simp only [Option.bind_some, goes1]; rw [if_pos trivial]
    · unfold f_X4_openBehind
      rcases e2 with e2 | ⟨k, e2, e3⟩
      · rw [e2]; rfl
      · rw [e2, xb_inr, e3]; rfl
  · obtain ⟨c, len, pc, tm, bf, pr, K, sl, dy, pe, se, k6, hpc, htm, hse, hw, hr, hc⟩ := hE k hk
    obtain rfl : c' = len := cnt_eq c2 hr.2.2.2.1 (by omega) (by have := hw.2.1; omega)
    obtain ⟨hS, hV⟩ := EI_tell k6 hse hw (hr.keep (k24 (v := fun _ => 0)))
    obtain ⟨τ', l1, l2⟩ := tells_spec hS (hV.le hj) (by omega)
    have hst := sta_le c K sl j
    refine ⟨nI (if sta c K sl j = 1 then dif (opd c bf K sl j) (sgn K sl j) else 0), τ', ?_, Or.inl ⟨?_, hI.keep (k24.tr l2.keep), by rw [l2.t24, up_eq]⟩⟩
    · unfold f_X5_openBehind; rw [e1]; simp only [Option.bind_some, goes0]; rw [if_neg (by decide), l1, Option.bind_some, open_told l2 hst]
    · unfold f_X4_openBehind
      rw [e2, xb_inr, e3, xb_inr, hc.1, state_spec hw hj (fun i hi => (hc.2.2.2.2.2.1 i hi).1), Option.bind_some]
      by_cases h1 : sta c K sl j = 1
      · have j0 : 0 < j := by
          rcases Nat.eq_zero_or_pos j with rfl | h
          · simp [sta] at h1
          · exact h
        have h0 : K 0 = 0 := ((hw.2.2.2.1 0 (by omega)).2.2.1).mp rfl
        rw [h1, if_pos (show nI 1 = 1 from rfl), if_pos rfl, signed_spec hw hj (fun i hi => (hc.2.2.2.2.2.1 i hi).1) (fun i hi h => by rw [(hc.2.2.2.2.2.1 i hi).2.2.1]; exact hse i hi h), Option.bind_some, next_spec _ hw.1 hc.1 hw.b8 (fun j hj => (hc.2.2.2.2.1 j hj).2.1), opd_rdy h0 j j0]
        rfl
      · rw [if_neg (show ¬ nI (sta c K sl j) = 1 from fun e => h1 ((nI_eq (b := 1) (by omega) (by decide)).mp e)), if_neg h1]
        rfl
end
