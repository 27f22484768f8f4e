/-! The law's loop -/
section
variable {t td e k : Nat} {d u : Dk} {b w : Nat → Int32}
theorem cmp_self (x : Int64) : lg_cmp x x = 0 := by
  unfold lg_cmp
  rw [if_neg (fun h => absurd ((fa_lt64 _ _).mp h) (by omega)), if_pos rfl]
theorem LI.tw {d' : Dk} (h : LI t td d b w) (g : Twin d d') : LI t td d' b w := by
  obtain ⟨g1, g2, g3⟩ := g
  refine ⟨h.1, by rw [g1]; exact h.2.1, by rw [g3 1 (by decide)]; exact h.2.2.1, fun p hp => ?_, fun e he => ?_⟩
  · rw [g3 (3 + p) (by omega)]
    exact h.2.2.2.1 p hp
  · rw [g2]
    exact h.2.2.2.2 e (by rw [← g1]; exact he)
theorem law248 {xs : Nat → Int32} {L : Nat} {r70 : Dk → Dk → (Nat → Int32) → (Nat → Int32) → Int32 → Int32 → Option Int32} (htd : td < 2 ^ 20) (hr : ∀ d, LI t td d b w → Twin d u → r70 d u b w 1 (nI (k + 1)) = some 1) :
    ∀ (m e : Nat) (d : Dk), e + m = d.1 → LI t td d b w → Twin d u → ∀ fu, m < fu → f_L_law_248 xs L r70 fu d u b w 1 (nI k) (nI e) = some 1 := by
  intro m
  induction m with
  | zero =>
    intro e d he h hu fu hfu
    obtain ⟨fu, rfl⟩ : ∃ g, fu = g + 1 := ⟨fu - 1, by omega⟩
    have hn := h.2.1
    rw [f_L_law_248, v_envelopes d hn, Option.bind_some, if_pos (nI_le (show d.1 ≤ e by omega) (by omega)), s1]
    exact hr d h hu
  | succ m ih =>
    intro e d he h hu fu hfu
    obtain ⟨fu, rfl⟩ : ∃ g, fu = g + 1 := ⟨fu - 1, by omega⟩
    have hn := h.2.1
    have hen : e < d.1 := by omega
    obtain ⟨c, bf, pr, ⟨len, pc, tm, K, sl, dy, pe, se, hE⟩, hB⟩ := h.2.2.2.2 e hen
    have hd := h.dc.dk
    obtain ⟨d', q1, q2⟩ := counts_ok (w := w) hd hen hE (fun j hj => (hB j hj).1)
    have h' := h.tw q2
    rw [f_L_law_248, v_envelopes d hn, Option.bind_some, if_neg (nI_ge hen (by omega)), if_neg (by decide), envelope_ok hd hen hE hB, Option.bind_some, if_neg (by decide), history_ok htd hd hen hE hB, Option.bind_some, if_neg (by decide), q1, Option.bind_some, if_pos q2.1, if_neg (show ¬ (1 : Int32) = 0 by decide), s1]
    exact ih (e + 1) d' (by rw [q2.1]; omega) h' (q2.sm.tr hu) fu (by omega)
theorem law224 {xs : Nat → Int32} {L : Nat} {r70 : Dk → Dk → (Nat → Int32) → (Nat → Int32) → Int32 → Int32 → Option Int32} (hk : k < 70) (ht : t < 2 ^ 30) (htd : td < 2 ^ 20) (h : LI t td d b w) (hu : Twin d u) (hr : ∀ d, LI t td d b w → Twin d u → r70 d u b w 1 (nI (k + 1)) = some 1) : f_L_law_224 xs L r70 d u b w (nI k) 1 = some 1 := by
  have hn := h.2.1
  have e4 : nI k - nI k / (4 : Int32) * (4 : Int32) = nI (k % 4) := pk_rem (d := 4) (by omega) (by decide) (by decide)
  unfold f_L_law_224
  rw [if_neg (by decide), e4]
  split
  · rw [people_ok h.dc.dk h.2.2.2.1 ht, Option.bind_some]
    exact law248 htd hr d.1 0 d (by omega) h hu FU (by unfold FU; omega)
  · rw [s1]
    exact hr d h hu
theorem law136 {xs : Nat → Int32} {L : Nat} {r70 : Dk → Dk → (Nat → Int32) → (Nat → Int32) → Int32 → Int32 → Option Int32} (hk : k < 70) (ht : t < 2 ^ 30) (htd : td < 2 ^ 20) (h : LI t td d b w) (hu : Twin d u) (hr : ∀ d, LI t td d b w → Twin d u → r70 d u b w 1 (nI (k + 1)) = some 1) : f_L_law_136 xs L r70 d u b w (nI k) 1 = some 1 := by
  have hn := h.2.1
  obtain ⟨y, hy⟩ := print_ok (show td < 2 ^ 30 by omega) h.dc.dk
  have g1 : gm_whyNot d 8 0 0 = some (-1000001) := by
    unfold gm_whyNot f_X4_whyNot
    rw [if_pos hn, show f_X4_refuseNoPerson 8 = some (.inl IOB) from by decide]
    rfl
  have g2 : gm_sign d (-1) 0 0 = some (-1000001, d) := by
    unfold gm_sign f_X4_sign
    rw [if_pos hn, show f_X4_refuseNoPerson (-1) = some (.inl IOB) from by decide]
    rfl
  have g3 : gm_delegate d 0 0 0 0 1 = some (-1000002, d) := x_dele_st (p := 0) (q := 0) (z := 1) hn (by decide) (by decide) (by decide) (Or.inl rfl)
  have g4 : gm_send d 6 = some (-1000001, d) := x_send_no (e := 6) hn hn (by decide)
  unfold f_L_law_136
  rw [hy, Option.bind_some, if_neg (by decide), tw_print hu, hy, Option.bind_some, if_pos (cmp_self y), g1, Option.bind_some, if_pos rfl, g2, Option.bind_some, if_pos rfl, g3, Option.bind_some, if_pos rfl, g4, Option.bind_some, if_pos rfl, hy, Option.bind_some, if_pos (cmp_self y)]
  exact law224 hk ht htd h hu hr
theorem law70 {xs : Nat → Int32} {L : Nat} : ∀ (m k td : Nat) (d u : Dk) (b w : Nat → Int32), k + m = 70 → LI k td d b w → Twin d u → ∀ fu, m < fu → f_L_law_70 xs L fu d u b w 1 (nI k) = some 1 := by
  intro m
  induction m with
  | zero =>
    intro k td d u b w hk h hu fu hfu
    obtain ⟨fu, rfl⟩ : ∃ g, fu = g + 1 := ⟨fu - 1, by omega⟩
    obtain rfl : k = 70 := by omega
    rw [f_L_law_70, if_pos (show (70 : Int32) ≤ nI 70 by decide)]
  | succ m ih =>
    intro k td d u b w hk h hu fu hfu
    obtain ⟨fu, rfl⟩ : ∃ g, fu = g + 1 := ⟨fu - 1, by omega⟩
    have hk7 : k < 70 := by omega
    have e2 : (2 : Int32) * nI k = nI (2 * k) := lmul 2 k
    have hfin : ∀ x4 x5 : Int32, ((f_L_acts d u b w x4 x5).bind fun z3 => (f_L_law_136 xs L (f_L_law_70 xs L fu) z3.2.1 z3.2.2.1 z3.2.2.2.1 z3.2.2.2.2 (nI k) z3.1)) = some 1 := by
      intro x4 x5
      obtain ⟨d', u', b', w', td', q1, q2, q3⟩ := acts_ok h hu (show k < 2 ^ 20 by omega) x4 x5
      rw [q1, Option.bind_some]
      exact law136 hk7 (by omega) (by have := q2.1; omega) q2 q3 (fun d2 r1 r2 => ih (k + 1) td' d2 u' b' w' (by omega) r1 r2 fu (by omega))
    rw [f_L_law_70, if_neg (show ¬ (70 : Int32) ≤ nI k from nI_ge (b := 70) hk7 (by decide)), if_neg (by decide), e2, if_pos (show (0 : Int32) ≤ nI (2 * k) from nI_le (a := 0) (Nat.zero_le _) (by omega)), s1, if_pos (show (0 : Int32) ≤ nI (2 * k + 1) from nI_le (a := 0) (Nat.zero_le _) (by omega))]
    split
    · exact hfin _ _
    · exact hfin _ _
theorem start_LI : LI 0 0 D0 B0 B0 := ⟨by decide, by decide, rfl, fun p hp => by
  have : ∀ p, p < 8 → σ00 (3 + p) 0 = -1 ∧ σ00 (3 + p) 4 = 0 := by decide
  obtain ⟨a1, a2⟩ := this p hp
  exact ⟨Or.inl a1, 0, by omega, a2⟩, fun e he => absurd he (Nat.not_lt_zero e)⟩
theorem st_no (hn : d.1 ≤ 6) (he : d.1 ≤ e) (hb : e < 2 ^ 31) : gm_state d (nI e) = some (-1000001) := by
  unfold gm_state f_X4_state
  rw [if_pos hn, env_no he hb]
  rfl
theorem start_S : gm_state D0 0 = some (-1000001) := st_no (d := D0) (e := 0) (by decide) (by decide) (by decide)
theorem start_T : gm_toSign D0 7 = some 0 := by
  rfl
theorem law_main (xs : Nat → Int32) (L : Nat) : f_L_law_70 xs L 71 D0 D0 B0 B0 1 0 = some 1 := law70 70 0 0 D0 D0 B0 B0 rfl start_LI Twin.rf 71 (by decide)
end
