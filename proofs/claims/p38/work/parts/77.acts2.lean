/-! The law's calls by a script: sending, delegates, days -/
section
variable {t td e : Nat} {d u : Dk} {b w : Nat → Int32}
def s_send (d u : Dk) (b w : Nat → Int32) (x7 x8 x9 s0 : Int32) : Option (Int32 × Dk × Dk × (Nat → Int32) × (Nat → Int32)) := ((gm_send d x7).bind fun z3 => ((gm_send u x7).bind fun z4 => (if z4.1 = z3.1 then (if x8 = 0 then (if z3.1 = (-1000001 : Int32) then (some ((1 : Int32), z3.2, z4.2, b, w)) else (some ((0 : Int32), z3.2, z4.2, b, w))) else (if x9 = 0 then (if s0 = 0 then (f_L_acts_695 z3.2 z4.2 b w z3.1) else (if z3.1 ≤ 0 then (some ((0 : Int32), z3.2, z4.2, b, w)) else ((gm_state z3.2 x7).bind fun z5 => (if z5 = (1 : Int32) then (some ((1 : Int32), z3.2, z4.2, b, w)) else (some ((0 : Int32), z3.2, z4.2, b, w)))))) else (f_L_acts_695 z3.2 z4.2 b w z3.1))) else (some ((0 : Int32), z3.2, z4.2, b, w)))))
theorem s_send_no (h : LI t td d b w) (hu : Twin d u) (h6 : e < 6) (he : d.1 ≤ e) (x9 s0 : Int32) : AR t (s_send d u b w (nI e) 0 x9 s0) := by
  have hn := h.2.1
  unfold s_send
  rw [x_send_no hn he (by omega), Option.bind_some, x_send_no (by rw [hu.1]; exact hn) (by rw [hu.1]; exact he) (by omega), Option.bind_some, if_pos rfl, if_pos rfl, if_pos rfl]
  exact AR.same h hu
theorem s_send_ok {c len pc tm : Nat} {bf pr K sl dy : Nat → Nat} {pe se : Nat → Int32} (h : LI t td d b w) (hu : Twin d u) (he : e < d.1) (hE : CE td (d.2.2 e) c len pc tm bf pr K sl dy pe se) (hB : ∀ j, j < c → b (8 * e + j) = nI (bf j) ∧ w (8 * e + j) = nI (pr j)) :
    AR t (s_send d u b w (nI e) 1 (nI (sta c K sl len)) (nI c)) := by
  have hn := h.2.1
  have hw := hE.2.2.2.1
  have h8 := hw.1
  have hc := hE.2.2.2.2
  have hst := sta_le c K sl len
  have hun : u.1 ≤ 6 := by rw [hu.1]; exact hn
  have heu : e < u.1 := by rw [hu.1]; exact he
  have g11 : d.2.2 e 11 0 = nI (sta c K sl len) := hc.2.2.2.2.2.2.1
  have n1 : ¬ (1 : Int32) = 0 := by decide
  unfold s_send
  by_cases hs : sta c K sl len = 0 ∧ ¬ c = 0
  · obtain ⟨hs, hc0⟩ := hs
    have hl := sta_zero hw hs
    subst hl
    rw [hs] at g11
    obtain ⟨v, σ', a1, a2, a3, a4, a5⟩ := start_ok hE (show 0 < c by omega)
    have hd' : (d.1, d.2.1, va_up d.2.2 e σ').2.2 e = σ' := up_eq
    have g := (v_state (d := (d.1, d.2.1, va_up d.2.2 e σ')) hn he (by rw [hd']; exact a4)).2
    have e1 : nI (sta c (uN K 0 0) (uN sl 0 0) 1) = 1 := by rw [← a4.2.2.2.2.2.2.2.2.2.2.1]; exact a5
    rw [e1] at g
    rw [x_send_ok hn he h.2.2.1 hc.1 (by omega) h8 g11 a1, Option.bind_some, x_send_ok hun heu (by rw [hu.2.2 1 (by decide)]; exact h.2.2.1) (by rw [hu.2.1]; exact hc.1) (by omega) h8 (by rw [hu.2.1]; exact g11) (by rw [hu.2.1]; exact a1), Option.bind_some, if_pos rfl, if_neg n1, if_pos (show nI (sta c K sl 0) = 0 by rw [hs]; rfl), if_neg (nI_ne0 (by omega) (by omega)), if_neg (nI_nle a2 (by omega)), g, Option.bind_some, if_pos rfl]
    exact ⟨_, _, _, _, td, rfl, h.put h.2.2.1 (h.2.2.2.1.mono (by omega)) ⟨_, _, _, _, _, _, _, _, a4⟩ hB, hu.put hu.2.2⟩
  · have hno : ¬ sta c K sl len = 0 ∨ c = 0 := by
      by_cases q : sta c K sl len = 0
      · exact Or.inr (Decidable.byContradiction fun z => hs ⟨q, z⟩)
      · exact Or.inl q
    have hfin : AR t (f_L_acts_695 d u b w (-1000003)) := by
      unfold f_L_acts_695
      rw [if_pos rfl]
      exact AR.same h hu
    rw [x_send_st hn he hc.1 h8 g11 hst hno, Option.bind_some, x_send_st hun heu (by rw [hu.2.1]; exact hc.1) h8 (by rw [hu.2.1]; exact g11) hst hno, Option.bind_some, if_pos rfl, if_neg n1]
    by_cases q : sta c K sl len = 0
    · rw [if_pos (show nI (sta c K sl len) = 0 by rw [q]; rfl), if_pos (show nI c = 0 by rw [hno.resolve_left (fun z => z q)]; rfl)]
      exact hfin
    · rw [if_neg (show ¬ nI (sta c K sl len) = 0 from fun z => q ((nI_zero (by omega)).mp z))]
      exact hfin
-- delegates
theorem LI.s0 {s : SS} (h : LI t td d b w) (hs1 : s 1 0 = nI td) (hs : DS (t + 1) s) : LI (t + 1) td (d.1, s, d.2.2) b w := ⟨by have := h.1; omega, h.2.1, hs1, hs, h.2.2.2.2⟩
theorem Twin.s0 {s s' : SS} (hu : Twin d u) (hs : ∀ x, x ≠ 2 → s' x = s x) : Twin (d.1, s, d.2.2) (u.1, s', u.2.2) := ⟨hu.1, hu.2.1, hs⟩
def s_dele (d u : Dk) (b w : Nat → Int32) (z1 z3 x y z7 : Int32) : Option (Int32 × Dk × Dk × (Nat → Int32) × (Nat → Int32)) := (if z1 = z3 then (f_L_acts_1349 d u b w z1 z3 x y z7) else ((gn_today d).bind fun z8 => (if x < z8 then (f_L_acts_1349 d u b w z1 z3 x y z7) else (if y < x then (f_L_acts_1349 d u b w z1 z3 x y z7) else (if z7 ≤ 0 then (f_L_acts_1349 d u b w z1 z3 x y z7) else (if (10 : Int32) ≤ z7 then (f_L_acts_1349 d u b w z1 z3 x y z7) else (f_L_acts_1350 d u b w z1 z3 x y z7 (1 : Int32))))))))
theorem setD_4 {s : SS} {p : Nat} {o x y z : Int32} : setD s p o x y z (3 + p) = upd (upd (upd (upd (s (3 + p)) 0 o) 1 x) 2 y) 3 z := up_eq
theorem setD_o {s : SS} {p k : Nat} {o x y z : Int32} (h : k ≠ 3 + p) : setD s p o x y z k = s k := up_ne h
theorem s_dele_ok {p q k7 : Nat} {x y : Int32} (h : LI t td d b w) (hu : Twin d u) (hp : p < 8) (hq : q < 8) (h7 : k7 < 11) : AR t (s_dele d u b w (nI p) (nI q) x y (nI k7)) := by
  have hn := h.2.1
  have hun : u.1 ≤ 6 := by rw [hu.1]; exact hn
  have e1 : u.2.1 1 0 = d.2.1 1 0 := by rw [hu.2.2 1 (by decide)]
  have hno : (p = q ∨ x < d.2.1 1 0 ∨ ¬ x ≤ y ∨ k7 < 1 ∨ 9 < k7) → AR t (f_L_acts_1349 d u b w (nI p) (nI q) x y (nI k7)) := by
    intro hh
    unfold f_L_acts_1349 f_L_acts_1350
    rw [x_dele_st hn hp hq (by omega) hh, Option.bind_some, x_dele_st hun hp hq (by omega) (by rw [e1]; exact hh), Option.bind_some, if_pos rfl, if_pos rfl, if_pos rfl]
    exact AR.same h hu
  unfold s_dele
  by_cases c1 : p = q
  · rw [if_pos (by rw [c1])]
    exact hno (Or.inl c1)
  · rw [if_neg (fun z => c1 ((nI_eq (by omega) (by omega)).mp z)), v_today d hn, Option.bind_some]
    by_cases c2 : x < d.2.1 1 0
    · rw [if_pos c2]
      exact hno (Or.inr (Or.inl c2))
    · rw [if_neg c2]
      by_cases c3 : y < x
      · rw [if_pos c3]
        exact hno (Or.inr (Or.inr (Or.inl (fa_of_lt c3).2.1)))
      · rw [if_neg c3]
        have hxy := fa_of_nlt c3
        by_cases c4 : k7 < 1
        · rw [if_pos (show nI k7 ≤ 0 by rw [show k7 = 0 by omega]; decide)]
          exact hno (Or.inr (Or.inr (Or.inr (Or.inl c4))))
        · rw [if_neg (nI_nle (by omega) (by omega))]
          by_cases c5 : 9 < k7
          · rw [if_pos (show (10 : Int32) ≤ nI k7 by rw [show k7 = 10 by omega]; decide)]
            exact hno (Or.inr (Or.inr (Or.inr (Or.inr c5))))
          · rw [if_neg (show ¬ (10 : Int32) ≤ nI k7 from nI_ge (b := 10) (by omega) (by decide))]
            have g := x_dele_ok hn hp hq c1 c2 hxy (show 1 ≤ k7 by omega) (show k7 ≤ 9 by omega)
            have gu := x_dele_ok hun hp hq c1 (by rw [e1]; exact c2) hxy (show 1 ≤ k7 by omega) (show k7 ≤ 9 by omega)
            have eo : u.2.1 (3 + p) = d.2.1 (3 + p) := hu.2.2 (3 + p) (by omega)
            rw [eo] at gu
            obtain ⟨ho, xx, hxx, ex⟩ := h.2.2.2.1 p hp
            have l1 : ¬ d.2.1 (3 + p) 0 < -1 := by
              rcases ho with ho | ⟨r, hr, -, ho⟩
              · rw [ho]; decide
              · rw [ho]; exact fun z => nI_pos (n := r) (by omega) ((fa_lt _ _).mpr (by have := (fa_lt _ _).mp z; have e2 : (-1 : Int32).toInt = -1 := by decide
                                                                                        have e3 : (0 : Int32).toInt = 0 := by decide
                                                                                        omega))
            have l8 : ¬ (8 : Int32) ≤ d.2.1 (3 + p) 0 := by
              rcases ho with ho | ⟨r, hr, -, ho⟩
              · rw [ho]; decide
              · rw [ho]; exact nI_ge (b := 8) hr (by decide)
            have hd1 : setD d.2.1 p (nI q) x y (nI k7) 1 0 = nI td := by rw [setD_o (by omega)]; exact h.2.2.1
            have hdt : gm_delegateToday (d.1, setD d.2.1 p (nI q) x y (nI k7), d.2.2) (nI p) = some (f_X3_otherOn (ds (setD d.2.1 p (nI q) x y (nI k7)) p) (nI td)) := (v_delT (d := (d.1, setD d.2.1 p (nI q) x y (nI k7), d.2.2)) hn hd1 hp).2
            have hoth : f_X3_otherOn (ds (setD d.2.1 p (nI q) x y (nI k7)) p) (nI td) = if nI td < x then -1 else if y < nI td then -1 else nI q := by
              unfold f_X3_otherOn
              have w1 : ds (setD d.2.1 p (nI q) x y (nI k7)) p 1 0 = x := by
                show setD d.2.1 p (nI q) x y (nI k7) (3 + p) 1 = x
                rw [setD_4, upd_ne (by decide), upd_ne (by decide), upd_eq]
              have w2 : ds (setD d.2.1 p (nI q) x y (nI k7)) p 2 0 = y := by
                show setD d.2.1 p (nI q) x y (nI k7) (3 + p) 2 = y
                rw [setD_4, upd_ne (by decide), upd_eq]
              have w0 : ds (setD d.2.1 p (nI q) x y (nI k7)) p 0 0 = nI q := by
                show setD d.2.1 p (nI q) x y (nI k7) (3 + p) 0 = nI q
                rw [setD_4, upd_ne (by decide), upd_ne (by decide), upd_ne (by decide), upd_eq]
              rw [w0, w1, w2]
            rw [hoth] at hdt
            have hLI := h.s0 (s := setD d.2.1 p (nI q) x y (nI k7)) hd1 (fun r hr => by
              by_cases er : r = p
              · subst er
                rw [setD_4, upd_ne (by decide), upd_ne (by decide), upd_ne (by decide), upd_eq, upd_ne (by decide), upd_ne (by decide), upd_ne (by decide), upd_ne (by decide)]
                exact ⟨Or.inr ⟨q, hq, fun z => c1 z.symm, rfl⟩, xx, by omega, ex⟩
              · rw [setD_o (by omega)]
                exact h.2.2.2.1.mono (Nat.le_succ t) r hr)
            have hTw := hu.s0 (s := setD d.2.1 p (nI q) x y (nI k7)) (s' := setD u.2.1 p (nI q) x y (nI k7)) (fun k hk => by
              by_cases er : k = 3 + p
              · subst er
                rw [setD_4, setD_4, eo]
              · rw [setD_o er, setD_o er]
                exact hu.2.2 k hk)
            unfold f_L_acts_1350
            rw [g, Option.bind_some, gu, Option.bind_some, if_pos rfl, if_neg (by decide), if_neg l1, if_neg l8, hdt, Option.bind_some, v_today (d.1, setD d.2.1 p (nI q) x y (nI k7), d.2.2) hn, Option.bind_some]
            show AR t (if x = setD d.2.1 p (nI q) x y (nI k7) 1 0 then _ else _)
            rw [hd1]
            rw [h.2.2.1] at c2
            unfold f_L_acts_1426
            by_cases c6 : x = nI td
            · have hxy : nI td ≤ y := by rw [← c6]; exact hxy
              rw [if_pos c6, if_neg (show ¬ nI td < x from fun z => by rw [c6] at z; exact absurd rfl (fa_of_lt z).2.2.2.1), if_neg (fun z => (fa_of_lt z).2.1 hxy), if_pos rfl]
              exact ⟨_, _, _, _, td, rfl, hLI, hTw⟩
            · have : nI td < x := fa_le_ne (fa_of_nlt c2) (fun z => c6 z.symm)
              rw [if_neg c6, if_pos this, if_pos rfl]
              exact ⟨_, _, _, _, td, rfl, hLI, hTw⟩
theorem oth_none {s : SS} {p : Nat} (h : s (3 + p) 0 = -1) (x : Int32) : f_X3_otherOn (ds s p) x = -1 := by
  unfold f_X3_otherOn
  have w0 : ds s p 0 0 = s (3 + p) 0 := rfl
  rw [w0, h, ite_self, ite_self]
def s_revo (d u : Dk) (b w : Nat → Int32) (z1 : Int32) : Option (Int32 × Dk × Dk × (Nat → Int32) × (Nat → Int32)) := ((gm_revoke d z1).bind fun z3 => ((gm_revoke u z1).bind fun z4 => (if z4.1 = z3.1 then (if z3.1 = (-1000003 : Int32) then (f_L_acts_1490 z3.2 z4.2 b w z1) else (if z3.1 < 0 then (some ((0 : Int32), z3.2, z4.2, b, w)) else (if (8 : Int32) ≤ z3.1 then (some ((0 : Int32), z3.2, z4.2, b, w)) else (f_L_acts_1490 z3.2 z4.2 b w z1)))) else (some ((0 : Int32), z3.2, z4.2, b, w)))))
theorem a1490 {p : Nat} (hn : d.1 ≤ 6) (h1 : d.2.1 1 0 = nI td) (hp : p < 8) (h : d.2.1 (3 + p) 0 = -1) : f_L_acts_1490 d u b w (nI p) = some (1, d, u, b, w) := by
  unfold f_L_acts_1490
  rw [(v_delT hn h1 hp).2, Option.bind_some, oth_none h, if_pos rfl, x_revo_no hn hp h, Option.bind_some, if_pos rfl]
theorem unD_4 {s : SS} {p : Nat} : unD s p (3 + p) = upd (s (3 + p)) 0 (-1) := up_eq
theorem unD_o {s : SS} {p k : Nat} (h : k ≠ 3 + p) : unD s p k = s k := up_ne h
theorem s_revo_ok {p : Nat} (h : LI t td d b w) (hu : Twin d u) (hp : p < 8) : AR t (s_revo d u b w (nI p)) := by
  have hn := h.2.1
  have hun : u.1 ≤ 6 := by rw [hu.1]; exact hn
  have eo : u.2.1 (3 + p) = d.2.1 (3 + p) := hu.2.2 (3 + p) (by omega)
  unfold s_revo
  by_cases hc : d.2.1 (3 + p) 0 = -1
  · rw [x_revo_no hn hp hc, Option.bind_some, x_revo_no hun hp (by rw [eo]; exact hc), Option.bind_some, if_pos rfl, if_pos rfl, a1490 hn h.2.2.1 hp hc]
    exact AR.same h hu
  · obtain ⟨ho, xx, hxx, ex⟩ := h.2.2.2.1 p hp
    obtain ⟨r, hr, -, er⟩ := ho.resolve_left hc
    have g := x_revo_ok hn hp hc
    have gu := x_revo_ok hun hp (by rw [eo]; exact hc)
    rw [eo, er] at gu
    rw [er] at g
    have hd1 : unD d.2.1 p 1 0 = nI td := by rw [unD_o (by omega)]; exact h.2.2.1
    rw [g, Option.bind_some, gu, Option.bind_some, if_pos rfl, if_neg (fun z => by
      have := nI_pos (n := r) (by omega)
      have z : nI r = -1000003 := z
      rw [z] at this
      exact this (by decide)), if_neg (nI_pos (by omega)), if_neg (show ¬ (8 : Int32) ≤ nI r from nI_ge (b := 8) hr (by decide)), a1490 (d := (d.1, unD d.2.1 p, d.2.2)) hn hd1 hp (by show unD d.2.1 p (3 + p) 0 = -1; rw [unD_4, upd_eq])]
    refine ⟨_, _, _, _, td, rfl, h.s0 hd1 (fun r hr => ?_), hu.s0 (fun k hk => ?_)⟩
    · by_cases er : r = p
      · subst er
        rw [unD_4, upd_eq, upd_ne (by decide)]
        exact ⟨Or.inl rfl, xx, by omega, ex⟩
      · rw [unD_o (by omega)]
        exact h.2.2.2.1.mono (Nat.le_succ t) r hr
    · by_cases er : k = 3 + p
      · subst er
        rw [unD_4, unD_4, eo]
      · rw [unD_o er, unD_o er]
        exact hu.2.2 k hk
-- days
theorem OD_li (h2 : DS t d.2.1) (h1 : BW td d b w) (htd : td < 2 ^ 30) : DS t (OD td d).2.1 ∧ BW (td + 1) (OD td d) b w := by
  refine ⟨fun p hp => ?_, fun e he => ?_⟩
  · obtain ⟨ho, -⟩ := h2 p hp
    show ((if 3 ≤ 3 + p ∧ 3 + p < 11 then upd (va_up d.2.1 1 (fun _ => nI (td + 1)) (3 + p)) 4 0 else va_up d.2.1 1 (fun _ => nI (td + 1)) (3 + p)) 0 = -1 ∨ _) ∧ _
    have e1 : (OD td d).2.1 (3 + p) = upd (d.2.1 (3 + p)) 4 0 := by
      show (if 3 ≤ 3 + p ∧ 3 + p < 11 then upd (va_up d.2.1 1 (fun _ => nI (td + 1)) (3 + p)) 4 0 else va_up d.2.1 1 (fun _ => nI (td + 1)) (3 + p)) = _
      rw [if_pos (by omega), up_ne (by omega)]
    show ((OD td d).2.1 (3 + p) 0 = -1 ∨ ∃ r, r < 8 ∧ r ≠ p ∧ (OD td d).2.1 (3 + p) 0 = nI r) ∧ ∃ x, x ≤ t ∧ (OD td d).2.1 (3 + p) 4 = nI x
    rw [e1, upd_ne (by decide), upd_eq]
    exact ⟨ho, 0, by omega, rfl⟩
  · obtain ⟨c, bf, pr, q1, q2⟩ := h1 e he
    refine ⟨c, bf, pr, ?_, q2⟩
    show EC (td + 1) (if e < d.1 then mE td (d.2.2 e) else d.2.2 e) c bf pr
    rw [if_pos (show e < d.1 from he)]
    exact (q1.meet htd).2.2
theorem ODn_li : ∀ (m td : Nat) (d : Dk), DS t d.2.1 → BW td d b w → td + m < 2 ^ 30 → DS t (ODn m td d).2.1 ∧ BW (td + m) (ODn m td d) b w
  | 0, td, d, h, g, _ => ⟨h, g⟩
  | m + 1, td, d, h, g, htd => by
    obtain ⟨a1, a2⟩ := OD_li h g (show td < 2 ^ 30 by omega)
    have := ODn_li m (td + 1) (OD td d) a1 a2 (by omega)
    rw [show td + (m + 1) = td + 1 + m by omega]
    exact this
theorem a1541 {n : Nat} (h : LI t td d b w) (hu : Twin d u) (ht : t < 2 ^ 20) (h6 : e < 6) (hn0 : 0 < n) (hn60 : n ≤ 60) (x5 : Int32) : AR t (f_L_acts_1541 d u b w (nI e) (nI n) x5 1) := by
  obtain ⟨k, hk, ek⟩ := low_ok x5 hn0 (by omega)
  have ht2 := h.1
  have e1 : (1 : Int32) + nI k = nI (k + 1) := by
    show nI 1 + nI k = _
    rw [nI_add, Nat.add_comm]
  obtain ⟨u', r1, r2⟩ := passes_ok (k := k + 1) (by omega) (by omega) h6 h.dc hu (show td + (k + 1) < 2 ^ 29 by omega)
  have hd' := ODn_dc (k + 1) td d h.dc (by omega)
  obtain ⟨a1, a2⟩ := ODn_li (k + 1) td d h.2.2.2.1 h.2.2.2.2 (by omega)
  unfold f_L_acts_1541
  rw [ek, Option.bind_some, e1, r1, Option.bind_some, if_pos ⟨ODn_n _ _ _, by rw [r2.1, ODn_n, hu.1]⟩, if_pos (Or.inr rfl)]
  exact ⟨_, _, _, _, td + (k + 1), rfl, ⟨by omega, hd'.1, hd'.2.1, a1.mono (by omega), a2⟩, r2⟩
end
