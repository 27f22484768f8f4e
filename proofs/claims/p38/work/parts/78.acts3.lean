/-! The law's calls by a script: signing -/
section
variable {t td e c len pc tm j r : Nat} {d u : Dk} {b w : Nat → Int32} {bf pr K sl dy : Nat → Nat} {pe se : Nat → Int32}
theorem rsn_01 {σ0 : SS} (h : rsn σ0 td c bf pr K sl len r j < 2) : sta c K sl len = 1 ∧ (opn c bf K sl len).testBit j = true ∧ (rsn σ0 td c bf pr K sl len r j = 0 ↔ pr j = r) := by
  unfold rsn at h ⊢
  by_cases h1 : sta c K sl len ≠ 1
  · rw [if_pos h1] at h; omega
  · rw [if_neg h1] at h ⊢
    cases h2 : (opn c bf K sl len).testBit j with
    | false => rw [h2, if_pos rfl] at h; omega
    | true =>
      rw [if_neg (by decide)]
      refine ⟨Decidable.byContradiction h1, rfl, ?_⟩
      by_cases h3 : pr j = r
      · rw [if_pos h3]
        exact ⟨fun _ => h3, fun _ => rfl⟩
      · rw [if_neg h3]
        refine ⟨fun h => ?_, fun h => absurd h h3⟩
        split at h
        · split at h <;> omega
        · omega
theorem opn_dif (hs : sta c K sl len = 1) (h : (opn c bf K sl len).testBit j = true) : (dif (opd c bf K sl len) (sgn K sl len)).testBit j = true := by
  unfold opn at h
  rw [if_pos hs] at h
  exact h
theorem a867_no {x7 x12 x13 x15 : Int32} (h : LI t td d b w) (hu : Twin d u) (h1 : gm_sign d x13 x7 x12 = some (-1000001, d)) (h2 : gm_sign u x13 x7 x12 = some (-1000001, u)) : AR t (f_L_acts_867 d u b w x7 x12 x13 (-1000001) x15) := by
  unfold f_L_acts_867
  rw [h1, Option.bind_some, h2, Option.bind_some, if_pos rfl, if_neg (by decide), if_pos rfl]
  unfold f_L_acts_949 f_L_acts_983
  rw [if_neg (by decide), if_neg (by decide), if_neg (by decide)]
  exact AR.same h hu
theorem a823_no (h : LI t td d b w) (hu : Twin d u) (h6 : e < 6) (he : d.1 ≤ e) (hr : r < 8) (x12 : Int32) : AR t (f_L_acts_823 d u b w (nI e) 0 0 x12 (nI r)) := by
  have hn := h.2.1
  have g : gm_whyNot d (nI r) (nI e) x12 = some (-1000001) := by
    unfold gm_whyNot f_X4_whyNot
    rw [if_pos hn, per_at hr, xb_inr, env_no he (by omega)]
    rfl
  unfold f_L_acts_823 f_L_acts_866
  rw [g, Option.bind_some, if_pos rfl]
  exact a867_no h hu (x_sign_no hn he h6 hr _) (x_sign_no (by rw [hu.1]; exact hn) (by rw [hu.1]; exact he) h6 hr _)
theorem bump_o {s : SS} {o k : Nat} (h : k ≠ 3 + o) : bump s o k = s k := up_ne h
theorem bump_4 {s : SS} {o : Nat} : bump s o (3 + o) = upd (s (3 + o)) 4 (s (3 + o) 4 + (1 : Int32)) := up_eq
theorem DS.bump {s : SS} {o : Nat} (h : DS t s) : DS (t + 1) (bump s o) := fun p hp => by
  obtain ⟨h1, x, hx, ex⟩ := h p hp
  by_cases q : p = o
  · subst q
    rw [bump_4, upd_ne (by decide), upd_eq, ex, s1]
    exact ⟨h1, x + 1, by omega, rfl⟩
  · rw [bump_o (by omega)]
    exact ⟨h1, x, by omega, ex⟩
set_option maxHeartbeats 1000000 in
theorem a867_ok (h : LI t td d b w) (hu : Twin d u) (he : e < d.1) (hE : CE td (d.2.2 e) c len pc tm bf pr K sl dy pe se) (hB : ∀ j, j < c → b (8 * e + j) = nI (bf j) ∧ w (8 * e + j) = nI (pr j)) (hr : r < 8) (hj : j < c) :
    AR t (f_L_acts_867 d u b w (nI e) (nI j) (nI r) (nI (rsn d.2.1 td c bf pr K sl len r j)) (d.2.1 (3 + pr j) 4)) := by
  have hn := h.2.1
  have hw := hE.2.2.2.1
  have h8 := hw.1
  have hc := hE.2.2.2.2
  have hun : u.1 ≤ 6 := by rw [hu.1]; exact hn
  have heu : e < u.1 := by rw [hu.1]; exact he
  have h6 : e < 6 := by omega
  have hle := rsn_le (σ0 := d.2.1) (td := td) (c := c) (bf := bf) (pr := pr) (K := K) (sl := sl) (len := len) (p := r) (j := j)
  have hR := reason_ok h.2.2.1 hE hr hj
  have hRu : f_X4_reasonFor u.2.1 (u.2.2 e) (nI r) (nI j) = some (nI (rsn d.2.1 td c bf pr K sl len r j)) := by rw [cg_reason hu.2.2, hu.2.1]; exact hR
  have c10u : u.2.2 e 10 0 = nI c := by rw [hu.2.1]; exact hc.1
  have h1u : u.2.1 1 0 = nI td := by rw [hu.2.2 1 (by decide)]; exact h.2.2.1
  have hpj := (hw.2.2.1 j hj).2
  have in1 : inb (nI (8 * e + j)) 48 := inb9 (by omega) (by decide)
  have hcl : (nI (8 * e + j)).toNatClampNeg = 8 * e + j := cl9 (by omega)
  have hwj := (hB j hj).2
  generalize hrr : rsn d.2.1 td c bf pr K sl len r j = R at hle hR hRu ⊢
  unfold f_L_acts_867
  by_cases h2 : 2 ≤ R
  · rw [x_sign_st hn he hc.1 h8 hr hj hR h2 hle, Option.bind_some, x_sign_st hun heu c10u h8 hr hj hRu h2 hle, Option.bind_some, if_pos rfl, if_pos (show (0 : Int32) ≤ nI R from nI_le (a := 0) (Nat.zero_le _) (by omega)), if_neg (show ¬ nI R ≤ 1 from nI_ge (a := 1) (by omega) (by omega)), if_pos rfl]
    unfold f_L_acts_949 f_L_acts_983
    rw [if_neg (by decide), if_neg (show ¬ nI R = 1 from fun q => by have := (nI_eq (b := 1) (by omega) (by decide)).mp q; omega), if_neg (show ¬ nI R = 0 from fun q => by have := (nI_zero (by omega)).mp q; omega)]
    exact AR.same h hu
  · obtain ⟨k1, k2, k3⟩ := rsn_01 (σ0 := d.2.1) (td := td) (c := c) (bf := bf) (pr := pr) (K := K) (sl := sl) (len := len) (r := r) (j := j) (by omega)
    rw [hrr] at k3
    have kd := opn_dif k1 k2
    by_cases h0 : R = 0
    · have kp := k3.mp h0
      obtain ⟨v, σ', m1, m2, m3, m4, m5⟩ := mark_ok (kd := 1) (q := r) hE k1 (Or.inl rfl) kd hr ⟨fun q => by omega, fun q => absurd kp.symm q⟩
      rw [h0] at hR hRu ⊢
      have hd' : (d.1, d.2.1, va_up d.2.2 e σ').2.2 e = σ' := up_eq
      have g := (v_slotState (d := (d.1, d.2.1, va_up d.2.2 e σ')) hn he (by rw [hd']; exact m4) hj).2
      have e2 : sst c bf (uN K len 1) (uN sl len j) (len + 1) j = 2 := (sst_2 j).mpr (by rw [m5, Nat.testBit_or, Nat.testBit_two_pow_self, Bool.or_true])
      rw [e2] at g
      have g2 := (v_sgF (d := (d.1, d.2.1, va_up d.2.2 e σ')) hn hpj).2
      rw [x_sign_0 hn he h.2.2.1 hc.1 h8 hr hj hR m1, Option.bind_some, x_sign_0 hun heu h1u c10u h8 hr hj hRu (by rw [hu.2.1]; exact m1), Option.bind_some, if_pos rfl, if_pos (show (0 : Int32) ≤ nI 0 by decide), if_pos (show nI 0 ≤ (1 : Int32) by decide), if_neg (nI_pos (by omega)), g, Option.bind_some, if_pos (show nI 2 = (2 : Int32) from rfl)]
      unfold f_L_acts_949 f_L_acts_983
      rw [if_neg (by decide), if_neg (by decide), if_pos (show nI 0 = (0 : Int32) from rfl), ix8, if_pos in1, hcl, hwj, g2, Option.bind_some, if_pos rfl]
      exact ⟨_, _, _, _, td, rfl, h.put h.2.2.1 (h.2.2.2.1.mono (by omega)) ⟨_, _, _, _, _, _, _, _, m4⟩ hB, hu.put hu.2.2⟩
    · obtain rfl : R = 1 := by omega
      have kp : ¬ pr j = r := fun q => h0 (k3.mpr q)
      obtain ⟨v, σ', m1, m2, m3, m4, m5⟩ := mark_ok (kd := 2) (q := r) hE k1 (Or.inr rfl) kd hr ⟨fun _ q => kp q.symm, fun _ => rfl⟩
      have hd' : (d.1, bump d.2.1 (pr j), va_up d.2.2 e σ').2.2 e = σ' := up_eq
      have g := (v_slotState (d := (d.1, bump d.2.1 (pr j), va_up d.2.2 e σ')) hn he (by rw [hd']; exact m4) hj).2
      have e2 : sst c bf (uN K len 2) (uN sl len j) (len + 1) j = 2 := (sst_2 j).mpr (by rw [m5, Nat.testBit_or, Nat.testBit_two_pow_self, Bool.or_true])
      rw [e2] at g
      have g2 := (v_sgF (d := (d.1, bump d.2.1 (pr j), va_up d.2.2 e σ')) hn hpj).2
      have g3 : (d.1, bump d.2.1 (pr j), va_up d.2.2 e σ').2.1 (3 + pr j) 4 = d.2.1 (3 + pr j) 4 + (1 : Int32) := by
        show bump d.2.1 (pr j) (3 + pr j) 4 = _
        rw [bump_4, upd_eq]
      rw [g3] at g2
      have hown := (hc.2.2.2.2.1 j hj).1
      rw [x_sign_1 hn he h.2.2.1 hc.1 h8 hr hj hown hpj hR m1, Option.bind_some, x_sign_1 hun heu h1u c10u h8 hr hj (by rw [hu.2.1]; exact hown) hpj hRu (by rw [hu.2.1]; exact m1), Option.bind_some, if_pos rfl, if_pos (show (0 : Int32) ≤ nI 1 by decide), if_pos (show nI 1 ≤ (1 : Int32) by decide), if_neg (nI_pos (by omega)), g, Option.bind_some, if_pos (show nI 2 = (2 : Int32) from rfl)]
      unfold f_L_acts_949 f_L_acts_983
      rw [if_neg (by decide), if_pos (show nI 1 = (1 : Int32) from rfl)]
      simp only [ix8, hcl, if_pos in1, hwj]
      rw [g2, Option.bind_some, if_pos rfl, if_neg (by decide)]
      refine ⟨_, _, _, _, td, rfl, h.put (by show bump d.2.1 (pr j) 1 0 = _; rw [bump_o (by omega)]; exact h.2.2.1) h.2.2.2.1.bump ⟨_, _, _, _, _, _, _, _, m4⟩ hB, hu.put (fun k hk => ?_)⟩
      by_cases q : k = 3 + pr j
      · subst q
        rw [bump_4, bump_4, hu.2.2 _ hk]
      · rw [bump_o q, bump_o q]
        exact hu.2.2 k hk
theorem a823_ok (h : LI t td d b w) (hu : Twin d u) (he : e < d.1) (hE : CE td (d.2.2 e) c len pc tm bf pr K sl dy pe se) (hB : ∀ j, j < c → b (8 * e + j) = nI (bf j) ∧ w (8 * e + j) = nI (pr j)) (hr : r < 8) (hj : j ≤ c) :
    AR t (f_L_acts_823 d u b w (nI e) 1 (nI c) (nI j) (nI r)) := by
  have hn := h.2.1
  have hw := hE.2.2.2.1
  have h8 := hw.1
  have hc := hE.2.2.2.2
  have hun : u.1 ≤ 6 := by rw [hu.1]; exact hn
  have heu : e < u.1 := by rw [hu.1]; exact he
  unfold f_L_acts_823
  by_cases hjc : j < c
  · have in1 : inb (nI (8 * e + j)) 48 := inb9 (by omega) (by decide)
    have hcl : (nI (8 * e + j)).toNatClampNeg = 8 * e + j := cl9 (by omega)
    rw [(v_why hn he h.2.2.1 hE hr hjc).2, Option.bind_some, if_neg (by decide), if_neg (nI_ge hjc (by omega)), ix8, if_pos in1, hcl, (hB j hjc).2, (v_sgF hn (hw.2.2.1 j hjc).2).2, Option.bind_some]
    exact a867_ok h hu he hE hB hr hjc
  · rw [v_why_no hn he hE hr (show c ≤ j by omega) (by omega), Option.bind_some, if_neg (by decide), if_pos (nI_le (show c ≤ j by omega) (by omega))]
    exact a867_no h hu (x_sign_sl hn he hc.1 hr (by omega) (by omega)) (x_sign_sl hun heu (by rw [hu.2.1]; exact hc.1) hr (by omega) (by omega))
def s_sign (d u : Dk) (b w : Nat → Int32) (x5 x7 x8 s0 z1 z2 : Int32) : Option (Int32 × Dk × Dk × (Nat → Int32) × (Nat → Int32)) := (if x8 = 0 then (f_L_acts_821 d u b w x7 x8 s0 z1 z2) else (if s0 ≤ z2 then (f_L_acts_821 d u b w x7 x8 s0 z1 z2) else ((f_L_low (x5 >>> ((7 : Int32) &&& 31)) (3 : Int32)).bind fun z3 => (if z3 ≤ 0 then ((f_L_low (x5 >>> ((9 : Int32) &&& 31)) (2 : Int32)).bind fun z4 => (if z4 = 0 then (if inb (((8 : Int32) * x7) + z2) 48 then ((gm_delegateToday d (w (((8 : Int32) * x7) + z2).toNatClampNeg)).bind fun z5 => (if z5 < 0 then (f_L_acts_823 d u b w x7 x8 s0 z2 z1) else (if inb (((8 : Int32) * x7) + z2) 48 then ((gm_delegateToday d (w (((8 : Int32) * x7) + z2).toNatClampNeg)).bind fun z6 => (f_L_acts_823 d u b w x7 x8 s0 z2 z6)) else none))) else none) else (f_L_acts_823 d u b w x7 x8 s0 z2 z1))) else (if inb (((8 : Int32) * x7) + z2) 48 then (f_L_acts_823 d u b w x7 x8 s0 z2 (w (((8 : Int32) * x7) + z2).toNatClampNeg)) else none)))))
theorem s_sign_no (h : LI t td d b w) (hu : Twin d u) (h6 : e < 6) (he : d.1 ≤ e) (hr : r < 8) (x5 x12 : Int32) : AR t (s_sign d u b w x5 (nI e) 0 0 (nI r) x12) := by
  unfold s_sign f_L_acts_821
  rw [if_pos rfl]
  exact a823_no h hu h6 he hr x12
theorem s_sign_ok (h : LI t td d b w) (hu : Twin d u) (he : e < d.1) (hE : CE td (d.2.2 e) c len pc tm bf pr K sl dy pe se) (hB : ∀ j, j < c → b (8 * e + j) = nI (bf j) ∧ w (8 * e + j) = nI (pr j)) (hr : r < 8) (hj : j ≤ c) (x5 : Int32) :
    AR t (s_sign d u b w x5 (nI e) 1 (nI c) (nI r) (nI j)) := by
  have hn := h.2.1
  have hw := hE.2.2.2.1
  have h8 := hw.1
  unfold s_sign f_L_acts_821
  rw [if_neg (by decide)]
  by_cases hjc : j < c
  · have in1 : inb (nI (8 * e + j)) 48 := inb9 (by omega) (by decide)
    have hcl : (nI (8 * e + j)).toNatClampNeg = 8 * e + j := cl9 (by omega)
    have hpj := (hw.2.2.1 j hjc).2
    obtain ⟨k3, b3, l3⟩ := low_ok (x5 >>> ((7 : Int32) &&& 31)) (n := 3) (by decide) (by decide)
    obtain ⟨k4, b4, l4⟩ := low_ok (x5 >>> ((9 : Int32) &&& 31)) (n := 2) (by decide) (by decide)
    have l3 : f_L_low (x5 >>> ((7 : Int32) &&& 31)) 3 = some (nI k3) := l3
    have l4 : f_L_low (x5 >>> ((9 : Int32) &&& 31)) 2 = some (nI k4) := l4
    rw [if_neg (nI_ge hjc (by omega)), l3, Option.bind_some]
    simp only [ix8, hcl, if_pos in1, (hB j hjc).2]
    split
    · rw [l4, Option.bind_some]
      split
      · rw [(v_delT hn h.2.2.1 hpj).2, Option.bind_some]
        rcases other_cases h.2.2.2.1 hpj (nI td) with q | ⟨r2, hr2, -, q⟩
        · rw [q, if_pos (by decide)]
          exact a823_ok h hu he hE hB hr hj
        · rw [q, if_neg (nI_pos (by omega)), Option.bind_some]
          exact a823_ok h hu he hE hB hr2 hj
      · exact a823_ok h hu he hE hB hr hj
    · exact a823_ok h hu he hE hB hpj hj
  · rw [if_pos (nI_le (show c ≤ j by omega) (by omega))]
    exact a823_ok h hu he hE hB hr hj
end
