/-! The law's look at the orders -/
section
theorem nI_mul (a b : Nat) : nI a * nI b = nI (a * b) := (Int32.ofNat_mul a b).symm
theorem fct_le {c : Nat} (h : c ≤ 8) : fct c ≤ 40320 := (by decide +kernel : ∀ c, c < 9 → fct c ≤ 40320) c (by omega)
set_option maxRecDepth 4000 in
theorem share_1 : ∀ c, c < 9 → ∀ a, a < 9 → ¬ c = 0 → (Op.cmpValue (FP.fcmp (FP.fdiv (FP.i2f (nI a)) (FP.i2f (nI c))) FP.fconst1) .l = 0 ↔ a = c) := by decide +kernel
theorem dk_ways {td : Nat} {d d' : Dk} (hd : DK td d) (h : Twin d d') : DK td d' := h.dk hd
theorem Twin.tr {a b c : Dk} (h : Twin a b) (g : Twin b c) : Twin a c := ⟨g.1.trans h.1, g.2.1.trans h.2.1, fun x hx => (g.2.2 x hx).trans (h.2.2 x hx)⟩
theorem Twin.sm {a b : Dk} (h : Twin a b) : Twin b a := ⟨h.1.symm, h.2.1.symm, fun x hx => (h.2.2 x hx).symm⟩
theorem Twin.rf {a : Dk} : Twin a a := ⟨rfl, rfl, fun _ _ => rfl⟩
theorem twin_up {d : Dk} (g : Nat → Int32) : Twin d (d.1, va_up d.2.1 2 g, d.2.2) := ⟨rfl, rfl, fun x hx => up_ne hx⟩
def zer (bf : Nat → Nat) : Nat → Nat
  | 0 => 0
  | j + 1 => if bf j = 0 then zer bf j + 1 else zer bf j
theorem zer_le (bf : Nat → Nat) : ∀ j, zer bf j ≤ j
  | 0 => Nat.le_refl _
  | j + 1 => by
    have := zer_le bf j
    rw [zer]; split <;> omega
theorem zer_all {bf : Nat → Nat} : ∀ c, zer bf c = c → ∀ j, j < c → bf j = 0
  | 0, _, j, hj => absurd hj (by omega)
  | c + 1, h, j, hj => by
    have h1 := zer_le bf c
    rw [zer] at h
    by_cases hb : bf c = 0
    · rw [if_pos hb] at h
      by_cases e : j = c
      · subst e; exact hb
      · exact zer_all c (by omega) j (by omega)
    · rw [if_neg hb] at h; omega
set_option maxHeartbeats 1000000 in
theorem counts_72 {td e c len pc tm : Nat} {d : Dk} {b w : Nat → Int32} {bf pr K sl dy : Nat → Nat} {pe se : Nat → Int32} (hd : DK td d) (he : e < d.1) (hE : CE td (d.2.2 e) c len pc tm bf pr K sl dy pe se) :
    f_L_counts_72 b w d (nI e) (nI c) (nI (TT bf c 0)) (nI (TT bf c (sgn K sl len))) (nI (fct c)) (nI (zer bf c)) = some (1, d) := by
  have hw := hE.2.2.2.1
  have h8 := hw.1
  have hn := hd.1
  have hsg := hw.sg len (Nat.le_refl _)
  have hb : ∀ j, j < c → bf j < 2 ^ j := fun j hj => (hw.2.2.1 j hj).1
  obtain ⟨a1, a2, a3⟩ := TT_bnd h8 hb c 0 (Nat.two_pow_pos c) (by rw [show pcn 0 = 0 by decide, Nat.sub_zero])
  obtain ⟨-, b2, -⟩ := TT_bnd h8 hb _ (sgn K sl len) hsg rfl
  have b3 := TT_sgn hw len (Nat.le_refl _)
  have f8 := fct_le h8
  have ho : dp bf c 0 (2 ^ c - 1) (2 ^ c - 1) = TT bf c 0 := left_eq h8 (Nat.two_pow_pos c)
  have hst := sta_le c K sl len
  have h163 : f_L_counts_163 b w d (nI e) (nI (TT bf c 0)) (nI (TT bf c (sgn K sl len))) = some (1, d) := by
    unfold f_L_counts_163
    rw [v_events hn he hE, Option.bind_some]
    by_cases hl : 1 < len
    · rw [if_pos (show (1 : Int32) < nI len from nI_lt (a := 1) hl (by have := hw.2.1; omega))]
    · rw [if_neg (show ¬ (1 : Int32) < nI len from nI_nlt (a := 1) (by omega) (by decide))]
      have hs0 : sgn K sl len = 0 := by
        rcases (show len = 0 ∨ len = 1 by omega) with e | e
        · rw [e, sgn]
        · subst e
          have := ((hw.2.2.2.1 0 (by omega)).2.2.1).mp rfl
          rw [sgn, this, if_neg (by omega), sgn]
      rw [hs0, if_pos rfl]
  have h147 : ∀ s : Int32, f_L_counts_147 b w d (nI e) (nI c) (nI (TT bf c 0)) (nI (TT bf c (sgn K sl len))) (nI (fct c)) (nI (zer bf c)) s s = some (1, d) := by
    intro s
    unfold f_L_counts_147
    rw [if_pos rfl]
    by_cases hz : zer bf c < c
    · rw [if_pos (nI_lt hz (by omega))]; exact h163
    · have hzc : zer bf c = c := by have := zer_le bf c; omega
      rw [hzc, if_neg (nI_nlt (Nat.le_refl _) (by omega)), a3 (zer_all c hzc), if_pos rfl, ← a3 (zer_all c hzc)]
      exact h163
  have h122 : f_L_counts_122 b w d (nI e) (nI c) (nI (TT bf c 0)) (nI (TT bf c (sgn K sl len))) (nI (fct c)) (nI (zer bf c)) (if sta c K sl len = 2 then 1 else 0) = some (1, d) := by
    unfold f_L_counts_122 f_L_counts_146
    obtain ⟨g1, g2⟩ := v_share hn he hE
    by_cases hc0 : c = 0
    · have h2 : ¬ sta c K sl len = 2 := by
        intro h
        have hlen : 0 < len := by
          rcases Nat.eq_zero_or_pos len with e | e
          · rw [e, sta] at h; omega
          · exact e
        have := (hw.2.2.2.2.1 hlen).1
        omega
      have e0 : nI c ≤ 0 := by rw [hc0]; decide
      rw [if_neg h2, if_pos e0, ite_self]
      exact h147 0
    · rw [if_neg (show ¬ nI c ≤ 0 from nI_nle (by omega) (by omega)), g1, Option.bind_some, if_neg hc0]
      have hs1 := share_1 c (by omega) (pcn (sgn K sl len)) (by have := pcn_le (sgn K sl len); omega) hc0
      have hpa := pcn_all h8 hsg
      by_cases h2 : sta c K sl len = 2
      · have hall := sta_two len h2
        have hT : TT bf c (sgn K sl len) = 1 := by
          unfold TT
          rw [hpa.mpr hall, Nat.sub_self, tr]
        have hj := h147 1
        rw [hT] at hj
        rw [if_pos h2, hT, if_pos (show nI 1 = (1 : Int32) from rfl), if_pos (hs1.mpr (hpa.mpr hall))]
        exact hj
      · have hna : ¬ pcn (sgn K sl len) = c := fun e => h2 (all_two hw (by omega) (hpa.mp e))
        rw [if_neg h2, if_neg (fun q => hna (hs1.mp q)), ite_self]
        exact h147 0
  unfold f_L_counts_72
  rw [v_byAll hn he hE, ho, Option.bind_some, if_pos rfl, if_neg (show ¬ nI (TT bf c 0) < 1 from nI_nlt (b := 1) a2 (by omega)), if_neg (nI_nlt a1 (by omega)), if_neg (show ¬ nI (TT bf c (sgn K sl len)) < 1 from nI_nlt (b := 1) b2 (by omega)), if_neg (nI_nlt b3 (by omega)), (v_state hn he hE).1, Option.bind_some]
  by_cases h2 : sta c K sl len = 2
  · rw [if_pos h2] at h122
    rw [h2, if_pos (show nI 2 = (2 : Int32) from rfl)]
    exact h122
  · rw [if_neg h2] at h122
    rw [if_neg (show ¬ nI (sta c K sl len) = 2 from fun q => h2 ((nI_eq (b := 2) (by omega) (by decide)).mp q))]
    exact h122
theorem counts_29 {td e c len pc tm : Nat} {d : Dk} {b w : Nat → Int32} {bf pr K sl dy : Nat → Nat} {pe se : Nat → Int32} (hd : DK td d) (he : e < d.1) (hE : CE td (d.2.2 e) c len pc tm bf pr K sl dy pe se) (hB : ∀ j, j < c → b (8 * e + j) = nI (bf j)) :
    ∀ (m j : Nat), j + m = c → ∀ fu, m < fu → f_L_counts_29 b w fu d (nI e) (nI c) (nI (TT bf c 0)) (nI (TT bf c (sgn K sl len))) (nI (fct j)) (nI (zer bf j)) (nI j) = some (1, d) := by
  have hw := hE.2.2.2.1
  have h8 := hw.1
  have hn := hd.1
  intro m
  induction m with
  | zero =>
    intro j hj fu hfu
    obtain ⟨fu, rfl⟩ : ∃ g, fu = g + 1 := ⟨fu - 1, by omega⟩
    obtain rfl : j = c := by omega
    rw [f_L_counts_29, if_pos (nI_le (Nat.le_refl _) (by omega))]
    exact counts_72 hd he hE
  | succ m ih =>
    intro j hj fu hfu
    obtain ⟨fu, rfl⟩ : ∃ g, fu = g + 1 := ⟨fu - 1, by omega⟩
    have ih := ih (j + 1) (by omega) fu (by omega)
    have hjc : j < c := by omega
    have hbj := (hw.2.2.1 j hjc).1
    have hb8 := hw.b8 j hjc
    rw [f_L_counts_29, if_neg (nI_ge hjc (by omega)), ix8, if_pos (inb9 (by omega) (by decide)), cl9 (by omega), hB j hjc, s1, nI_mul, s1, nI_add0]
    have ef : fct j * (j + 1) = fct (j + 1) := by rw [fct, Nat.mul_comm]
    rw [ef]
    rw [zer] at ih
    by_cases h0 : bf j = 0
    · rw [if_pos h0] at ih
      rw [h0, if_pos nI_0]
      exact ih
    · rw [if_neg h0] at ih
      rw [if_neg (fun q => h0 ((nI_zero (by omega)).mp q))]
      exact ih
theorem counts_ok {td e c len pc tm : Nat} {d : Dk} {b w : Nat → Int32} {bf pr K sl dy : Nat → Nat} {pe se : Nat → Int32} (hd : DK td d) (he : e < d.1) (hE : CE td (d.2.2 e) c len pc tm bf pr K sl dy pe se) (hB : ∀ j, j < c → b (8 * e + j) = nI (bf j)) :
    ∃ d', f_L_counts b w d (nI e) = some (1, d') ∧ Twin d d' := by
  have hw := hE.2.2.2.1
  have h8 := hw.1
  have hn := hd.1
  obtain ⟨g1, o1⟩ := v_orders hn he hE
  have t1 := twin_up (d := d) g1
  obtain ⟨g2, o2⟩ := v_ordersLeft (d := (d.1, va_up d.2.1 2 g1, d.2.2)) hn he hE
  have t2 := t1.tr (twin_up (d := (d.1, va_up d.2.1 2 g1, d.2.2)) g2)
  have o3 := counts_29 (b := b) (w := w) (t2.dk hd) he hE hB c 0 (by omega) FU (by unfold FU; omega)
  rw [left_eq h8 (Nat.two_pow_pos c)] at o1
  rw [left_eq h8 (hw.sg len (Nat.le_refl _))] at o2
  refine ⟨_, ?_, t2⟩
  unfold f_L_counts
  rw [(v_slots hn he hE).1, Option.bind_some, o1, Option.bind_some, o2, Option.bind_some]
  exact o3
end
