/-! The law's calls by a script: a round more -/
section
variable {t td e : Nat} {d u : Dk} {b w : Nat → Int32}
theorem a464 {x8 x13 x14 : Int32} {d1 u1 : Dk} (h1 : gm_addRound d (nI e) x13 = some (x14, d1)) (h2 : gm_addRound u (nI e) x13 = some (x14, u1)) (h3 : gm_addRound d1 (nI e) 0 = some (if x8 = 0 then -1000001 else -1000002, d1)) :
    f_L_acts_464 d u b w (nI e) x8 x13 x14 = some (1, d1, u1, b, w) := by
  unfold f_L_acts_464 f_L_acts_509
  rw [h1, Option.bind_some, if_pos rfl, h2, Option.bind_some, if_pos rfl, h3, Option.bind_some]
  by_cases h : x8 = 0
  · rw [if_pos h, if_pos h, if_pos rfl]
  · rw [if_neg h, if_neg h, if_pos rfl]
/-- the bits from a place on -/
def rb (q : Nat) : Nat → Nat
  | 0 => 0
  | m + 1 => (q.testBit (7 - m)).toNat + rb q m
theorem rb_8 (q : Nat) : rb q 8 = pcn q := by
  unfold pcn
  show (q.testBit 0).toNat + ((q.testBit 1).toNat + ((q.testBit 2).toNat + ((q.testBit 3).toNat + ((q.testBit 4).toNat + ((q.testBit 5).toNat + ((q.testBit 6).toNat + ((q.testBit 7).toNat + 0))))))) = _
  omega
theorem a404_no {x8 x10 x13 x14 x15 : Int32} (h : x14 ≤ 0) : f_L_acts_404 FU d u b w (nI e) x8 x10 x13 x14 x15 0 = f_L_acts_464 d u b w (nI e) x8 x13 x14 := by
  show f_L_acts_404 (299 + 1) d u b w (nI e) x8 x10 x13 x14 x15 0 = _
  rw [f_L_acts_404, if_neg (by decide), if_pos h]
set_option maxHeartbeats 1000000 in
theorem ar_loop {c0 pc tm q : Nat} {K sl dy : Nat → Nat} {pe se : Nat → Int32} (h6 : e < 6) (hc0 : c0 ≤ 8) {x8 x14 : Int32} (hx : ¬ x14 ≤ 0) :
    ∀ (m i c : Nat) (τ : SS) (bf pr : Nat → Nat) (b w : Nat → Int32), i + m = 8 → c0 ≤ c → c + rb q m ≤ 8 → CE td τ c 0 pc tm bf pr K sl dy pe se → (∀ j, j < c → b (8 * e + j) = nI (bf j) ∧ w (8 * e + j) = nI (pr j)) → ∀ fu fv, m < fu → m < fv →
      ∃ (τ' : SS) (bf' pr' : Nat → Nat) (b' w' : Nat → Int32), (∀ n σ0 σ k0 x1, f_X4_addRound_65 fu n σ0 σ k0 τ x1 (nI q) (nI (2 ^ c0 - 1)) (nI i) = some (σ0, τ', 8)) ∧ CE td τ' (c + rb q m) 0 pc tm bf' pr' K sl dy pe se ∧
        f_L_acts_404 fv d u b w (nI e) x8 (nI c0) (nI q) x14 (nI c) (nI i) = f_L_acts_464 d u b' w' (nI e) x8 (nI q) x14 ∧ (∀ j, j < c + rb q m → b' (8 * e + j) = nI (bf' j) ∧ w' (8 * e + j) = nI (pr' j)) ∧ ∀ k, (k < 8 * e ∨ 8 * e + 8 ≤ k) → b' k = b k ∧ w' k = w k := by
  intro m
  induction m with
  | zero =>
    intro i c τ bf pr b w hi hcc hcm hE hB fu fv hfu hfv
    obtain ⟨fu, rfl⟩ : ∃ g, fu = g + 1 := ⟨fu - 1, by omega⟩
    obtain ⟨fv, rfl⟩ : ∃ g, fv = g + 1 := ⟨fv - 1, by omega⟩
    obtain rfl : i = 8 := by omega
    refine ⟨τ, bf, pr, b, w, fun n σ0 σ k0 x1 => ?_, hE, ?_, hB, fun k _ => ⟨rfl, rfl⟩⟩
    · rw [f_X4_addRound_65, if_pos (show (8 : Int32) ≤ nI 8 by decide)]
      rfl
    · rw [f_L_acts_404, if_pos (show (8 : Int32) ≤ nI 8 by decide)]
  | succ m ih =>
    intro i c τ bf pr b w hi hcc hcm hE hB fu fv hfu hfv
    obtain ⟨fu, rfl⟩ : ∃ g, fu = g + 1 := ⟨fu - 1, by omega⟩
    obtain ⟨fv, rfl⟩ : ∃ g, fv = g + 1 := ⟨fv - 1, by omega⟩
    have hi8 : i < 8 := by omega
    have n8 : ¬ (8 : Int32) ≤ nI i := nI_ge (b := 8) hi8 (by decide)
    have ei : 7 - m = i := by omega
    have er : rb q (m + 1) = (q.testBit i).toNat + rb q m := by rw [rb, ei]
    rw [er] at hcm
    cases hb : q.testBit i with
    | false =>
      rw [hb] at er hcm
      have er : rb q (m + 1) = rb q m := by rw [er]; exact Nat.zero_add _
      have hcm : c + rb q m ≤ 8 := by rw [show (false.toNat : Nat) = 0 from rfl] at hcm; omega
      obtain ⟨τ', bf', pr', b', w', h1, h2, h3, h4, h5⟩ := ih (i + 1) c τ bf pr b w (by omega) hcc hcm hE hB fu fv (by omega) (by omega)
      refine ⟨τ', bf', pr', b', w', fun n σ0 σ k0 x1 => ?_, by rw [er]; exact h2, ?_, by rw [er]; exact h4, h5⟩
      · rw [f_X4_addRound_65, if_neg n8, if_pos (by rw [has4' _ (show i < 31 by omega)]; exact hb), s1]
        exact h1 n σ0 σ k0 x1
      · rw [f_L_acts_404, if_neg n8, if_neg hx, i_bit _ (show i < 31 by omega), hb, if_neg (by decide), s1]
        exact h3
    | true =>
      rw [hb] at er hcm
      have er : rb q (m + 1) = 1 + rb q m := er
      have hcm : c + (1 + rb q m) ≤ 8 := hcm
      have ec : c + rb q (m + 1) = (c + 1) + rb q m := by rw [er]; omega
      have hc8 : c < 8 := by omega
      have hpw : (2 : Nat) ^ c0 ≤ 2 ^ c := Nat.pow_le_pow_right (by decide) hcc
      have hp0 : 0 < (2 : Nat) ^ c0 := Nat.two_pow_pos c0
      obtain ⟨σ1, a1, a2⟩ := append_ok hE hc8 hi8 (show 2 ^ c0 - 1 < 2 ^ c by omega)
      have in1 : inb (nI (8 * e + c)) 48 := inb9 (by omega) (by decide)
      have hcl : (nI (8 * e + c)).toNatClampNeg = 8 * e + c := cl9 (by omega)
      obtain ⟨τ', bf', pr', b', w', h1, h2, h3, h4, h5⟩ := ih (i + 1) (c + 1) σ1 (uN bf c (2 ^ c0 - 1)) (uN pr c i) (upd b (8 * e + c) (nI (2 ^ c0 - 1))) (upd w (8 * e + c) (nI i)) (by omega) (by omega) (by omega) a2 (fun j hj => by
        by_cases ej : j = c
        · subst ej
          rw [upd_eq, upd_eq, uN_eq, uN_eq]
          exact ⟨rfl, rfl⟩
        · rw [upd_ne (by omega), upd_ne (by omega), uN_lt (by omega), uN_lt (by omega)]
          exact hB j (by omega)) fu fv (by omega) (by omega)
      refine ⟨τ', bf', pr', b', w', fun n σ0 σ k0 x1 => ?_, by rw [ec]; exact h2, ?_, by rw [ec]; exact h4, fun k hk => ?_⟩
      · rw [f_X4_addRound_65, if_neg n8, if_neg (by rw [has4' _ (show i < 31 by omega), hb]; decide), a1, Option.bind_some, s1]
        exact h1 n σ0 σ k0 x1
      · rw [f_L_acts_404, if_neg n8, if_neg hx, i_bit _ (show i < 31 by omega), hb, if_pos (show nI true.toNat = (1 : Int32) by decide), ix8]
        simp only [lt, if_pos in1, hcl]
        rw [i_all hc0, s1, s1]
        exact h3
      · obtain ⟨q1, q2⟩ := h5 k hk
        rw [q1, q2, upd_ne (by omega), upd_ne (by omega)]
        exact ⟨rfl, rfl⟩
def rq (p k3 k4 : Nat) : Nat := 2 ^ p ||| (k3 &&& k4)
theorem rq_eq {p : Nat} (hp : p < 8) (k3 k4 : Nat) : ((1 : Int32) <<< (nI p &&& 31)) ||| (nI k3 &&& nI k4) = nI (rq p k3 k4) := by rw [i_one (by omega), fa_and, fa_or]; rfl
theorem rq_lt {p k3 k4 : Nat} (hp : p < 8) (h3 : k3 < 256) : rq p k3 k4 < 256 := Nat.or_lt_two_pow (n := 8) (Nat.pow_lt_pow_right (by decide) hp) (Nat.lt_of_le_of_lt Nat.and_le_left h3)
theorem rq_pos {p k3 k4 : Nat} : 0 < rq p k3 k4 := by
  have h : (rq p k3 k4).testBit p = true := by unfold rq; rw [Nat.testBit_or, Nat.testBit_two_pow_self, Bool.true_or]
  rcases Nat.eq_zero_or_pos (rq p k3 k4) with q | q
  · rw [q, Nat.zero_testBit] at h
    cases h
  · exact q
theorem a395_no {q : Nat} (h : LI t td d b w) (hu : Twin d u) (h6 : e < 6) (he : d.1 ≤ e) : AR t (f_L_acts_395 d u b w (nI e) 0 0 (nI q) (-1000001)) := by
  have hn := h.2.1
  have hun : u.1 ≤ 6 := by rw [hu.1]; exact hn
  have heu : u.1 ≤ e := by rw [hu.1]; exact he
  unfold f_L_acts_395
  rw [a404_no (by decide), a464 (x_addRound_no hn he h6 _) (x_addRound_no hun heu h6 _) (by rw [if_pos rfl]; exact x_addRound_no hn he h6 _)]
  exact AR.same h hu
theorem a395_st {q c len pc tm : Nat} {bf pr K sl dy : Nat → Nat} {pe se : Nat → Int32} (h : LI t td d b w) (hu : Twin d u) (he : e < d.1) (hE : CE td (d.2.2 e) c len pc tm bf pr K sl dy pe se) (hq0 : 0 < q) (hq : q < 256) (hno : ¬ sta c K sl len = 0 ∨ 8 < c + pcn q) :
    AR t (f_L_acts_395 d u b w (nI e) 1 (nI c) (nI q) (-1000003)) := by
  have hn := h.2.1
  have h8 := hE.2.2.2.1.1
  have hc := hE.2.2.2.2
  have hst := sta_le c K sl len
  have hun : u.1 ≤ 6 := by rw [hu.1]; exact hn
  have heu : e < u.1 := by rw [hu.1]; exact he
  have g11 : d.2.2 e 11 0 = nI (sta c K sl len) := hc.2.2.2.2.2.2.1
  unfold f_L_acts_395
  rw [a404_no (by decide), a464 (x8 := 1) (x_addRound_st hn he hc.1 h8 g11 hst hq0 hq hno) (x_addRound_st hun heu (by rw [hu.2.1]; exact hc.1) h8 (by rw [hu.2.1]; exact g11) hst hq0 hq hno) (by rw [if_neg (show ¬ (1 : Int32) = 0 by decide)]; exact x_addRound_0 hn he)]
  exact AR.same h hu
theorem a395_ok {q c len pc tm : Nat} {bf pr K sl dy : Nat → Nat} {pe se : Nat → Int32} (h : LI t td d b w) (hu : Twin d u) (he : e < d.1) (hE : CE td (d.2.2 e) c len pc tm bf pr K sl dy pe se) (hB : ∀ j, j < c → b (8 * e + j) = nI (bf j) ∧ w (8 * e + j) = nI (pr j)) (hq0 : 0 < q) (hq : q < 256) (hs : sta c K sl len = 0) (hcq : c + pcn q ≤ 8) :
    AR t (f_L_acts_395 d u b w (nI e) 1 (nI c) (nI q) (nI (c + pcn q))) := by
  have hn := h.2.1
  have hw := hE.2.2.2.1
  have h8 := hw.1
  have hc := hE.2.2.2.2
  have hun : u.1 ≤ 6 := by rw [hu.1]; exact hn
  have heu : e < u.1 := by rw [hu.1]; exact he
  have h6 : e < 6 := by omega
  have hl := sta_zero hw hs
  subst hl
  have g11 : d.2.2 e 11 0 = nI 0 := by rw [hc.2.2.2.2.2.2.1, hs]
  have hpq : pcn q ≠ 0 := fun z => by have := (pcn0 hq).mp z; omega
  have hx : ¬ nI (c + pcn q) ≤ 0 := nI_nle (by omega) (by omega)
  obtain ⟨τ', bf', pr', b', w', h1, h2, h3, h4, h5⟩ := ar_loop (d := d) (u := u) (x8 := 1) (x14 := nI (c + pcn q)) (q := q) h6 h8 hx 8 0 c (d.2.2 e) bf pr b w rfl (Nat.le_refl _) (by rw [rb_8]; exact hcq) hE hB FU FU (by unfold FU; omega) (by unfold FU; omega)
  rw [rb_8] at h2 h4
  have h3 : f_L_acts_404 FU d u b w (nI e) 1 (nI c) (nI q) (nI (c + pcn q)) (nI c) 0 = f_L_acts_464 d u b' w' (nI e) 1 (nI q) (nI (c + pcn q)) := h3
  unfold f_L_acts_395
  rw [h3, a464 (x8 := 1) (x_addRound_ok hn he hc.1 h8 g11 hq0 hq hcq (h1 d.1 d.2.1 d.2.2 e (nI e)) h2.2.2.2.2.1) (x_addRound_ok hun heu (by rw [hu.2.1]; exact hc.1) h8 (by rw [hu.2.1]; exact g11) hq0 hq hcq (by rw [hu.2.1]; exact h1 u.1 u.2.1 d.2.2 e (nI e)) h2.2.2.2.2.1) (by rw [if_neg (show ¬ (1 : Int32) = 0 by decide)]; exact x_addRound_0 (d := (d.1, d.2.1, _)) hn he)]
  refine ⟨_, _, _, _, td, rfl, ?_, by rw [hu.2.1]; exact ⟨hu.1, rfl, hu.2.2⟩⟩
  refine ⟨by have := h.1; omega, h.2.1, h.2.2.1, h.2.2.2.1.mono (by omega), fun k hk => ?_⟩
  show ∃ c bf pr, EC td (va_up d.2.2 e τ' k) c bf pr ∧ _
  by_cases q : k = e
  · subst q
    rw [up_eq]
    exact ⟨_, bf', pr', ⟨0, pc, tm, K, sl, dy, pe, se, h2⟩, h4⟩
  · rw [up_ne q]
    obtain ⟨c2, bf2, pr2, ⟨l2, p2, t2, K2, s2, y2, pe2, se2, q1⟩, q2⟩ := h.2.2.2.2 k hk
    have := q1.2.2.2.1.1
    refine ⟨c2, bf2, pr2, ⟨l2, p2, t2, K2, s2, y2, pe2, se2, q1⟩, fun j hj => ?_⟩
    obtain ⟨r1, r2⟩ := h5 (8 * k + j) (by omega)
    rw [r1, r2]
    exact q2 j hj
end
