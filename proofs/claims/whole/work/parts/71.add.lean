/-! One event more -/
section
def uN (f : Nat → Nat) (i v : Nat) : Nat → Nat := fun x => if x = i then v else f x
theorem uN_lt {f : Nat → Nat} {i v x : Nat} (h : x < i) : uN f i v x = f x := if_neg (by omega)
theorem uN_eq {f : Nat → Nat} {i v : Nat} : uN f i v i = v := if_pos rfl
theorem sgn_cong {K K' sl sl' : Nat → Nat} {n : Nat} (h : ∀ i, i < n → K' i = K i ∧ sl' i = sl i) : ∀ i, i ≤ n → sgn K' sl' i = sgn K sl i
  | 0, _ => rfl
  | i + 1, hi => by
    rw [sgn, sgn, sgn_cong h i (by omega), (h i (by omega)).1, (h i (by omega)).2]
theorem sta_cong {c : Nat} {K K' sl sl' : Nat → Nat} {n : Nat} (h : ∀ i, i < n → K' i = K i ∧ sl' i = sl i) : ∀ i, i ≤ n → sta c K' sl' i = sta c K sl i
  | 0, _ => rfl
  | i + 1, hi => by
    rw [sta, sta, sta_cong h i (by omega), (h i (by omega)).1, sgn_cong h (i + 1) hi]
theorem opd_cong {c : Nat} {bf K K' sl sl' : Nat → Nat} {n : Nat} (h : ∀ i, i < n → K' i = K i ∧ sl' i = sl i) : ∀ i, i ≤ n → opd c bf K' sl' i = opd c bf K sl i
  | 0, _ => rfl
  | i + 1, hi => by
    rw [opd, opd, opd_cong h i (by omega), (h i (by omega)).1, sgn_cong h (i + 1) hi]
theorem ond_cong {c : Nat} {bf K K' sl sl' dy dy' : Nat → Nat} {n : Nat} (h : ∀ i, i < n → K' i = K i ∧ sl' i = sl i) (hd : ∀ i, i < n → dy' i = dy i) : ∀ i, i ≤ n → ∀ j, ond c bf K' sl' dy' i j = ond c bf K sl dy i j
  | 0, _, j => rfl
  | i + 1, hi, j => by
    rw [ond, ond, ond_cong h hd i (by omega) j, (h i (by omega)).1, sgn_cong h (i + 1) hi, opd_cong h i (by omega), hd i (by omega)]
theorem rmd_cong {K K' sl sl' : Nat → Nat} {n : Nat} (h : ∀ i, i < n → K' i = K i ∧ sl' i = sl i) : ∀ i, i ≤ n → ∀ j, rmd K' sl' i j = rmd K sl i j
  | 0, _, j => rfl
  | i + 1, hi, j => by
    rw [rmd, rmd, rmd_cong h i (by omega) j, (h i (by omega)).1, (h i (by omega)).2]
theorem smj_cong {f g : Nat → Nat} : ∀ n, (∀ j, j < n → f j = g j) → smj f n = smj g n
  | 0, _ => rfl
  | n + 1, h => by rw [smj, smj, smj_cong n (fun j hj => h j (by omega)), h n (by omega)]
theorem smj_le {f : Nat → Nat} {b : Nat} (h : ∀ j, f j ≤ b) : ∀ n, smj f n ≤ b * n
  | 0 => Nat.le_refl _
  | n + 1 => by
    have := smj_le h n
    have := h n
    rw [smj, Nat.mul_succ]
    omega
theorem smj_inc {f g : Nat → Nat} {s : Nat} (hs : g s = f s + 1) (h : ∀ j, j ≠ s → g j = f j) : ∀ n, s < n → smj g n = smj f n + 1
  | 0, h0 => absurd h0 (by omega)
  | n + 1, hn => by
    rw [smj, smj]
    by_cases e : s = n
    · subst e
      rw [smj_cong s (fun j hj => h j (by omega)), hs]
      omega
    · rw [smj_inc hs h n (by omega), h n (fun q => e q.symm)]
      omega
theorem smj_0 : ∀ n, smj (fun _ => 0) n = 0
  | 0 => rfl
  | n + 1 => by rw [smj, smj_0 n]
theorem sta_one {td c len : Nat} {bf pr K sl dy : Nat → Nat} (hw : Wf td c len bf pr K sl dy) (hc : 0 < c) : ∀ i, i ≤ len → sta c K sl i = 1 → sgn K sl i ≠ 2 ^ c - 1
  | 0, _, h => by simp [sta] at h
  | i + 1, hi, h => by
    have ih := sta_one hw hc i (by omega)
    obtain ⟨w1, w2, w3, w4, w5, w6⟩ := hw.2.2.2.1 i (by omega)
    have h2 : 2 ^ 1 ≤ 2 ^ c := Nat.pow_le_pow_right (by decide) hc
    rw [sta] at h
    by_cases h0 : K i = 0
    · have : i = 0 := w3.mpr h0
      subst this
      rw [sgn, if_neg (by omega), sgn]
      omega
    · rw [if_neg h0] at h
      by_cases h1 : K i = 1 ∨ K i = 2
      · rw [if_pos h1] at h
        intro e
        rw [if_pos e] at h
        omega
      · rw [if_neg h1] at h
        rw [sgn, if_neg h1]
        by_cases h6 : K i = 6
        · rw [if_pos h6] at h
          exact ih h
        · rw [if_neg h6] at h
          unfold endS at h
          split at h
          · omega
          · split at h <;> omega
/-- room for one event more while the envelope isn't ended -/
theorem Wf.room {td c len : Nat} {bf pr K sl dy : Nat → Nat} (hw : Wf td c len bf pr K sl dy) (hc : 0 < c) (hs : len = 0 ∨ sta c K sl len = 1) : len ≤ 48 := by
  rcases hs with h | hs
  · omega
  · have h0 : 0 < len := by
      rcases Nat.eq_zero_or_pos len with h | h
      · subst h; simp [sta] at hs
      · exact h
    obtain ⟨-, h1⟩ := hw.2.2.2.2.1 h0
    rw [hs, if_pos (by decide)] at h1
    have h2 := smj_le hw.2.2.2.2.2 c
    have h3 := hw.sg len (Nat.le_refl _)
    have h4 := pcn_c hw.1 h3
    have h5 : pcn (sgn K sl len) ≠ c := fun e => sta_one hw hc len (Nat.le_refl _) hs ((pcn_all hw.1 h3).mp e)
    have := hw.1
    omega
theorem Wf.add {td c len : Nat} {bf pr K sl dy : Nat → Nat} (hw : Wf td c len bf pr K sl dy) {kd sv dv : Nat} (hc : 0 < c) (h6 : kd ≤ 6) (h0 : len = 0 ↔ kd = 0) (hs : 0 < len → sta c K sl len = 1) (hv : kd = 1 ∨ kd = 2 ∨ kd = 6 → sv < c ∧ (sgn K sl len).testBit sv = false) (ho : kd = 1 ∨ kd = 2 → dif (bf sv) (sgn K sl len) = 0) (hd : dv ≤ td) (hr : kd = 6 → rmd K sl len sv < 5) :
    Wf td c (len + 1) bf pr (uN K len kd) (uN sl len sv) (uN dy len dv) := by
  have hroom := hw.room hc (by rcases Nat.eq_zero_or_pos len with h | h; exact Or.inl h; exact Or.inr (hs h))
  have cg : ∀ i, i < len → uN K len kd i = K i ∧ uN sl len sv i = sl i := fun i hi => ⟨uN_lt hi, uN_lt hi⟩
  have eS := sgn_cong cg
  have eT := sta_cong (c := c) cg
  have eR := rmd_cong cg
  have hl := Nat.le_refl len
  refine ⟨hw.1, by omega, hw.2.2.1, fun i hi => ?_, fun _ => ⟨hc, ?_⟩, fun j => ?_⟩
  · by_cases hil : i = len
    · subst hil
      rw [uN_eq, uN_eq, uN_eq, eT _ hl, eS _ hl]
      exact ⟨h6, hd, h0, hs, hv, ho⟩
    · have hil : i < len := by omega
      rw [uN_lt hil, uN_lt hil, uN_lt hil, eT _ (by omega), eS _ (by omega)]
      exact hw.2.2.2.1 i hil
  · rcases Nat.eq_zero_or_pos len with h | h
    · subst h
      have hk : kd = 0 := h0.mp rfl
      subst hk
      have e1 : sta c (uN K 0 0) (uN sl 0 sv) (0 + 1) = 1 := by rw [sta, uN_eq, if_pos rfl]
      have e2 : sgn (uN K 0 0) (uN sl 0 sv) (0 + 1) = 0 := by rw [sgn, uN_eq, if_neg (by omega)]; rfl
      have e3 : smj (rmd (uN K 0 0) (uN sl 0 sv) (0 + 1)) c = 0 := by
        rw [smj_cong (g := fun _ => 0) c (fun j _ => by rw [rmd, uN_eq, if_neg (by omega)]; rfl), smj_0]
      rw [e1, e2, e3]
      decide
    · have hst := hs h
      have hk : ¬ kd = 0 := fun e => by have := h0.mpr e; omega
      obtain ⟨-, hcnt⟩ := hw.2.2.2.2.1 h
      rw [hst, if_pos (by decide)] at hcnt
      have hsg := hw.sg len hl
      rcases (show (kd = 1 ∨ kd = 2) ∨ kd = 6 ∨ (kd = 3 ∨ kd = 4 ∨ kd = 5) by omega) with h1 | h1 | h1
      · obtain ⟨v1, v2⟩ := hv (by omega)
        have e2 : sgn (uN K len kd) (uN sl len sv) (len + 1) = sgn K sl len ||| 2 ^ sv := by rw [sgn, uN_eq, uN_eq, if_pos h1, eS _ hl]
        have e1 : sta c (uN K len kd) (uN sl len sv) (len + 1) ≤ 2 := by
          rw [sta, uN_eq, if_neg hk, if_pos h1]
          split <;> omega
        have e3 : smj (rmd (uN K len kd) (uN sl len sv) (len + 1)) c = smj (rmd K sl len) c := smj_cong c (fun j _ => by rw [rmd, uN_eq, if_neg (by omega), eR _ hl])
        rw [if_pos e1, e2, e3, pcn_add (lt8 hsg hw.1) (by have := hw.1; omega) v2]
        omega
      · obtain ⟨v1, v2⟩ := hv (by omega)
        subst h1
        have e2 : sgn (uN K len 6) (uN sl len sv) (len + 1) = sgn K sl len := by rw [sgn, uN_eq, if_neg (by omega), eS _ hl]
        have e1 : sta c (uN K len 6) (uN sl len sv) (len + 1) ≤ 2 := by
          rw [sta, uN_eq, if_neg (by omega), if_neg (by omega), if_pos rfl, eT _ hl]
          omega
        have e3 : smj (rmd (uN K len 6) (uN sl len sv) (len + 1)) c = smj (rmd K sl len) c + 1 := by
          refine smj_inc (s := sv) ?_ (fun j hj => ?_) c v1
          · rw [rmd, uN_eq, uN_eq, if_pos ⟨rfl, rfl⟩, eR _ hl]
          · rw [rmd, uN_eq, uN_eq, if_neg (fun q => hj q.2), eR _ hl]
        rw [if_pos e1, e2, e3]
        omega
      · have e2 : sgn (uN K len kd) (uN sl len sv) (len + 1) = sgn K sl len := by rw [sgn, uN_eq, if_neg (by omega), eS _ hl]
        have e1 : ¬ sta c (uN K len kd) (uN sl len sv) (len + 1) ≤ 2 := by
          rw [sta, uN_eq, if_neg hk, if_neg (by omega), if_neg (by omega)]
          unfold endS
          split
          · omega
          · split <;> omega
        have e3 : smj (rmd (uN K len kd) (uN sl len sv) (len + 1)) c = smj (rmd K sl len) c := smj_cong c (fun j _ => by rw [rmd, uN_eq, if_neg (by omega), eR _ hl])
        rw [if_neg e1, e2, e3]
        omega
  · have := hw.2.2.2.2.2 j
    rw [rmd, uN_eq, uN_eq, eR _ hl]
    split
    · rename_i q
      rw [q.2]
      have := hr q.1
      omega
    · exact this
end
