/-! Why not; what a person may sign -/
section
theorem why {td n c len pc tm k j : Nat} {σ0 σk τ τ1 : SS} {bf pr K sl dy : Nat → Nat} {pe se : Nat → Int32} (hD : DE td n σ0 τ) (htd : td < 2 ^ 31) (hk : k < 6) (hse : ∀ i, i < len → (K i = 1 ∨ K i = 2 ∨ K i = 6) → se i = nI (sl i)) (hw : Wf td c len bf pr K sl dy) (hr : RefE τ k c len pc tm bf pr K dy pe se) (hc : ClsE σk c len pc tm bf pr K sl dy pe se) (h1 : Keep τ τ1) (hj : j < c) (x1 : Int32) :
    ∃ (τ' : SS) (r : Nat), f_X5_why τ1 x1 (nI k) (nI j) = some (nI r, τ') ∧ f_X4_reasonFor σ0 σk x1 (nI j) = some (nI r) ∧ r ≤ 5 ∧ (r < 2 → sta c K sl len = 1 ∧ (dif (opd c bf K sl len) (sgn K sl len)).testBit j = true ∧ (r = 0 ↔ x1 = nI (pr j))) ∧
      Told τ1 τ' (sta c K sl len) (sgn K sl len) (opd c bf K sl len) (onn (τ1 21) c bf K sl (fun i => nI (dy i)) len) (rmd K sl len) ∧ Keep τ τ' := by
  obtain ⟨τ', l1, l2, l3⟩ := look hk hse hw hr h1
  have hst := sta_le c K sl len
  have h8 := hw.1
  have hD' := hD.keep l3
  obtain ⟨p0, p1, p2⟩ := hc.2.2.2.2.1 j hj
  have hpr := (hw.2.2.1 j hj).2
  have ho := open_told l2 hst
  have hown : τ' 6 (8 * k + j) = nI (pr j) := by rw [l3 6 (by decide)]; exact (hr.2.2.2.2.1 j hj).1
  have e5 : f_X5_why τ1 x1 (nI k) (nI j) = if sta c K sl len = 1 then (if (dif (opd c bf K sl len) (sgn K sl len)).testBit j = false then some (3, τ') else if x1 = nI (pr j) then some (0, τ') else if f_X3_otherOn (ds σ0 (pr j)) (σ0 1 0) = x1 then (if σ0 (3 + pr j) 4 < σ0 (3 + pr j) 3 then some (1, τ') else some (5, τ')) else some (4, τ')) else some (2, τ') := by
    unfold f_X5_why
    rw [l1, Option.bind_some, ix8, if_pos (inb9 (by omega) (by decide)), cl9 (by omega), l2.2.1, ho, hown, delg hD' hpr, sgtd hD' htd hpr]
    simp only [Option.bind_some, has5' _ (show j < 31 by omega)]
    by_cases hs : sta c K sl len = 1
    · simp only [hs, if_true]
      rw [if_pos (show nI 1 = 1 from rfl), if_pos (show nI 1 = 1 from rfl), if_pos (inb9 hpr (by decide)), cl9 (by omega), (hD'.2.2.2.2.2 (pr j) hpr).2.2.2.2.1]
    · have hn : ¬ nI (sta c K sl len) = 1 := fun e => hs ((nI_eq (b := 1) (by omega) (by decide)).mp e)
      simp only [if_neg hs, if_neg hn]
  have e4 : f_X4_reasonFor σ0 σk x1 (nI j) = if sta c K sl len = 1 then (if (dif (opd c bf K sl len) (sgn K sl len)).testBit j = false then some 3 else if x1 = nI (pr j) then some 0 else if f_X3_otherOn (ds σ0 (pr j)) (σ0 1 0) = x1 then (if σ0 (3 + pr j) 4 < σ0 (3 + pr j) 3 then some 1 else some 5) else some 4) else some 2 := by
    unfold f_X4_reasonFor
    rw [hc.2.2.2.2.2.2.1, hc.2.2.2.2.2.2.2.2.1, rg9 (by omega) (by decide), p0]
    have hstd : f_X4_standinOf (nI (pr j)) = some (.inr (pr j)) := by
      unfold f_X4_standinOf
      rw [if_neg (nI_pos (by omega)), if_pos (show nI (pr j) < 8 from nI_lt (b := 8) hpr (by decide)), cl9 (by omega)]
    rw [hstd]
    simp only [xn_inr, has4' _ (show j < 31 by omega)]
    by_cases hs : sta c K sl len = 1
    · simp only [hs, if_true]
      rw [if_pos (show nI 1 = 1 from rfl)]
      by_cases hx : x1 = nI (pr j)
      · rw [hx]
      · rw [if_neg (show ¬ nI (pr j) = x1 from fun e => hx e.symm), if_neg hx]
    · have hn : ¬ nI (sta c K sl len) = 1 := fun e => hs ((nI_eq (b := 1) (by omega) (by decide)).mp e)
      simp only [if_neg hs, if_neg hn]
  by_cases hs : sta c K sl len = 1
  · rw [if_pos hs] at e4 e5
    by_cases hb : (dif (opd c bf K sl len) (sgn K sl len)).testBit j = false
    · rw [if_pos hb] at e4 e5
      exact ⟨τ', 3, e5, e4, by decide, fun h => absurd h (by decide), l2, l3⟩
    · rw [if_neg hb] at e4 e5
      have hb' : (dif (opd c bf K sl len) (sgn K sl len)).testBit j = true := by simpa using hb
      by_cases hx : x1 = nI (pr j)
      · rw [if_pos hx] at e4 e5
        exact ⟨τ', 0, e5, e4, by decide, fun _ => ⟨hs, hb', fun _ => hx, fun _ => rfl⟩, l2, l3⟩
      · rw [if_neg hx] at e4 e5
        by_cases ho : f_X3_otherOn (ds σ0 (pr j)) (σ0 1 0) = x1
        · rw [if_pos ho] at e4 e5
          by_cases hl : σ0 (3 + pr j) 4 < σ0 (3 + pr j) 3
          · rw [if_pos hl] at e4 e5
            exact ⟨τ', 1, e5, e4, by decide, fun _ => ⟨hs, hb', fun h => absurd h (by decide), fun h => absurd h hx⟩, l2, l3⟩
          · rw [if_neg hl] at e4 e5
            exact ⟨τ', 5, e5, e4, by decide, fun h => absurd h (by decide), l2, l3⟩
        · rw [if_neg ho] at e4 e5
          exact ⟨τ', 4, e5, e4, by decide, fun h => absurd h (by decide), l2, l3⟩
  · rw [if_neg hs] at e4 e5
    exact ⟨τ', 2, e5, e4, by decide, fun h => absurd h (by decide), l2, l3⟩
theorem sa_whyNot : SA_whyNot Inv := by
  intro t n σ0 σ τ x1 x2 x3 ht hI
  obtain ⟨td, htd, hD, hE⟩ := id hI
  rcases per_cases x1 with ⟨e1, e2, -⟩ | ⟨p, hp, rfl, e1, e2, -⟩
  · refine ⟨0, va_up τ 24 (fun _ => 1), ?_, Or.inr ⟨?_, hI.keep k24, by rw [up_eq]⟩⟩
    · unfold f_X5_whyNot; rw [e1]; simp only [goes1]; rw [if_pos trivial, if_pos trivial]
    · unfold f_X4_whyNot; rw [e2]; rfl
  · rcases slot_out hD.1 hD.2.2.2.1 (σ := σ) (fun k hk => (hE k hk).cnt) x2 x3 with ⟨g1, g2⟩ | ⟨k, j, c', hk, hj, c8, c2, rfl, rfl, g1, g2, g3⟩
    · refine ⟨0, va_up τ 24 (fun _ => 1), ?_, Or.inr ⟨?_, hI.keep k24, by rw [up_eq]⟩⟩
      · unfold f_X5_whyNot; rw [e1, g1]; simp only [Option.bind_some, goes1]; rw [if_neg (by decide), if_pos trivial, if_pos trivial]
      · unfold f_X4_whyNot
        rcases g2 with g2 | ⟨k, g2, g3⟩
        · rw [e2, xb_inr, g2]; rfl
        · rw [e2, xb_inr, g2, xb_inr, g3]; rfl
    · obtain ⟨c, len, pc, tm, bf, pr, K, sl, dy, pe, se, k6, hpc, htm, hse, hw, hr, hc⟩ := hE k hk
      obtain rfl : c' = c := cnt_eq c2 hr.1 (by omega) (by have := hw.1; omega)
      obtain ⟨τ', r, q5, q4, -, -, l2, l3⟩ := why hD (by omega) k6 hse hw hr hc (k24 (v := fun _ => 0)) hj (nI p)
      refine ⟨nI r, τ', ?_, Or.inl ⟨?_, hI.keep l3, by rw [l2.t24, up_eq]⟩⟩
      · unfold f_X5_whyNot; rw [e1, g1]; simp only [Option.bind_some, goes0]; rw [if_neg (by decide), if_neg (by decide), if_neg (by decide), q5]; rfl
      · unfold f_X4_whyNot; rw [e2, xb_inr, g2, xb_inr, g3, xb_inr, q4]; rfl
end
