/-! Persons and their delegates -/
section
theorem EI.keep2 {td : Nat} {σ τ τ' : SS} {k : Nat} (h : EI td σ τ k) (hk : ∀ x, 2 ≤ x → x < 12 → τ' x = τ x) : EI td σ τ' k := by
  obtain ⟨c, len, pc, tm, bf, pr, K, sl, dy, pe, se, h1, h2, h3, h4, h5, ⟨r1, r2, r3, r4, r5, r6⟩, h7⟩ := h
  refine ⟨c, len, pc, tm, bf, pr, K, sl, dy, pe, se, h1, h2, h3, h4, h5, ⟨?_, ?_, ?_, ?_, fun j hj => ?_, fun i hi => ?_⟩, h7⟩
  · rw [hk 2 (by decide) (by decide)]; exact r1
  · rw [hk 3 (by decide) (by decide)]; exact r2
  · rw [hk 4 (by decide) (by decide)]; exact r3
  · rw [hk 5 (by decide) (by decide)]; exact r4
  · rw [hk 6 (by decide) (by decide), hk 7 (by decide) (by decide)]; exact r5 j hj
  · rw [hk 8 (by decide) (by decide), hk 9 (by decide) (by decide), hk 10 (by decide) (by decide), hk 11 (by decide) (by decide)]; exact r6 i hi
theorem delg {td n p : Nat} {σ0 τ : SS} (hD : DE td n σ0 τ) (hp : p < 8) : f_X5_delegated τ (nI p) = some (f_X3_otherOn (ds σ0 p) (σ0 1 0)) := by
  obtain ⟨-, d2, d3, -, -, d6⟩ := hD
  obtain ⟨p1, -, p3, p4, -⟩ := d6 p hp
  have hi : inb (nI p) 8 := inb9 hp (by decide)
  unfold f_X5_delegated f_X3_otherOn f_X5_in
  rw [if_pos hi, if_pos hi, if_pos hi, if_pos hi, cl9 (by omega), p1, p3, p4, d2, d3]
  show (if σ0 (3 + p) 0 = -1 then some (-1) else if (if nI td < σ0 (3 + p) 1 then (0 : Int32) else if σ0 (3 + p) 2 < nI td then 0 else 1) = 0 then some (-1) else some (σ0 (3 + p) 0)) = some (if nI td < σ0 (3 + p) 1 then -1 else if σ0 (3 + p) 2 < nI td then -1 else σ0 (3 + p) 0)
  by_cases h1 : nI td < σ0 (3 + p) 1
  · simp only [if_pos h1, if_true]
    split <;> rfl
  · by_cases h2 : σ0 (3 + p) 2 < nI td
    · simp only [if_neg h1, if_pos h2, if_true]
      split <;> rfl
    · simp only [if_neg h1, if_neg h2]
      rw [if_neg (show ¬ (1 : Int32) = 0 by decide)]
      split
      · rename_i h; rw [h]
      · rfl
theorem sgtd {td n p : Nat} {σ0 τ : SS} (hD : DE td n σ0 τ) (htd : td < 2 ^ 31) (hp : p < 8) : f_X5_signedToday τ (nI p) = some (σ0 (3 + p) 4) := by
  obtain ⟨-, d2, d3, -, -, d6⟩ := hD
  obtain ⟨-, -, -, -, -, x, hx, p17, p16⟩ := d6 p hp
  have hi : inb (nI p) 8 := inb9 hp (by decide)
  unfold f_X5_signedToday
  rw [if_pos hi, if_pos hi, cl9 (by omega), p17, d2, p16]
  by_cases h : x = td
  · rw [h, if_pos rfl, if_pos rfl]
  · rw [if_neg (fun e => h ((nI_eq (by omega) htd).mp e)), if_neg h]
theorem sa_delegateToday : SA_delegateToday Inv := by
  intro t n σ0 σ τ x1 ht hI
  obtain ⟨td, htd, hD, hE⟩ := id hI
  rcases per_cases x1 with ⟨e1, e2, e3⟩ | ⟨p, hp, rfl, e1, e2, e3⟩
  · refine ⟨0, va_up τ 24 (fun _ => 1), ?_, Or.inr ⟨?_, hI.keep k24, by rw [up_eq]⟩⟩
    · unfold f_X5_delegateToday; rw [e1]; simp only [goes1]; rw [if_pos trivial]
    · unfold f_X4_delegateToday; rw [e3]; rfl
  · refine ⟨f_X3_otherOn (ds σ0 p) (σ0 1 0), va_up τ 24 (fun _ => 0), ?_, Or.inl ⟨?_, hI.keep k24, by rw [up_eq]⟩⟩
    · unfold f_X5_delegateToday; rw [e1]; simp only [goes0]; rw [if_neg (by decide), delg (hD.keep k24) hp]; rfl
    · unfold f_X4_delegateToday; rw [e3, xb_inr]
theorem sa_signedFor : SA_signedFor Inv := by
  intro t n σ0 σ τ x1 ht hI
  obtain ⟨td, htd, hD, hE⟩ := id hI
  rcases per_cases x1 with ⟨e1, e2, e3⟩ | ⟨p, hp, rfl, e1, e2, e3⟩
  · refine ⟨0, va_up τ 24 (fun _ => 1), ?_, Or.inr ⟨?_, hI.keep k24, by rw [up_eq]⟩⟩
    · unfold f_X5_signedFor; rw [e1]; simp only [goes1]; rw [if_pos trivial]
    · unfold f_X4_signedFor; rw [e3]; rfl
  · refine ⟨σ0 (3 + p) 4, va_up τ 24 (fun _ => 0), ?_, Or.inl ⟨?_, hI.keep k24, by rw [up_eq]⟩⟩
    · unfold f_X5_signedFor; rw [e1]; simp only [goes0]; rw [if_neg (by decide), sgtd (hD.keep k24) (by omega) hp]; rfl
    · unfold f_X4_signedFor; rw [e3, xb_inr]
theorem DE.row {td n p : Nat} {σ0 τ σ0' τ' : SS} (hD : DE td n σ0 τ) (hp : p < 8) (h0 : ∀ x, x ≠ 12 → x ≠ 13 → x ≠ 14 → x ≠ 15 → x ≠ 24 → τ' x = τ x) (h1 : ∀ q, q ≠ p → ∀ x, 12 ≤ x → x < 16 → τ' x q = τ x q) (g0 : ∀ x, x ≠ 3 + p → σ0' x = σ0 x) (g4 : σ0' (3 + p) 4 = σ0 (3 + p) 4)
    (e : τ' 12 p = σ0' (3 + p) 0 ∧ (τ' 12 p = -1 ∨ ∃ r, r < 8 ∧ τ' 12 p = nI r) ∧ τ' 13 p = σ0' (3 + p) 1 ∧ τ' 14 p = σ0' (3 + p) 2 ∧ τ' 15 p = σ0' (3 + p) 3) : DE td n σ0' τ' := by
  obtain ⟨d1, d2, d3, d4, d5, d6⟩ := hD
  refine ⟨d1, by rw [h0 0 (by decide) (by decide) (by decide) (by decide) (by decide)]; exact d2, by rw [g0 1 (by omega)]; exact d3, by rw [h0 1 (by decide) (by decide) (by decide) (by decide) (by decide)]; exact d4, fun k a b => ?_, fun q hq => ?_⟩
  · rw [h0 2 (by decide) (by decide) (by decide) (by decide) (by decide), h0 3 (by decide) (by decide) (by decide) (by decide) (by decide), h0 4 (by decide) (by decide) (by decide) (by decide) (by decide), h0 5 (by decide) (by decide) (by decide) (by decide) (by decide)]
    exact d5 k a b
  · obtain ⟨q1, q2, q3, q4, q5, x, q6, q7, q8⟩ := d6 q hq
    have a16 := h0 16 (by decide) (by decide) (by decide) (by decide) (by decide)
    have a17 := h0 17 (by decide) (by decide) (by decide) (by decide) (by decide)
    by_cases hqp : q = p
    · subst hqp
      exact ⟨e.1, e.2.1, e.2.2.1, e.2.2.2.1, e.2.2.2.2, x, q6, by rw [a17]; exact q7, by rw [g4, a16]; exact q8⟩
    · rw [g0 (3 + q) (by omega), h1 q hqp 12 (by decide) (by decide), h1 q hqp 13 (by decide) (by decide), h1 q hqp 14 (by decide) (by decide), h1 q hqp 15 (by decide) (by decide), a16, a17]
      exact d6 q hq
theorem sa_revoke : SA_revoke Inv := by
  intro t n σ0 σ τ x1 ht hI
  obtain ⟨td, htd, hD, hE⟩ := id hI
  rcases per_cases x1 with ⟨e1, e2, e3⟩ | ⟨p, hp, rfl, e1, e2, e3⟩
  · refine ⟨0, va_up τ 24 (fun _ => 1), ?_, Or.inr (Or.inl ⟨?_, hI.keep k24, by rw [up_eq]⟩)⟩
    · unfold f_X5_revoke; rw [e1]; simp only [goes1]; rw [if_pos trivial, if_pos trivial]
    · unfold f_X4_revoke; rw [e3]; rfl
  · obtain ⟨p1, p2, -⟩ := hD.2.2.2.2.2 p hp
    have hi : inb (nI p) 8 := inb9 hp (by decide)
    by_cases h : σ0 (3 + p) 0 = -1
    · refine ⟨0, va_up τ 24 (fun _ => 2), ?_, Or.inr (Or.inr ⟨?_, hI.keep k24, by rw [up_eq]⟩)⟩
      · unfold f_X5_revoke; rw [e1]; simp only [goes2]; rw [if_neg (by decide), if_pos hi]; simp only [cl9 (show p < 2 ^ 31 by omega)]; rw [p1, if_pos h, if_pos trivial]
      · unfold f_X4_revoke; rw [e3, xb_inr, if_pos h]; rfl
    · refine ⟨σ0 (3 + p) 0, va_up (va_up τ 24 (fun _ => 0)) 12 (upd (τ 12) p (-1)), ?_, Or.inl ⟨va_up σ0 (3 + p) (upd (σ0 (3 + p)) 0 (-1)), σ, ?_, ?_, by rw [up_ne (by decide), up_eq]⟩⟩
      · unfold f_X5_revoke; rw [e1]; simp only [goes0, lt]; rw [if_neg (by decide), if_pos hi]; simp only [cl9 (show p < 2 ^ 31 by omega)]; rw [p1, if_neg h, if_neg (by decide), if_pos hi, if_pos hi, up_ne (by decide), p1]
      · unfold f_X4_revoke; rw [e3, xb_inr, if_neg h]; rfl
      · refine ⟨td, by omega, hD.row hp (fun x a1 a2 a3 a4 a5 => by rw [up_ne a1, up_ne a5]) (fun q hq x a1 a2 => ?_) (fun x hx => up_ne hx) (by rw [up_eq]; exact upd_ne (by decide)) ?_, fun k hk => (hE k hk).keep2 (fun x a1 a2 => by rw [up_ne (by omega), up_ne (by omega)])⟩
        · by_cases hx : x = 12
          · subst hx; rw [up_eq, upd_ne hq]
          · rw [up_ne hx, up_ne (by omega)]
        · obtain ⟨q1, q2, q3, q4, q5, -⟩ := hD.2.2.2.2.2 p hp
          refine ⟨by rw [up_eq, up_eq, upd_eq, upd_eq], Or.inl (by rw [up_eq, upd_eq]), ?_, ?_, ?_⟩
          · rw [up_ne (by decide), up_ne (by decide), up_eq, upd_ne (by decide)]; exact q3
          · rw [up_ne (by decide), up_ne (by decide), up_eq, upd_ne (by decide)]; exact q4
          · rw [up_ne (by decide), up_ne (by decide), up_eq, upd_ne (by decide)]; exact q5
set_option maxHeartbeats 1000000 in
theorem sa_delegate : SA_delegate Inv := by
  intro t n σ0 σ τ x1 x2 x3 x4 x5 ht hI
  obtain ⟨td, htd, hD, hE⟩ := id hI
  have bad1 : (f_X5_isPerson x1 = 0 ∨ f_X5_isPerson x2 = 0) → f_X5_delegate τ x1 x2 x3 x4 x5 = some (0, va_up τ 24 (fun _ => 1)) := by
    intro h
    unfold f_X5_delegate
    by_cases h1 : f_X5_isPerson x1 = 0
    · simp only [h1, goes1, if_true, ite_self]
    · have h2 : f_X5_isPerson x2 = 0 := by rcases h with h | h; exact absurd h h1; exact h
      simp only [h1, h2, goes1, if_true, if_false, ite_self]
  rcases per_cases x1 with ⟨e1, e2, e3⟩ | ⟨p, hp, rfl, e1, e2, e3⟩
  · refine ⟨0, va_up τ 24 (fun _ => 1), bad1 (Or.inl e1), Or.inr (Or.inl ⟨?_, hI.keep k24, by rw [up_eq]⟩)⟩
    unfold f_X4_delegate; rw [e3]; rfl
  · rcases per_cases x2 with ⟨g1, g2, g3⟩ | ⟨r, hr, rfl, g1, g2, g3⟩
    · refine ⟨0, va_up τ 24 (fun _ => 1), bad1 (Or.inr g1), Or.inr (Or.inl ⟨?_, hI.keep k24, by rw [up_eq]⟩)⟩
      unfold f_X4_delegate; rw [e3, xb_inr, g2]; rfl
    · obtain ⟨p1, p2, -⟩ := hD.2.2.2.2.2 p hp
      have hi : inb (nI p) 8 := inb9 hp (by decide)
      have n1 : ¬ (1 : Int32) = 0 := by decide
      by_cases hbad : nI p = nI r ∨ x3 < σ0 1 0 ∨ ¬ x3 ≤ x4 ∨ x5 < 1 ∨ ¬ x5 ≤ 9
      · refine ⟨0, va_up τ 24 (fun _ => 2), ?_, Or.inr (Or.inr ⟨?_, hI.keep k24, by rw [up_eq]⟩)⟩
        · unfold f_X5_delegate f_X5_in
          rw [e1, g1, if_neg n1, if_neg n1]
          by_cases h1 : nI p = nI r
          · simp only [h1, goes2, if_true]
          · rw [if_neg h1, hD.2.1, ← hD.2.2.1]
            by_cases h2 : x3 < σ0 1 0
            · simp only [h2, goes2, if_true]
            · rw [if_neg h2]
              by_cases h3 : x4 < x3
              · simp only [h3, goes2, if_true]
              · rw [if_neg h3]
                by_cases h4 : x5 < 1
                · simp only [h4, goes2, if_true]
                · rw [if_neg h4]
                  have h5 : (9 : Int32) < x5 := by
                    rcases hbad with h | h | h | h | h
                    · exact absurd h h1
                    · exact absurd h h2
                    · exact absurd (fa_of_nlt h3) h
                    · exact absurd h h4
                    · exact fa_of_nle h
                  simp only [h5, goes2, if_true]
        · unfold f_X4_delegate
          rw [e3, xb_inr, g2, xb_inr]
          by_cases h1 : nI p = nI r
          · rw [if_pos h1]; rfl
          · rw [if_neg h1]
            by_cases h2 : x3 < σ0 1 0
            · rw [if_pos h2]; rfl
            · rw [if_neg h2]
              by_cases h3 : x3 ≤ x4
              · rw [if_pos h3]
                by_cases h4 : x5 < 1
                · rw [if_pos h4]; rfl
                · rw [if_neg h4]
                  have h5 : ¬ x5 ≤ 9 := by
                    rcases hbad with h | h | h | h | h
                    · exact absurd h h1
                    · exact absurd h h2
                    · exact absurd h3 h
                    · exact absurd h h4
                    · exact h
                  rw [if_neg h5]; rfl
              · rw [if_neg h3]; rfl
      · have h1 : ¬ nI p = nI r := fun h => hbad (Or.inl h)
        have h2 : ¬ x3 < σ0 1 0 := fun h => hbad (Or.inr (Or.inl h))
        have h3 : x3 ≤ x4 := Classical.byContradiction fun h => hbad (Or.inr (Or.inr (Or.inl h)))
        have h4 : ¬ x5 < 1 := fun h => hbad (Or.inr (Or.inr (Or.inr (Or.inl h))))
        have h5 : x5 ≤ 9 := Classical.byContradiction fun h => hbad (Or.inr (Or.inr (Or.inr (Or.inr h))))
        have h3' : ¬ x4 < x3 := fun h => (fa_of_lt h).2.1 h3
        have h5' : ¬ (9 : Int32) < x5 := fun h => (fa_of_lt h).2.1 h5
        refine ⟨σ0 (3 + p) 0, va_up (va_up (va_up (va_up (va_up τ 24 (fun _ => 0)) 12 (upd (τ 12) p (nI r))) 13 (upd (τ 13) p x3)) 14 (upd (τ 14) p x4)) 15 (upd (τ 15) p x5), ?_, Or.inl ⟨va_up σ0 (3 + p) (upd (upd (upd (upd (σ0 (3 + p)) 0 (nI r)) 1 x3) 2 x4) 3 x5), σ, ?_, ⟨td, by omega, hD.row hp (fun x a1 a2 a3 a4 a5 => by rw [up_ne a4, up_ne a3, up_ne a2, up_ne a1, up_ne a5]) (fun q hq x a1 a2 => ?_) (fun x hx => up_ne hx) (by rw [up_eq, upd_ne (by decide), upd_ne (by decide), upd_ne (by decide), upd_ne (by decide)]) ?_, fun k hk => (hE k hk).keep2 (fun x a1 a2 => by rw [up_ne (by omega), up_ne (by omega), up_ne (by omega), up_ne (by omega), up_ne (by omega)])⟩, by rw [up_ne (by decide), up_ne (by decide), up_ne (by decide), up_ne (by decide), up_eq]⟩⟩
        · unfold f_X5_delegate f_X5_in
          rw [e1, g1, if_neg n1, if_neg n1, if_neg h1, hD.2.1, ← hD.2.2.1, if_neg h2, if_neg h3', if_neg h4, if_neg h5', if_neg n1]
          simp only [goes0, lt, cl9 (show p < 2 ^ 31 by omega)]
          rw [if_neg n1, if_pos hi, if_pos hi, if_pos hi, if_pos hi, if_pos hi]
          rw [up_ne (by decide), p1]
          rfl
        · unfold f_X4_delegate
          rw [e3, xb_inr, g2, xb_inr, if_neg h1, if_neg h2, if_pos h3, if_neg h4, if_pos h5]
          simp only [lt, up_eq]
          congr 4
          funext x
          unfold va_up
          split <;> rfl
        · rcases (show x = 12 ∨ x = 13 ∨ x = 14 ∨ x = 15 by omega) with rfl | rfl | rfl | rfl
          · rw [up_ne (by decide), up_ne (by decide), up_ne (by decide), up_eq, upd_ne hq]
          · rw [up_ne (by decide), up_ne (by decide), up_eq, upd_ne hq]
          · rw [up_ne (by decide), up_eq, upd_ne hq]
          · rw [up_eq, upd_ne hq]
        · refine ⟨?_, Or.inr ⟨r, hr, ?_⟩, ?_, ?_, ?_⟩
          · rw [up_ne (by decide), up_ne (by decide), up_ne (by decide), up_eq, upd_eq, up_eq, upd_ne (by decide), upd_ne (by decide), upd_ne (by decide), upd_eq]
          · rw [up_ne (by decide), up_ne (by decide), up_ne (by decide), up_eq, upd_eq]
          · rw [up_ne (by decide), up_ne (by decide), up_eq, upd_eq, up_eq, upd_ne (by decide), upd_ne (by decide), upd_eq]
          · rw [up_ne (by decide), up_eq, upd_eq, up_eq, upd_ne (by decide), upd_eq]
          · rw [up_eq, upd_eq, up_eq, upd_eq]
end
