/-! decline, cancel -/
section
theorem isin {td c len pc tm k : Nat} {τ τ1 : SS} {bf pr K sl dy : Nat → Nat} {pe se : Nat → Int32} (hk : k < 6) (hse : ∀ i, i < len → (K i = 1 ∨ K i = 2 ∨ K i = 6) → se i = nI (sl i)) (hw : Wf td c len bf pr K sl dy) (hr : RefE τ k c len pc tm bf pr K dy pe se) (h1 : Keep τ τ1) {v : Nat} (hv : v ≤ 5) :
    ∃ τ', f_X5_isIn τ1 (nI k) (nI v) = some (if sta c K sl len = v then 1 else 0, τ') ∧ Keep τ τ' ∧ τ' 24 = τ1 24 := by
  obtain ⟨τ', l1, l2, l3⟩ := look hk hse hw hr h1
  have hst := sta_le c K sl len
  refine ⟨τ', ?_, l3, l2.t24⟩
  unfold f_X5_isIn
  rw [l1, Option.bind_some, l2.2.1]
  by_cases h : sta c K sl len = v
  · rw [h, if_pos rfl, if_pos rfl]
  · rw [if_neg (fun e => h ((nI_eq (by omega) (by omega)).mp e)), if_neg h]
theorem sa_cancel : SA_cancel Inv := by
  intro t n σ0 σ τ x1 ht hI
  obtain ⟨td, htd, hD, hE⟩ := id hI
  rcases env_cases hD.1 hD.2.2.2.1 x1 with ⟨e1, e2⟩ | ⟨k, hk, rfl, e1, e2⟩
  · refine ⟨0, va_up τ 24 (fun _ => 1), ?_, Or.inr (Or.inl ⟨?_, hI.keep k24, by rw [up_eq]⟩)⟩
    · unfold f_X5_cancel; rw [e1]; simp only [goes1]; rw [if_pos trivial, if_pos trivial]
    · unfold f_X4_cancel; rw [e2]; rfl
  · obtain ⟨c, len, pc, tm, bf, pr, K, sl, dy, pe, se, k6, hpc, htm, hse, hw, hr, hc⟩ := hE k hk
    obtain ⟨τ2, i1, i2, i3⟩ := isin k6 hse hw hr (Keep.rf) (v := 1) (by decide)
    have i1 : f_X5_isIn τ (nI k) 1 = some (if sta c K sl len = 1 then 1 else 0, τ2) := i1
    have hst := sta_le c K sl len
    by_cases hs : sta c K sl len = 1
    · rw [if_pos hs] at i1
      obtain ⟨τ', q1, q2, q3, q4⟩ := close_both (kd := 4) hD.2.1 k6 hpc htm hse hw hr hc (i2.tr (k24 (v := fun _ => 0))) hs (by omega) (-1) (-1)
      refine ⟨(f_X0_finish (σ k) (nI 4) (nI 4) (-1) (-1) (nI td)).1, τ', ?_, Or.inl ⟨σ0, va_up σ k (f_X0_finish (σ k) (nI 4) (nI 4) (-1) (-1) (nI td)).2, ?_, inv_put htd hD hE hk q2 q3, by rw [q4, up_eq]⟩⟩
      · unfold f_X5_cancel; rw [e1, i1]; simp only [Option.bind_some, goes0]; rw [if_neg (by decide), if_neg (by decide), if_neg (by decide)]
        have q1 : f_X5_closes (va_up τ2 24 fun x => 0) (nI k) 4 (-1) (-1) = some ((f_X0_finish (σ k) (nI 4) (nI 4) (-1) (-1) (nI td)).1, τ') := q1
        rw [q1]; rfl
      · unfold f_X4_cancel
        rw [e2, xb_inr, hc.2.2.2.2.2.2.1, hs, if_pos (show nI 1 = 1 from rfl), hD.2.2.1]
        rfl
    · rw [if_neg hs] at i1
      refine ⟨0, va_up τ2 24 (fun _ => 2), ?_, Or.inr (Or.inr ⟨?_, hI.keep (i2.tr k24), by rw [up_eq]⟩)⟩
      · unfold f_X5_cancel; rw [e1, i1]; simp only [Option.bind_some, goes2]; rw [if_neg (by decide), if_pos trivial, if_pos trivial]
      · unfold f_X4_cancel
        rw [e2, xb_inr, hc.2.2.2.2.2.2.1, if_neg (show ¬ nI (sta c K sl len) = 1 from fun e => hs ((nI_eq (b := 1) (by omega) (by decide)).mp e))]
        rfl
theorem sa_decline : SA_decline Inv := by
  intro t n σ0 σ τ x1 x2 x3 ht hI
  obtain ⟨td, htd, hD, hE⟩ := id hI
  rcases per_cases x1 with ⟨e1, e2, -⟩ | ⟨p, hp, rfl, e1, e2, -⟩
  · refine ⟨0, va_up τ 24 (fun _ => 1), ?_, Or.inr (Or.inl ⟨?_, hI.keep k24, by rw [up_eq]⟩)⟩
    · unfold f_X5_decline; rw [e1]; simp only [goes1]; rw [if_pos trivial, if_pos trivial]
    · unfold f_X4_decline; rw [e2]; rfl
  · rcases slot_out hD.1 hD.2.2.2.1 (σ := σ) (fun k hk => (hE k hk).cnt) x2 x3 with ⟨g1, g2⟩ | ⟨k, j, c', hk, hj, c8, c2, rfl, rfl, g1, g2, g3⟩
    · refine ⟨0, va_up τ 24 (fun _ => 1), ?_, Or.inr (Or.inl ⟨?_, hI.keep k24, by rw [up_eq]⟩)⟩
      · unfold f_X5_decline; rw [e1, g1]; simp only [Option.bind_some, goes1]; rw [if_neg (by decide), if_pos trivial, if_pos trivial]
      · unfold f_X4_decline
        rcases g2 with g2 | ⟨k, g2, g3⟩
        · rw [e2, xb_inr, g2]; rfl
        · rw [e2, xb_inr, g2, xb_inr, g3]; rfl
    · obtain ⟨c, len, pc, tm, bf, pr, K, sl, dy, pe, se, k6, hpc, htm, hse, hw, hr, hc⟩ := hE k hk
      obtain rfl : c' = c := cnt_eq c2 hr.1 (by omega) (by have := hw.1; omega)
      obtain ⟨τ2, r, q5, q4, hr5, hr2, l2, l3⟩ := why hD (by omega) k6 hse hw hr hc Keep.rf hj (nI p)
      by_cases h0 : r = 0
      · subst h0
        obtain ⟨hs, -, -⟩ := hr2 (by decide)
        obtain ⟨τ', b1, b2, b3, b4⟩ := close_both (kd := 3) hD.2.1 k6 hpc htm hse hw hr hc (l3.tr (k24 (v := fun _ => 0))) hs (by omega) (nI p) (nI j)
        refine ⟨(f_X0_finish (σ k) (nI 3) (nI 3) (nI p) (nI j) (nI td)).1, τ', ?_, Or.inl ⟨σ0, va_up σ k (f_X0_finish (σ k) (nI 3) (nI 3) (nI p) (nI j) (nI td)).2, ?_, inv_put htd hD hE hk b2 b3, by rw [b4, up_eq]⟩⟩
        · unfold f_X5_decline; rw [e1, g1]; simp only [Option.bind_some, q5]; rw [if_neg (by decide), if_neg (by decide), if_pos nI_0]
          simp only [goes0]
          rw [if_neg (by decide)]
          have b1 : f_X5_closes (va_up τ2 24 fun x => 0) (nI k) 3 (nI p) (nI j) = some ((f_X0_finish (σ k) (nI 3) (nI 3) (nI p) (nI j) (nI td)).1, τ') := b1
          rw [b1]; rfl
        · unfold f_X4_decline
          rw [e2, xb_inr, g2, xb_inr, g3, xb_inr, q4, Option.bind_some, if_pos nI_0, hD.2.2.1]
          rfl
      · have hz : ¬ nI r = 0 := fun e => h0 ((nI_zero (by omega)).mp e)
        refine ⟨0, va_up τ2 24 (fun _ => 2), ?_, Or.inr (Or.inr ⟨?_, hI.keep (l3.tr k24), by rw [up_eq]⟩)⟩
        · unfold f_X5_decline; rw [e1, g1]; simp only [Option.bind_some, q5]; rw [if_neg (by decide), if_neg (by decide), if_neg hz]
          simp only [goes2]
          rw [if_pos trivial]
        · unfold f_X4_decline
          rw [e2, xb_inr, g2, xb_inr, g3, xb_inr, q4, Option.bind_some, if_neg hz]
          rfl
end
