/-! Drafts: a new one, its times -/
section
theorem same_of {τ τ' : SS} {k : Nat} (h : ∀ x, 2 ≤ x → x < 6 → τ' x k = τ x k) (h6 : ∀ j, j < 8 → τ' 6 (8 * k + j) = τ 6 (8 * k + j) ∧ τ' 7 (8 * k + j) = τ 7 (8 * k + j)) (h8 : ∀ x, 8 ≤ x → x < 12 → τ' x = τ x) : SameE τ τ' k :=
  ⟨h 2 (by decide) (by decide), h 3 (by decide) (by decide), h 4 (by decide) (by decide), h 5 (by decide) (by decide), h6, fun i _ => ⟨by rw [h8 8 (by decide) (by decide)], by rw [h8 9 (by decide) (by decide)], by rw [h8 10 (by decide) (by decide)], by rw [h8 11 (by decide) (by decide)]⟩⟩
theorem sta_zero {td c len : Nat} {bf pr K sl dy : Nat → Nat} (hw : Wf td c len bf pr K sl dy) (h : sta c K sl len = 0) : len = 0 := by
  cases len with
  | zero => rfl
  | succ i =>
    exfalso
    obtain ⟨w1, w2, w3, w4, -⟩ := hw.2.2.2.1 i (by omega)
    rw [sta] at h
    by_cases h0 : K i = 0
    · rw [if_pos h0] at h; omega
    · rw [if_neg h0] at h
      by_cases h1 : K i = 1 ∨ K i = 2
      · rw [if_pos h1] at h
        by_cases h2 : sgn K sl (i + 1) = 2 ^ c - 1
        · rw [if_pos h2] at h; omega
        · rw [if_neg h2] at h; omega
      · rw [if_neg h1] at h
        by_cases h6 : K i = 6
        · rw [if_pos h6] at h
          have h3 : ¬ i = 0 := fun e => h0 (w3.mp e)
          have := w4 (by omega)
          omega
        · rw [if_neg h6] at h
          unfold endS at h
          split at h
          · omega
          · split at h <;> omega
/-- a draft with c slots -/
def DRF (td : Nat) (σ τ : SS) (k c : Nat) : Prop := ∃ (pc tm : Nat) (bf pr K sl dy : Nat → Nat) (pe se : Nat → Int32), pc ≤ 30 ∧ tm ≤ 60 ∧ Wf td c 0 bf pr K sl dy ∧ RefE τ k c 0 pc tm bf pr K dy pe se ∧ ClsE σ c 0 pc tm bf pr K sl dy pe se
theorem DRF.ei {td k c : Nat} {σ τ : SS} (h : DRF td σ τ k c) (hk : k < 6) : EI td σ τ k := by
  obtain ⟨pc, tm, bf, pr, K, sl, dy, pe, se, h1, h2, h3, h4, h5⟩ := h
  exact ⟨c, 0, pc, tm, bf, pr, K, sl, dy, pe, se, hk, h1, h2, fun i hi => absurd hi (by omega), h3, h4, h5⟩
theorem DRF.keep {td k c : Nat} {σ τ τ' : SS} (h : DRF td σ τ k c) (hk : Keep τ τ') : DRF td σ τ' k c := by
  obtain ⟨pc, tm, bf, pr, K, sl, dy, pe, se, h1, h2, h3, h4, h5⟩ := h
  exact ⟨pc, tm, bf, pr, K, sl, dy, pe, se, h1, h2, h3, h4.keep hk, h5⟩
theorem DRF.new {td k : Nat} {τ : SS} (h2 : τ 2 k = 0) (h3 : τ 3 k = 0) (h4 : τ 4 k = 0) (h5 : τ 5 k = 0) : DRF td (fun _ _ => 0) τ k 0 := by
  refine ⟨0, 0, fun _ => 0, fun _ => 0, fun _ => 0, fun _ => 0, fun _ => 0, fun _ => 0, fun _ => 0, by decide, by decide, ⟨by decide, by decide, fun j hj => absurd hj (by omega), fun i hi => absurd hi (by omega), fun h => absurd h (by omega), fun j => Nat.zero_le _⟩, ⟨h2, h3, h4, h5, fun j hj => absurd hj (by omega), fun i hi => absurd hi (by omega)⟩, ⟨rfl, rfl, rfl, rfl, fun j hj => absurd hj (by omega), fun i hi => absurd hi (by omega), rfl, rfl, rfl, fun j hj => rfl, fun j hj => ?_, fun h => absurd h (by omega)⟩⟩
  rw [opd, Nat.zero_testBit] at hj
  cases hj
theorem sa_draft : SA_draft Inv := by
  intro t n σ0 σ τ ht hI
  obtain ⟨td, htd, hD, hE⟩ := id hI
  obtain ⟨d1, d2, d3, d4, d5, d6⟩ := id hD
  by_cases h : n = 6
  · subst h
    refine ⟨0, va_up τ 24 (fun _ => 1), ?_, Or.inr ⟨rfl, hI.keep k24, by rw [up_eq]⟩⟩
    unfold f_X5_draft
    rw [d4, if_pos (show (6 : Int32) ≤ nI 6 from nI_le (a := 6) (Nat.le_refl _) (by decide))]
    simp only [goes1]
    rw [if_pos trivial]
  · have h6 : n < 6 := by omega
    have hx : ∀ x, x ≠ 1 → x ≠ 24 → (va_up (va_up τ 24 (fun _ => 0)) 1 (fun _ => nI (n + 1)) : SS) x = τ x := fun x a b => by rw [up_ne a, up_ne b]
    refine ⟨nI n, va_up (va_up τ 24 (fun _ => 0)) 1 (fun _ => nI (n + 1)), ?_, Or.inl ⟨h6, rfl, ⟨td, by omega, ⟨by omega, by rw [hx 0 (by decide) (by decide)]; exact d2, d3, by rw [up_eq], fun k a b => ?_, fun p hp => ?_⟩, fun k hk => ?_⟩, by rw [up_ne (by decide), up_eq]⟩⟩
    · unfold f_X5_draft
      rw [d4, if_neg (show ¬ (6 : Int32) ≤ nI n from nI_ge (b := 6) h6 (by decide))]
      simp only [goes0, lt, up_eq, up_ne (show (1 : Nat) ≠ 24 by decide), d4]
      rw [if_neg (by decide), s1, nI_pred]
    · rw [hx 2 (by decide) (by decide), hx 3 (by decide) (by decide), hx 4 (by decide) (by decide), hx 5 (by decide) (by decide)]
      exact d5 k (by omega) b
    · rw [hx 12 (by decide) (by decide), hx 13 (by decide) (by decide), hx 14 (by decide) (by decide), hx 15 (by decide) (by decide), hx 16 (by decide) (by decide), hx 17 (by decide) (by decide)]
      exact d6 p hp
    · by_cases e : k = n
      · subst e
        rw [up_eq]
        obtain ⟨e2, e3, e4, e5⟩ := d5 k (Nat.le_refl _) h6
        exact (DRF.new (by rw [hx 2 (by decide) (by decide)]; exact e2) (by rw [hx 3 (by decide) (by decide)]; exact e3) (by rw [hx 4 (by decide) (by decide)]; exact e4) (by rw [hx 5 (by decide) (by decide)]; exact e5)).ei h6
      · rw [up_ne e]
        exact (hE k (by omega)).keep2 (fun x a b => hx x (by omega) (by omega))
theorem nodraft0 {σ : SS} (h : σ 11 0 = nI 0) : f_X4_refuseNoDraft σ = some (.inr ()) := by
  unfold f_X4_refuseNoDraft
  rw [h, if_pos nI_0]
theorem nodraft1 {σ : SS} {s : Nat} (h : σ 11 0 = nI s) (hs : s ≤ 5) (h0 : ¬ s = 0) : f_X4_refuseNoDraft σ = some (.inl ISE) := by
  unfold f_X4_refuseNoDraft
  rw [h, if_neg (fun e => h0 ((nI_zero (by omega)).mp e))]
  rfl
/-- the reference's rows with other times -/
def TM (τ : SS) (k : Nat) (x y : Int32) : SS := va_up (va_up (va_up τ 24 (fun _ => 0)) 3 (upd (τ 3) k x)) 4 (upd (τ 4) k y)
theorem TM_lo {τ : SS} {k x : Nat} {a b : Int32} (h3 : x ≠ 3) (h4 : x ≠ 4) (h5 : x ≠ 24) : TM τ k a b x = τ x := by
  unfold TM
  rw [up_ne h4, up_ne h3, up_ne h5]
theorem TM_3 {τ : SS} {k : Nat} {a b : Int32} : TM τ k a b 3 = upd (τ 3) k a := by
  unfold TM
  rw [up_ne (by decide), up_eq]
theorem TM_4 {τ : SS} {k : Nat} {a b : Int32} : TM τ k a b 4 = upd (τ 4) k b := by
  unfold TM
  rw [up_eq]
theorem TM_other {τ : SS} {k : Nat} {a b : Int32} : Other τ (TM τ k a b) k := by
  refine ⟨fun x hx => TM_lo (by omega) (by omega) (by omega), fun k2 hk => same_of (fun x h1 h2 => ?_) (fun j _ => ⟨by rw [TM_lo (by decide) (by decide) (by decide)], by rw [TM_lo (by decide) (by decide) (by decide)]⟩) (fun x h1 h2 => TM_lo (by omega) (by omega) (by omega))⟩
  rcases (show x = 2 ∨ x = 3 ∨ x = 4 ∨ x = 5 by omega) with rfl | rfl | rfl | rfl
  · rw [TM_lo (by decide) (by decide) (by decide)]
  · rw [TM_3, upd_ne hk]
  · rw [TM_4, upd_ne hk]
  · rw [TM_lo (by decide) (by decide) (by decide)]
set_option maxHeartbeats 1000000 in
theorem sa_setTimes : SA_setTimes Inv := by
  intro t n σ0 σ τ x1 x2 x3 ht hI
  obtain ⟨td, htd, hD, hE⟩ := id hI
  have n1 : ¬ (1 : Int32) = 0 := by decide
  rcases env_cases hD.1 hD.2.2.2.1 x1 with ⟨e1, e2⟩ | ⟨k, hk, rfl, e1, e2⟩
  · refine ⟨va_up τ 24 (fun _ => 1), ?_, Or.inr (Or.inl ⟨?_, hI.keep k24, by rw [up_eq]⟩)⟩
    · unfold f_X5_setTimes
      simp only [e1, goes1, if_true, ite_self]
    · unfold f_X4_setTimes; rw [e2]; rfl
  · obtain ⟨c, len, pc, tm, bf, pr, K, sl, dy, pe, se, k6, hpc, htm, hse, hw, hr, hc⟩ := hE k hk
    obtain ⟨τ2, i1, i2, i3⟩ := isin k6 hse hw hr (Keep.rf) (v := 0) (by decide)
    have i1 : f_X5_isIn τ (nI k) 0 = some (if sta c K sl len = 0 then 1 else 0, τ2) := i1
    have hst := sta_le c K sl len
    have hi : inb (nI k) 6 := inb9 k6 (by decide)
    have hcl : (nI k).toNatClampNeg = k := cl9 (by omega)
    rcases in_casesE 30 (by decide) x2 with ⟨a1, a2⟩ | ⟨pc', hpc', rfl, a1, a2, a3⟩
    · have a1 : f_X5_in x2 0 30 = 0 := a1
      refine ⟨va_up τ2 24 (fun _ => 2), ?_, Or.inr (Or.inr (Or.inl ⟨?_, hI.keep (i2.tr k24), by rw [up_eq]⟩))⟩
      · unfold f_X5_setTimes
        rw [a1, if_pos rfl, e1, if_neg n1, i1, Option.bind_some]
        simp only [goes2, if_true, ite_self]
      · unfold f_X4_setTimes
        rw [e2, xb_inr]
        by_cases h3 : x2 < 0
        · rw [if_pos h3]; rfl
        · rw [if_neg h3, if_neg (show ¬ x2 ≤ 30 from a2.resolve_left h3)]; rfl
    · have a1 : f_X5_in (nI pc') 0 30 = 1 := a1
      have a3 : nI pc' ≤ 30 := a3
      rcases in_casesE 60 (by decide) x3 with ⟨b1, b2⟩ | ⟨tm', htm', rfl, b1, b2, b3⟩
      · have b1 : f_X5_in x3 0 60 = 0 := b1
        refine ⟨va_up τ2 24 (fun _ => 2), ?_, Or.inr (Or.inr (Or.inl ⟨?_, hI.keep (i2.tr k24), by rw [up_eq]⟩))⟩
        · unfold f_X5_setTimes
          rw [a1, if_neg n1, b1, if_pos rfl, e1, if_neg n1, i1, Option.bind_some]
          simp only [goes2, if_true, ite_self]
        · unfold f_X4_setTimes
          rw [e2, xb_inr, if_neg a2, if_pos a3]
          by_cases h3 : x3 < 0
          · rw [if_pos h3]; rfl
          · rw [if_neg h3, if_neg (show ¬ x3 ≤ 60 from b2.resolve_left h3)]; rfl
      · have b1 : f_X5_in (nI tm') 0 60 = 1 := b1
        have b3 : nI tm' ≤ 60 := b3
        by_cases hs : sta c K sl len = 0
        · have h0 := sta_zero hw hs
          subst h0
          rw [if_pos hs] at i1
          refine ⟨TM τ2 k (nI pc') (nI tm'), ?_, Or.inl ⟨σ0, va_up σ k (va_up (va_up (σ k) 12 (fun _ => nI pc')) 13 (fun _ => nI tm')), ?_, inv_put htd hD hE hk ?_ ((i2.other k).tr TM_other), by unfold TM; rw [up_ne (by decide), up_ne (by decide), up_eq]⟩⟩
          · unfold f_X5_setTimes
            rw [a1, if_neg n1, b1, if_neg n1, e1, if_neg n1, i1, Option.bind_some]
            simp only [goes0, lt]
            rw [if_neg n1, if_neg n1, if_pos hi, if_pos hi]
            simp only [hcl, up_ne (show (3 : Nat) ≠ 24 by decide), up_ne (show (4 : Nat) ≠ 3 by decide), up_ne (show (4 : Nat) ≠ 24 by decide)]
            rfl
          · unfold f_X4_setTimes
            rw [e2, xb_inr, if_neg a2, if_pos a3, if_neg b2, if_pos b3, nodraft0 (by rw [hc.2.2.2.2.2.2.1, hs]), xb_inr]
            rfl
          · obtain ⟨r1, r2, r3, r4, r5, r6⟩ := hr.keep i2
            obtain ⟨c10, c12, c13, c9, cr, ce, c11, c15, c16, c4, c3, c14⟩ := hc
            have hy : ∀ x, x ≠ 12 → x ≠ 13 → (va_up (va_up (σ k) 12 (fun _ => nI pc')) 13 (fun _ => nI tm') : SS) x = σ k x := fun x a b => by rw [up_ne b, up_ne a]
            refine DRF.ei (c := c) ⟨pc', tm', bf, pr, K, sl, dy, pe, se, hpc', htm', hw, ⟨?_, ?_, ?_, ?_, fun j hj => ?_, fun i hi => absurd hi (by omega)⟩, ⟨?_, ?_, ?_, ?_, fun j hj => ?_, fun i hi => absurd hi (by omega), ?_, ?_, ?_, fun j hj => ?_, fun j hj => ?_, fun h => absurd h (by omega)⟩⟩ k6
            · rw [TM_lo (by decide) (by decide) (by decide)]; exact r1
            · rw [TM_3, upd_eq]
            · rw [TM_4, upd_eq]
            · rw [TM_lo (by decide) (by decide) (by decide)]; exact r4
            · rw [TM_lo (by decide) (by decide) (by decide), TM_lo (by decide) (by decide) (by decide)]; exact r5 j hj
            · rw [hy 10 (by decide) (by decide)]; exact c10
            · rw [up_ne (by decide), up_eq]
            · rw [up_eq]
            · rw [hy 9 (by decide) (by decide)]; exact c9
            · rw [hy 0 (by decide) (by decide), hy 1 (by decide) (by decide), hy 2 (by decide) (by decide)]; exact cr j hj
            · rw [hy 11 (by decide) (by decide)]; exact c11
            · rw [hy 15 (by decide) (by decide)]; exact c15
            · rw [hy 16 (by decide) (by decide)]; exact c16
            · rw [hy 4 (by decide) (by decide)]; exact c4 j hj
            · rw [hy 3 (by decide) (by decide)]; exact c3 j hj
        · rw [if_neg hs] at i1
          refine ⟨va_up τ2 24 (fun _ => 3), ?_, Or.inr (Or.inr (Or.inr ⟨?_, hI.keep (i2.tr k24), by rw [up_eq]⟩))⟩
          · unfold f_X5_setTimes
            rw [a1, if_neg n1, b1, if_neg n1, e1, if_neg n1, i1, Option.bind_some]
            simp only [goes3, if_true]
          · unfold f_X4_setTimes
            rw [e2, xb_inr, if_neg a2, if_pos a3, if_neg b2, if_pos b3, nodraft1 hc.2.2.2.2.2.2.1 hst hs]
            rfl
end
