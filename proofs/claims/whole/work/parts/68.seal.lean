/-! The seal; the share -/
section
def sealN (a x y z w : Int32) : Int32 := ((((31 : Int32) * a + (7 : Int32) * x) + (11 : Int32) * (y + (1 : Int32))) + (13 : Int32) * (z + (1 : Int32))) + (17 : Int32) * w
def sealF (K dy : Nat → Nat) (pe se : Nat → Int32) : Nat → Int32
  | 0 => 1
  | i + 1 => sealN (sealF K dy pe se i) (nI (K i)) (pe i) (se i) (nI (dy i)) - sealN (sealF K dy pe se i) (nI (K i)) (pe i) (se i) (nI (dy i)) / (65521 : Int32) * (65521 : Int32)
theorem seal5 {τ : SS} {k c len pc tm s : Nat} {bf pr K dy : Nat → Nat} {pe se : Nat → Int32} (hk : k < 6) (hl : len ≤ 49) (hsl : s ≤ len) (hr : RefE τ k c len pc tm bf pr K dy pe se) :
    ∀ (m i : Nat), i + m = s → ∀ fu, m < fu → ∃ z, f_X5_seal_25 fu τ (nI k) (nI s) (sealF K dy pe se i) (nI (50 * k + i)) = some (sealF K dy pe se s, z) := by
  intro m
  induction m with
  | zero =>
    intro i hi fu hfu
    obtain ⟨fu, rfl⟩ : ∃ g, fu = g + 1 := ⟨fu - 1, by omega⟩
    obtain rfl : i = s := by omega
    exact ⟨_, by rw [f_X5_seal_25, ix50, if_pos (nI_le (Nat.le_refl _) (by omega))]⟩
  | succ m ih =>
    intro i hi fu hfu
    obtain ⟨fu, rfl⟩ : ∃ g, fu = g + 1 := ⟨fu - 1, by omega⟩
    obtain ⟨a1, a2, a3, a4⟩ := hr.2.2.2.2.2 i (by omega)
    have hx : inb (nI (50 * k + i)) 300 := inb9 (by omega) (by decide)
    have ih := ih (i + 1) (by omega) fu (by omega)
    rw [f_X5_seal_25, ix50, if_neg (nI_ge (by omega) (by omega)), if_pos hx, if_pos hx, if_pos hx, if_pos hx, cl9 (by omega), a1, a2, a3, a4, s1]
    exact ih
theorem seal4 {σ : SS} {len s : Nat} {K dy : Nat → Nat} {pe se : Nat → Int32} (hl : len ≤ 49) (hsl : s ≤ len) (hr : ∀ i, i < len → σ 5 i = nI (K i) ∧ σ 6 i = pe i ∧ σ 7 i = se i ∧ σ 8 i = nI (dy i)) :
    ∀ (m i : Nat), i + m = s → ∀ fu, m < fu → ∃ z, f_X1_sealBehind_4 fu (hs σ) (nI s) (sealF K dy pe se i) (nI i) = some (sealF K dy pe se s, z) := by
  intro m
  induction m with
  | zero =>
    intro i hi fu hfu
    obtain ⟨fu, rfl⟩ : ∃ g, fu = g + 1 := ⟨fu - 1, by omega⟩
    obtain rfl : i = s := by omega
    exact ⟨_, by rw [f_X1_sealBehind_4, if_pos (nI_le (Nat.le_refl _) (by omega))]⟩
  | succ m ih =>
    intro i hi fu hfu
    obtain ⟨fu, rfl⟩ : ∃ g, fu = g + 1 := ⟨fu - 1, by omega⟩
    obtain ⟨a1, a2, a3, a4⟩ := hr i (by omega)
    have ih := ih (i + 1) (by omega) fu (by omega)
    rw [f_X1_sealBehind_4, if_neg (nI_ge (by omega) (by omega)), rg9 (by omega) (by decide), rg9 (by omega) (by decide), rg9 (by omega) (by decide), rg9 (by omega) (by decide), s1, show hs σ 0 i = nI (K i) from a1, show hs σ 1 i = pe i from a2, show hs σ 2 i = se i from a3, show hs σ 3 i = nI (dy i) from a4]
    exact ih
theorem sa_seal : SA_seal Inv := by
  intro t n σ0 σ τ x1 x2 ht hI
  obtain ⟨td, htd, hD, hE⟩ := id hI
  rcases events_out hD.1 hD.2.2.2.1 (σ := σ) (fun k hk => (hE k hk).lng) x1 x2 with ⟨e1, e2⟩ | ⟨k, j, c', hk, hj, c8, c2, rfl, rfl, e1, e2, e3⟩
  · refine ⟨0, va_up τ 24 (fun _ => 1), ?_, Or.inr ⟨?_, hI.keep k24, by rw [up_eq]⟩⟩
    · unfold f_X5_seal; rw [e1]; simp only [Option.bind_some, goes1]; rw [if_pos trivial]
    · unfold f_X4_seal
      rcases e2 with e2 | ⟨k, e2, e3⟩
      · rw [e2]; rfl
      · rw [e2, xb_inr, e3]; rfl
  · obtain ⟨c, len, pc, tm, bf, pr, K, sl, dy, pe, se, k6, hpc, htm, hse, hw, hr, hc⟩ := hE k hk
    obtain rfl : c' = len := cnt_eq c2 hr.2.2.2.1 (by omega) (by have := hw.2.1; omega)
    obtain ⟨z5, q5⟩ := seal5 k6 c8 hj (hr.keep (k24 (v := fun _ => 0))) j 0 (by omega) FU (by unfold FU; omega)
    obtain ⟨z4, q4⟩ := seal4 (σ := σ k) c8 hj hc.2.2.2.2.2.1 j 0 (by omega) FU (by unfold FU; omega)
    refine ⟨sealF K dy pe se j, va_up τ 24 (fun _ => 0), ?_, Or.inl ⟨?_, hI.keep k24, by rw [up_eq]⟩⟩
    · unfold f_X5_seal
      rw [e1]
      simp only [Option.bind_some, goes0]
      rw [if_neg (by decide), ix50']
      have q5 : f_X5_seal_25 FU (va_up τ 24 fun x => 0) (nI k) (nI j) (1 : Int32) (nI (50 * k)) = some (sealF K dy pe se j, z5) := q5
      rw [q5]
      rfl
    · unfold f_X4_seal f_X1_sealBehind
      rw [e2, xb_inr, e3, xb_inr]
      have q4 : f_X1_sealBehind_4 FU (hs (σ k)) (nI j) (1 : Int32) (0 : Int32) = some (sealF K dy pe se j, z4) := q4
      rw [q4]
      rfl
set_option maxRecDepth 4000 in
theorem share_ok : ∀ c, c < 9 → ∀ a, a < 9 → ¬ c = 0 → nN (FP.i2f (nI a)) (FP.i2f (nI c)) ∧ vf_n64 (FP.f2d (FP.fdiv (FP.i2f (nI a)) (FP.i2f (nI c)))) ∧ Op.cmpValue (FP.dcmp (FP.f2d (FP.fdiv (FP.i2f (nI a)) (FP.i2f (nI c)))) (FP.f2d (FP.fdiv (FP.i2f (nI a)) (FP.i2f (nI c))))) .l = 0 := by
  unfold vf_n64
  decide +kernel
theorem share_0 : vf_n64 (FP.f2d FP.fconst0) ∧ Op.cmpValue (FP.dcmp (FP.f2d FP.fconst0) (FP.f2d FP.fconst0)) .l = 0 := by
  unfold vf_n64
  decide +kernel
theorem sa_share : SA_share Inv := by
  intro t n σ0 σ τ x1 ht hI
  obtain ⟨td, htd, hD, hE⟩ := id hI
  rcases env_cases hD.1 hD.2.2.2.1 x1 with ⟨e1, e2⟩ | ⟨k, hk, rfl, e1, e2⟩
  · refine ⟨FP.fconst0, va_up τ 24 (fun _ => 1), ?_, Or.inr ⟨?_, hI.keep k24, by rw [up_eq]⟩⟩
    · unfold f_X5_share; rw [e1]; simp only [goes1]; rw [if_pos trivial]
    · unfold f_X4_share; rw [e2]; rfl
  · obtain ⟨c, len, pc, tm, bf, pr, K, sl, dy, pe, se, k6, hpc, htm, hse, hw, hr, hc⟩ := hE k hk
    have h8 := hw.1
    have hcl : (nI k).toNatClampNeg = k := cl9 (by omega)
    by_cases h0 : c = 0
    · refine ⟨FP.fconst0, va_up τ 24 (fun _ => 0), ?_, Or.inl ⟨?_, hI.keep k24, by rw [up_eq], share_0.1, share_0.2⟩⟩
      · unfold f_X5_share; rw [e1]; simp only [goes0]; rw [if_neg (by decide), if_pos (inb9 k6 (by decide))]; simp only [hcl]; rw [up_ne (by decide), hr.1, h0, if_pos nI_0]
      · unfold f_X4_share; rw [e2, xb_inr, hc.1, h0, if_pos nI_0]
    · obtain ⟨τ', l1, l2, l3⟩ := look k6 hse hw hr (k24 (v := fun _ => 0))
      have hsg := lt8 (hw.sg len (Nat.le_refl _)) h8
      obtain ⟨s1, s2, s3⟩ := share_ok c (by omega) (pcn (sgn K sl len)) (by have := pcn_le (sgn K sl len); omega) h0
      have hz : ¬ nI c = 0 := fun e => h0 ((nI_zero (by omega)).mp e)
      refine ⟨FP.fdiv (FP.i2f (nI (pcn (sgn K sl len)))) (FP.i2f (nI c)), τ', ?_, Or.inl ⟨?_, hI.keep l3, by rw [l2.t24, up_eq], s2, s3⟩⟩
      · unfold f_X5_share; rw [e1]; simp only [goes0]; rw [if_neg (by decide), if_pos (inb9 k6 (by decide))]; simp only [hcl]; rw [up_ne (by decide), hr.1, if_neg hz, l1, Option.bind_some, l2.2.2.1, many_pcn hsg, Option.bind_some, if_pos (inb9 k6 (by decide)), l3 2 (by decide), hr.1, if_pos s1]
      · unfold f_X4_share; rw [e2, xb_inr, hc.1, if_neg hz, hc.2.2.2.2.2.2.2.1, bc_pcn hsg, if_pos s1]
end
