/-! toSign -/
section
theorem tosign_in {td n c len pc tm k : Nat} {σ0 τ : SS} {σ : Nat → SS} {bf pr K sl dy : Nat → Nat} {pe se : Nat → Int32} (hD : DE td n σ0 τ) (htd : td < 2 ^ 31) (hk : k < 6) (hse : ∀ i, i < len → (K i = 1 ∨ K i = 2 ∨ K i = 6) → se i = nI (sl i)) (hw : Wf td c len bf pr K sl dy) (hr : RefE τ k c len pc tm bf pr K dy pe se) (hc : ClsE (σ k) c len pc tm bf pr K sl dy pe se) (x1 y3 : Int32) :
    ∀ (m i : Nat) (v : Int32) (τi : SS), i + m = c → ∀ fu fv, m < fu → m < fv → Keep τ τi → ∃ (τ' : SS) (w z z' : Int32), f_X5_toSign_30 fu τi x1 v (nI k) (nI i) = some (τ', w, z) ∧ f_X4_toSign_26 fv n σ0 σ k (σ k) x1 v y3 (nI i) = some (w, z') ∧ Keep τ τ' ∧ τ' 24 = τi 24 := by
  have h8 := hw.1
  intro m
  induction m with
  | zero =>
    intro i v τi hi fu fv hfu hfv hK
    obtain ⟨fu, rfl⟩ : ∃ g, fu = g + 1 := ⟨fu - 1, by omega⟩
    obtain ⟨fv, rfl⟩ : ∃ g, fv = g + 1 := ⟨fv - 1, by omega⟩
    obtain rfl : i = c := by omega
    refine ⟨τi, v, nI i, nI i, ?_, ?_, hK, rfl⟩
    · rw [f_X5_toSign_30, if_pos (inb9 hk (by decide)), cl9 (by omega), hK 2 (by decide), hr.1, if_pos (nI_le (Nat.le_refl _) (by omega))]
    · rw [f_X4_toSign_26, hc.1, if_pos (nI_le (Nat.le_refl _) (by omega))]
  | succ m ih =>
    intro i v τi hi fu fv hfu hfv hK
    obtain ⟨fu, rfl⟩ : ∃ g, fu = g + 1 := ⟨fu - 1, by omega⟩
    obtain ⟨fv, rfl⟩ : ∃ g, fv = g + 1 := ⟨fv - 1, by omega⟩
    have hic : i < c := by omega
    obtain ⟨τ2, r, q5, q4, hr5, -, l2, l3⟩ := why hD htd hk hse hw hr hc hK hic x1
    have t24 := l2.t24
    rw [f_X5_toSign_30, if_pos (inb9 hk (by decide)), cl9 (by omega), hK 2 (by decide), hr.1, if_neg (nI_ge hic (by omega)), q5, Option.bind_some, f_X4_toSign_26, hc.1, if_neg (nI_ge hic (by omega)), q4, Option.bind_some, s1]
    by_cases h2 : r < 2
    · obtain ⟨τ', w, z, z', a1, a2, a3, a4⟩ := ih (i + 1) (v + 1) τ2 (by omega) fu fv (by omega) (by omega) l3
      refine ⟨τ', w, z, z', ?_, ?_, a3, a4.trans t24⟩
      · rw [if_neg (show ¬ (2 : Int32) ≤ nI r from nI_ge (b := 2) h2 (by decide))]; exact a1
      · rcases (show r = 0 ∨ r = 1 by omega) with rfl | rfl
        · rw [if_pos nI_0]; exact a2
        · rw [if_neg (show ¬ nI 1 = 0 by decide), if_pos (show nI 1 = 1 from rfl)]; exact a2
    · obtain ⟨τ', w, z, z', a1, a2, a3, a4⟩ := ih (i + 1) v τ2 (by omega) fu fv (by omega) (by omega) l3
      refine ⟨τ', w, z, z', ?_, ?_, a3, a4.trans t24⟩
      · rw [if_pos (show (2 : Int32) ≤ nI r from nI_le (a := 2) (by omega) (by omega)), Int32.add_zero]; exact a1
      · rw [if_neg (fun e => by have := (nI_zero (by omega)).mp e; omega), if_neg (fun e => by have := (nI_eq (b := 1) (by omega) (by decide)).mp e; omega)]; exact a2
theorem tosign_out {td n : Nat} {σ0 τ : SS} {σ : Nat → SS} (hD : DE td n σ0 τ) (htd : td < 2 ^ 31) (hE : ∀ k, k < n → EI td (σ k) τ k) (x1 : Int32) :
    ∀ (m i : Nat) (v : Int32) (τi : SS), i + m = n → ∀ fu fv, m < fu → m < fv → Keep τ τi → ∃ (τ' : SS) (w z z' : Int32), f_X5_toSign_19 fu τi x1 v (nI i) = some (τ', w, z) ∧ f_X4_toSign_8 fv n σ0 σ x1 v (nI i) = some (w, z') ∧ Keep τ τ' ∧ τ' 24 = τi 24 := by
  have hn := hD.1
  intro m
  induction m with
  | zero =>
    intro i v τi hi fu fv hfu hfv hK
    obtain ⟨fu, rfl⟩ : ∃ g, fu = g + 1 := ⟨fu - 1, by omega⟩
    obtain ⟨fv, rfl⟩ : ∃ g, fv = g + 1 := ⟨fv - 1, by omega⟩
    obtain rfl : i = n := by omega
    refine ⟨τi, v, nI i, nI i, ?_, ?_, hK, rfl⟩
    · rw [f_X5_toSign_19, hK 1 (by decide), hD.2.2.2.1, if_pos (nI_le (Nat.le_refl _) (by omega))]
    · rw [f_X4_toSign_8, if_pos (nI_le (Nat.le_refl _) (by omega))]
  | succ m ih =>
    intro i v τi hi fu fv hfu hfv hK
    obtain ⟨fu, rfl⟩ : ∃ g, fu = g + 1 := ⟨fu - 1, by omega⟩
    obtain ⟨fv, rfl⟩ : ∃ g, fv = g + 1 := ⟨fv - 1, by omega⟩
    have hin : i < n := by omega
    obtain ⟨c, len, pc, tm, bf, pr, K, sl, dy, pe, se, k6, hpc, htm, hse, hw, hr, hc⟩ := hE i hin
    have h8 := hw.1
    obtain ⟨τ2, w2, z2, z2', b1, b2, b3, b4⟩ := tosign_in (σ := σ) hD htd k6 hse hw hr hc x1 (nI i) c 0 v τi (by omega) FU FU (by unfold FU; omega) (by unfold FU; omega) hK
    obtain ⟨τ', w, z, z', a1, a2, a3, a4⟩ := ih (i + 1) w2 τ2 (by omega) fu fv (by omega) (by omega) b3
    refine ⟨τ', w, z, z', ?_, ?_, a3, a4.trans b4⟩
    · rw [f_X5_toSign_19, hK 1 (by decide), hD.2.2.2.1, if_neg (nI_ge hin (by omega)), s1]
      have b1 : f_X5_toSign_30 FU τi x1 v (nI i) 0 = some (τ2, w2, z2) := b1
      rw [b1, Option.bind_some]
      exact a1
    · have ee : f_X4_envelopeAt n (nI i) = some (.inr i) := by
        unfold f_X4_envelopeAt
        rw [if_neg (nI_pos (by omega)), if_neg (nI_ge hin (by omega)), cl9 (by omega)]
      rw [f_X4_toSign_8, if_neg (nI_ge hin (by omega)), ee, xn_inr, s1]
      have b2 : f_X4_toSign_26 FU n σ0 σ i (σ i) x1 v (nI i) 0 = some (w2, z2') := b2
      rw [b2, Option.bind_some]
      exact a2
theorem sa_toSign : SA_toSign Inv := by
  intro t n σ0 σ τ x1 ht hI
  obtain ⟨td, htd, hD, hE⟩ := id hI
  have hn := hD.1
  rcases per_cases x1 with ⟨e1, e2, -⟩ | ⟨p, hp, rfl, e1, e2, -⟩
  · refine ⟨0, va_up τ 24 (fun _ => 1), ?_, Or.inr ⟨?_, hI.keep k24, by rw [up_eq]⟩⟩
    · unfold f_X5_toSign; rw [e1]; simp only [goes1]; rw [if_pos trivial]
    · unfold f_X4_toSign; rw [e2]; rfl
  · obtain ⟨τ', w, z, z', a1, a2, a3, a4⟩ := tosign_out hD (by omega) hE (nI p) n 0 0 (va_up τ 24 (fun _ => 0)) (by omega) FU FU (by unfold FU; omega) (by unfold FU; omega) k24
    refine ⟨w, τ', ?_, Or.inl ⟨?_, hI.keep a3, by rw [a4, up_eq]⟩⟩
    · unfold f_X5_toSign; rw [e1]; simp only [goes0]; rw [if_neg (by decide)]
      have a1 : f_X5_toSign_19 FU (va_up τ 24 fun x => 0) (nI p) 0 0 = some (τ', w, z) := a1
      rw [a1]; rfl
    · unfold f_X4_toSign; rw [e2, xb_inr]
      have a2 : f_X4_toSign_8 FU n σ0 σ (nI p) 0 0 = some (w, z') := a2
      rw [a2]; rfl
end
