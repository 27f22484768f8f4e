/-! The next reminder -/
section
theorem behind_no {σ : SS} {c : Nat} (x : Int32) (hc : c ≤ 8) (h10 : σ 10 0 = nI c) (h12 : σ 12 0 = nI 0) : ∀ (m i : Nat) (v : Int32), i + m = c → ∀ fu, m < fu → ∃ z, f_X0_reminderBehind_4 fu σ x v (nI i) = some (v, z) := by
  intro m
  induction m with
  | zero =>
    intro i v hi fu hfu
    obtain ⟨fu, rfl⟩ : ∃ g, fu = g + 1 := ⟨fu - 1, by omega⟩
    obtain rfl : i = c := by omega
    exact ⟨nI i, by rw [f_X0_reminderBehind_4, h10, if_pos (nI_le (Nat.le_refl _) (by omega))]⟩
  | succ m ih =>
    intro i v hi fu hfu
    obtain ⟨fu, rfl⟩ : ∃ g, fu = g + 1 := ⟨fu - 1, by omega⟩
    obtain ⟨z, hz⟩ := ih (i + 1) v (by omega) fu (by omega)
    refine ⟨z, ?_⟩
    have e : f_X0_canRemind σ (nI i) = 0 := by
      unfold f_X0_canRemind
      rw [h12, if_pos (show nI 0 ≤ 0 by decide)]
    rw [f_X0_reminderBehind_4, h10, if_neg (nI_ge (by omega) (by omega)), e, if_pos rfl, s1]
    exact hz
theorem mn_le {x v : Int32} : mn x v = if x ≤ v then x else v := by
  unfold mn
  by_cases h : x ≤ v
  · rw [if_pos h, if_neg (fun h2 => (fa_of_lt h2).2.1 h)]
  · rw [if_neg h, if_pos (fa_of_nle h)]
theorem on_next {on pc td : Nat} (hp : 0 < pc) (h : on ≤ td) : on + pc * ((td - on) / pc + 1) = td + (pc - (td - on) % pc) := by
  have h1 := Nat.div_add_mod (td - on) pc
  have h2 := Nat.mod_lt (td - on) hp
  rw [Nat.mul_add, Nat.mul_one]
  omega
set_option maxHeartbeats 1000000 in
theorem next_both {td c pc k op : Nat} {ON RM : Nat → Nat} {T σ : SS} (hk : k < 6) (hp0 : 0 < pc) (hp : pc ≤ 30) (hD : td < 2 ^ 30) (hc8 : c ≤ 8) (hon : ∀ j, op.testBit j = true → ON j ≤ td ∧ T 21 j = nI (ON j) ∧ σ 3 j = nI (ON j)) (hrm : ∀ j, RM j ≤ 5) (h22 : ∀ j, j < 8 → T 22 j = nI (RM j) ∧ σ 4 j = nI (RM j)) (ho : f_X5_open T = nI op) (t0 : T 0 0 = nI td) (t2 : T 2 k = nI c) (t3 : T 3 k = nI pc) (h10 : σ 10 0 = nI c) (h12 : σ 12 0 = nI pc) (h16 : σ 16 0 = nI op) :
    ∀ (m i : Nat) (v : Int32), i + m = c → ∀ fu fv, m < fu → m < fv → ∃ (w z z' : Int32), f_X5_next_9 fu T (nI k) v (nI i) = some (w, z) ∧ f_X0_reminderBehind_4 fv σ (nI td) v (nI i) = some (w, z') := by
  have hik : inb (nI k) 6 := inb9 hk (by decide)
  have hclk : (nI k).toNatClampNeg = k := cl9 (by omega)
  intro m
  induction m with
  | zero =>
    intro i v hi fu fv hfu hfv
    obtain ⟨fu, rfl⟩ : ∃ g, fu = g + 1 := ⟨fu - 1, by omega⟩
    obtain ⟨fv, rfl⟩ : ∃ g, fv = g + 1 := ⟨fv - 1, by omega⟩
    obtain rfl : i = c := by omega
    refine ⟨v, nI i, nI i, ?_, ?_⟩
    · rw [f_X5_next_9, if_pos hik]
      simp only [hclk, t2]
      rw [if_pos (nI_le (Nat.le_refl _) (by omega))]
    · rw [f_X0_reminderBehind_4, h10, if_pos (nI_le (Nat.le_refl _) (by omega))]
  | succ m ih =>
    intro i v hi fu fv hfu hfv
    obtain ⟨fu, rfl⟩ : ∃ g, fu = g + 1 := ⟨fu - 1, by omega⟩
    obtain ⟨fv, rfl⟩ : ∃ g, fv = g + 1 := ⟨fv - 1, by omega⟩
    have hic : i < c := by omega
    have hi8 : inb (nI i) 8 := inb9 (by omega) (by decide)
    have hcli : (nI i).toNatClampNeg = i := cl9 (by omega)
    have hrmi := hrm i
    have ec := canR (show i < 8 by omega) h12 hp0 hp h16 (h22 i (by omega)).2 hrmi
    have ih := fun v => ih (i + 1) v (by omega) fu fv (by omega) (by omega)
    rw [f_X5_next_9, if_pos hik, if_pos hik, f_X0_reminderBehind_4, h10, if_neg (nI_ge hic (by omega))]
    simp only [hclk, t2, t3, ho]
    rw [if_neg (nI_ge hic (by omega)), if_neg (nI_nle hp0 (by omega)), s1]
    simp only [has5' _ (show i < 31 by omega)]
    by_cases hb : op.testBit i = false
    · have e0 : f_X0_canRemind σ (nI i) = 0 := by rw [ec, if_neg (show ¬ (op.testBit i = true ∧ RM i < 5) from fun h => by rw [hb] at h; cases h.1)]
      rw [if_pos hb, e0, if_pos rfl]
      exact ih v
    · have hb' : op.testBit i = true := by simpa using hb
      obtain ⟨o1, o2, o3⟩ := hon i hb'
      rw [if_neg hb, if_pos hi8]
      simp only [hcli, (h22 i (by omega)).1]
      by_cases h5 : RM i < 5
      · have e1 : f_X0_canRemind σ (nI i) = 1 := by rw [ec, if_pos ⟨hb', h5⟩]
        have hm := Nat.mod_lt (td - ON i) hp0
        rw [if_neg (show ¬ (5 : Int32) ≤ nI (RM i) from nI_ge (b := 5) h5 (by decide)), e1, if_neg (show ¬ (1 : Int32) = 0 by decide), if_pos hi8, if_pos hik, if_pos hi8, if_pos hik, daysP (show i < 8 by omega) h12 hp0 hp o3 o1 (by omega), Option.bind_some]
        simp only [hcli, hclk, t0, t3, o2]
        rw [if_pos (nI_ne0 hp0 (by omega)), nI_sub o1, pk_div (by omega) hp0 (by omega), s1, pk_mul, nI_add, nI_add, on_next hp0 o1, mn_le]
        by_cases hv : v = -1
        · rw [if_pos hv, if_pos hv]
          exact ih _
        · rw [if_neg hv, if_neg hv]
          by_cases hle : v ≤ nI (td + (pc - (td - ON i) % pc))
          · rw [if_pos hle, if_pos hle]
            exact ih _
          · rw [if_neg hle, if_neg hle]
            exact ih _
      · have e0 : f_X0_canRemind σ (nI i) = 0 := by rw [ec, if_neg (fun h => h5 h.2)]
        rw [if_pos (show (5 : Int32) ≤ nI (RM i) from nI_le (a := 5) (by omega) (by omega)), e0, if_pos rfl]
        exact ih v
theorem sa_nextReminder : SA_nextReminder Inv := by
  intro t n σ0 σ τ x1 ht hI
  obtain ⟨td, htd, hD, hE⟩ := id hI
  have n1 : ¬ (1 : Int32) = 0 := by decide
  rcases env_cases hD.1 hD.2.2.2.1 x1 with ⟨e1, e2⟩ | ⟨k, hk, rfl, e1, e2⟩
  · refine ⟨0, va_up τ 24 (fun _ => 1), ?_, Or.inr ⟨?_, hI.keep k24, by rw [up_eq]⟩⟩
    · unfold f_X5_nextReminder
      rw [e1]
      simp only [goes1, if_true]
    · unfold f_X4_nextReminder; rw [e2]; rfl
  · obtain ⟨c, len, pc, tm, bf, pr, K, sl, dy, pe, se, k6, hpc, htm, hse, hw, hr, hc⟩ := hE k hk
    have h8 := hw.1
    have hl := Nat.le_refl len
    obtain ⟨τ', l1, l2, l3⟩ := look k6 hse hw hr (k24 (v := fun _ => 0))
    have hdy : ∀ i, i < len → dy i ≤ td := fun i hi => (hw.2.2.2.1 i hi).2.1
    have ho := open_told l2 (sta_le _ _ _ _)
    have hik : inb (nI k) 6 := inb9 k6 (by decide)
    have hclk : (nI k).toNatClampNeg = k := cl9 (by omega)
    have core : ∃ w z z', f_X5_next_9 FU τ' (nI k) (-1) 0 = some (w, z) ∧ f_X0_reminderBehind_4 FU (σ k) (nI td) (-1) 0 = some (w, z') := by
      by_cases hp : pc = 0
      · subst hp
        obtain ⟨z, hz⟩ := behind_no (nI td) h8 hc.1 hc.2.1 c 0 (-1) (by omega) FU (by unfold FU; omega)
        refine ⟨-1, 0, z, ?_, hz⟩
        show f_X5_next_9 (299 + 1) τ' (nI k) (-1) 0 = _
        rw [f_X5_next_9, if_pos hik, if_pos hik]
        simp only [hclk, l3 3 (by decide), hr.2.1]
        rw [if_pos (show nI 0 ≤ 0 by decide), ite_self]
      · obtain ⟨w, z, z', a1, a2⟩ := next_both (σ := σ k) (T := τ') (c := c) (ON := fun j => ond c bf K sl dy len j) (RM := fun j => rmd K sl len j) k6 (by omega) hpc (show td < 2 ^ 30 by omega) h8
          (fun j hj => by
            have hjo : (opd c bf K sl len).testBit j = true := by
              by_cases hs : sta c K sl len = 1
              · rw [if_pos hs, dif_bit] at hj
                cases h : (opd c bf K sl len).testBit j with
                | true => rfl
                | false => rw [h] at hj; cases hj
              · rw [if_neg hs, Nat.zero_testBit] at hj
                cases hj
            have h2 := onn_ond (g := va_up τ 24 (fun _ => (0 : Int32)) 21) hdy len hl j hjo
            exact ⟨h2.2, by rw [l2.2.2.2.2.1 j]; exact h2.1, hc.2.2.2.2.2.2.2.2.2.2.1 j hjo⟩)
          hw.2.2.2.2.2 (fun j hj => ⟨l2.2.2.2.2.2 j hj, hc.2.2.2.2.2.2.2.2.2.1 j hj⟩) ho (by rw [l3 0 (by decide)]; exact hD.2.1) (by rw [l3 2 (by decide)]; exact hr.1) (by rw [l3 3 (by decide)]; exact hr.2.1) hc.1 hc.2.1 hc.2.2.2.2.2.2.2.2.1 c 0 (-1) (by omega) FU FU (by unfold FU; omega) (by unfold FU; omega)
        exact ⟨w, z, z', a1, a2⟩
    obtain ⟨w, z, z', a1, a2⟩ := core
    refine ⟨w, τ', ?_, Or.inl ⟨?_, hI.keep l3, by rw [l2.t24, up_eq]⟩⟩
    · unfold f_X5_nextReminder f_X5_next
      rw [e1]
      simp only [goes0]
      rw [if_neg n1, l1, Option.bind_some, a1]
      rfl
    · unfold f_X4_nextReminder f_X0_reminderBehind
      rw [e2, xb_inr, hD.2.2.1, a2]
      rfl
end
