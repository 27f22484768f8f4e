/-! A slot more, a round more -/
section
theorem mxr_le {r : Nat → Nat} {m : Nat} (b : Nat) (h : ∀ s, r s ≤ m) : ∀ i, mxr r b i ≤ m + 1
  | 0 => Nat.zero_le _
  | i + 1 => by
    have ih := mxr_le b h i
    have := h i
    rw [mxr]
    split
    · exact Nat.max_le.mpr ⟨ih, by omega⟩
    · exact ih
theorem rl_le (bf : Nat → Nat) : ∀ j i, rl bf j i ≤ j
  | 0, i => Nat.le_refl _
  | j + 1, i => by
    rw [rl]
    split
    · exact mxr_le _ (rl_le bf j) j
    · exact Nat.le_succ_of_le (rl_le bf j i)
theorem rl_cong {bf bf' : Nat → Nat} : ∀ n, (∀ j, j < n → bf' j = bf j) → rl bf' n = rl bf n
  | 0, _ => rfl
  | n + 1, h => by
    funext i
    rw [rl, rl, rl_cong n (fun j hj => h j (by omega)), h n (by omega)]
theorem mx_nI {a b : Nat} (ha : a < 2 ^ 31) (hb : b < 2 ^ 31) : mx (nI a) (nI b) = nI (max a b) := by
  unfold mx
  by_cases h : a < b
  · rw [if_pos (nI_lt h hb), Nat.max_eq_right (by omega)]
  · rw [if_neg (nI_nlt (by omega) ha), Nat.max_eq_left (by omega)]
theorem append_loop {σ : SS} {c b : Nat} {r : Nat → Nat} (x1 : Int32) (hc : c ≤ 8) (h10 : σ 10 0 = nI c) (h2 : ∀ j, j < c → σ 2 j = nI (r j)) (hr : ∀ s, r s ≤ 8) :
    ∀ (m i : Nat), i + m = c → ∀ fu, m < fu → ∃ z, f_X0_append_5 fu σ x1 (nI b) (nI (mxr r b i)) (nI i) = some (nI (mxr r b c), z) := by
  intro m
  induction m with
  | zero =>
    intro i hi fu hfu
    obtain ⟨fu, rfl⟩ : ∃ g, fu = g + 1 := ⟨fu - 1, by omega⟩
    obtain rfl : i = c := by omega
    exact ⟨_, by rw [f_X0_append_5, h10, if_pos (nI_le (Nat.le_refl _) (by omega))]⟩
  | succ m ih =>
    intro i hi fu hfu
    obtain ⟨fu, rfl⟩ : ∃ g, fu = g + 1 := ⟨fu - 1, by omega⟩
    have hic : i < c := by omega
    have ih := ih (i + 1) (by omega) fu (by omega)
    have hb := mxr_le b hr i
    have hr := hr i
    rw [f_X0_append_5, h10, if_neg (nI_ge hic (by omega)), rg9 (by omega) (by decide), h2 i hic, s1, s1, mx_nI (by omega) (by omega)]
    simp only [has4' _ (show i < 31 by omega)]
    rw [mxr] at ih
    by_cases hd : b.testBit i = false
    · rw [if_pos hd]
      rw [hd, if_neg (by decide)] at ih
      exact ih
    · have hd' : b.testBit i = true := by simpa using hd
      rw [if_neg hd]
      rw [hd', if_pos rfl] at ih
      exact ih
/-- the reference's rows with a slot more -/
def AS (τ : SS) (k c : Nat) (x y : Int32) : SS := va_up (va_up (va_up τ 6 (upd (τ 6) (8 * k + c) x)) 7 (upd (τ 7) (8 * k + c) y)) 2 (upd (τ 2) k (nI (c + 1)))
theorem AS_lo {τ : SS} {k c x : Nat} {a b : Int32} (h2 : x ≠ 2) (h6 : x ≠ 6) (h7 : x ≠ 7) : AS τ k c a b x = τ x := by
  unfold AS
  rw [up_ne h2, up_ne h7, up_ne h6]
theorem AS_2 {τ : SS} {k c : Nat} {a b : Int32} : AS τ k c a b 2 = upd (τ 2) k (nI (c + 1)) := by
  unfold AS
  rw [up_eq]
theorem AS_6 {τ : SS} {k c : Nat} {a b : Int32} : AS τ k c a b 6 = upd (τ 6) (8 * k + c) a := by
  unfold AS
  rw [up_ne (by decide), up_ne (by decide), up_eq]
theorem AS_7 {τ : SS} {k c : Nat} {a b : Int32} : AS τ k c a b 7 = upd (τ 7) (8 * k + c) b := by
  unfold AS
  rw [up_ne (by decide), up_eq]
theorem AS_other {τ : SS} {k c : Nat} {a b : Int32} (hc : c < 8) : Other τ (AS τ k c a b) k := by
  refine ⟨fun x hx => AS_lo (by omega) (by omega) (by omega), fun k2 hk => same_of (fun x h1 h2 => ?_) (fun j hj => ⟨by rw [AS_6, upd_ne (by omega)], by rw [AS_7, upd_ne (by omega)]⟩) (fun x h1 h2 => AS_lo (by omega) (by omega) (by omega))⟩
  rcases (show x = 2 ∨ (x ≠ 2 ∧ x < 6) by omega) with rfl | ⟨h3, h4⟩
  · rw [AS_2, upd_ne hk]
  · rw [AS_lo h3 (by omega) (by omega)]
theorem adds_spec {τ : SS} {k c : Nat} (hk : k < 6) (hc : c < 8) (h2 : τ 2 k = nI c) (x y : Int32) : f_X5_adds τ (nI k) x y = some (nI c, AS τ k c x y) := by
  have hi : inb (nI k) 6 := inb9 hk (by decide)
  have hx : inb (nI (8 * k + c)) 48 := inb9 (by omega) (by decide)
  have hcl : (nI k).toNatClampNeg = k := cl9 (by omega)
  have hcl2 : (nI (8 * k + c)).toNatClampNeg = 8 * k + c := cl9 (by omega)
  unfold f_X5_adds AS
  rw [if_pos hi]
  simp only [hcl, h2, ix8, hcl2, lt]
  rw [if_pos hx, if_pos hi]
  simp only [up_ne (show (2 : Nat) ≠ 6 by decide), up_ne (show (2 : Nat) ≠ 7 by decide), up_ne (show (7 : Nat) ≠ 6 by decide), h2, ix8, hcl2]
  rw [if_pos hx, if_pos hi, if_pos hi, if_pos hi]
  simp only [up_eq, upd_eq, s1]
  rw [nI_pred]
set_option maxHeartbeats 1000000 in
theorem append_both {td k c p b : Nat} {σ τ : SS} (h : DRF td σ τ k c) (hk : k < 6) (hc : c < 8) (hp : p < 8) (hb : b < 2 ^ c) :
    ∃ σ' τ', f_X5_adds τ (nI k) (nI p) (nI b) = some (nI c, τ') ∧ f_X0_append σ (nI p) (nI b) = some σ' ∧ DRF td σ' τ' k (c + 1) ∧ Other τ τ' k ∧ τ' 24 = τ 24 := by
  obtain ⟨pc, tm, bf, pr, K, sl, dy, pe, se, hpc, htm, hw, ⟨r1, r2, r3, r4, r5, r6⟩, hcl⟩ := h
  obtain ⟨c10, c12, c13, c9, cr, ce, c11, c15, c16, c4, c3, c14⟩ := hcl
  obtain ⟨z, hz⟩ := append_loop (σ := σ) (b := b) (r := rl bf c) (nI p) (by omega) c10 (fun j hj => (cr j hj).2.2) (fun s => by have := rl_le bf c s; omega) c 0 (by omega) FU (by unfold FU; omega)
  have hz : f_X0_append_5 FU σ (nI p) (nI b) 0 0 = some (nI (mxr (rl bf c) b c), z) := hz
  refine ⟨va_up (va_up (va_up (va_up σ 0 (upd (σ 0) c (nI p))) 1 (upd (σ 1) c (nI b))) 2 (upd (σ 2) c (nI (mxr (rl bf c) b c)))) 10 (fun _ => nI (c + 1)), AS τ k c (nI p) (nI b), adds_spec hk hc r1 _ _, ?_, ?_, AS_other hc, AS_lo (by decide) (by decide) (by decide)⟩
  · unfold f_X0_append
    rw [hz, Option.bind_some]
    simp only [lt, up_ne (show (1 : Nat) ≠ 0 by decide), up_ne (show (2 : Nat) ≠ 0 by decide), up_ne (show (2 : Nat) ≠ 1 by decide), up_ne (show (10 : Nat) ≠ 0 by decide), up_ne (show (10 : Nat) ≠ 1 by decide), up_ne (show (10 : Nat) ≠ 2 by decide), c10, rs9 hc (show 8 < 2 ^ 31 by decide), s1]
  · generalize hσ : (va_up (va_up (va_up (va_up σ 0 (upd (σ 0) c (nI p))) 1 (upd (σ 1) c (nI b))) 2 (upd (σ 2) c (nI (mxr (rl bf c) b c)))) 10 (fun _ => nI (c + 1)) : SS) = σ'
    have g : ∀ x, x ≠ 0 → x ≠ 1 → x ≠ 2 → x ≠ 10 → σ' x = σ x := fun x a1 a2 a3 a4 => by rw [← hσ, up_ne a4, up_ne a3, up_ne a2, up_ne a1]
    have g0 : σ' 0 = upd (σ 0) c (nI p) := by rw [← hσ, up_ne (by decide), up_ne (by decide), up_ne (by decide), up_eq]
    have g1 : σ' 1 = upd (σ 1) c (nI b) := by rw [← hσ, up_ne (by decide), up_ne (by decide), up_eq]
    have g2 : σ' 2 = upd (σ 2) c (nI (mxr (rl bf c) b c)) := by rw [← hσ, up_ne (by decide), up_eq]
    have g10 : σ' 10 0 = nI (c + 1) := by rw [← hσ, up_eq]
    have er : rl (uN bf c b) c = rl bf c := rl_cong c (fun j hj => uN_lt hj)
    refine ⟨pc, tm, uN bf c b, uN pr c p, K, sl, dy, pe, se, hpc, htm, ⟨by omega, by omega, fun j hj => ?_, fun i hi => absurd hi (by omega), fun h => absurd h (by omega), fun j => Nat.zero_le _⟩, ⟨?_, ?_, ?_, ?_, fun j hj => ?_, fun i hi => absurd hi (by omega)⟩, ⟨g10, ?_, ?_, ?_, fun j hj => ?_, fun i hi => absurd hi (by omega), ?_, ?_, ?_, fun j hj => ?_, fun j hj => ?_, fun h => absurd h (by omega)⟩⟩
    · by_cases e : j = c
      · subst e
        rw [uN_eq, uN_eq]
        exact ⟨hb, hp⟩
      · rw [uN_lt (by omega), uN_lt (by omega)]
        exact hw.2.2.1 j (by omega)
    · rw [AS_2, upd_eq]
    · rw [AS_lo (by decide) (by decide) (by decide)]; exact r2
    · rw [AS_lo (by decide) (by decide) (by decide)]; exact r3
    · rw [AS_lo (by decide) (by decide) (by decide)]; exact r4
    · rw [AS_6, AS_7]
      by_cases e : j = c
      · subst e
        rw [upd_eq, upd_eq, uN_eq, uN_eq]
        exact ⟨rfl, rfl⟩
      · rw [upd_ne (by omega), upd_ne (by omega), uN_lt (by omega), uN_lt (by omega)]
        exact r5 j (by omega)
    · rw [g 12 (by decide) (by decide) (by decide) (by decide)]; exact c12
    · rw [g 13 (by decide) (by decide) (by decide) (by decide)]; exact c13
    · rw [g 9 (by decide) (by decide) (by decide) (by decide)]; exact c9
    · rw [g0, g1, g2, rl, er]
      by_cases e : j = c
      · subst e
        rw [upd_eq, upd_eq, upd_eq, uN_eq, uN_eq, if_pos rfl]
        exact ⟨rfl, rfl, rfl⟩
      · rw [upd_ne e, upd_ne e, upd_ne e, uN_lt (by omega), uN_lt (by omega), if_neg e]
        exact cr j (by omega)
    · rw [g 11 (by decide) (by decide) (by decide) (by decide)]; exact c11
    · rw [g 15 (by decide) (by decide) (by decide) (by decide)]; exact c15
    · rw [g 16 (by decide) (by decide) (by decide) (by decide), c16]; rfl
    · rw [g 4 (by decide) (by decide) (by decide) (by decide)]; exact c4 j hj
    · rw [opd, Nat.zero_testBit] at hj
      cases hj
theorem dif_all {b c : Nat} : dif b (2 ^ c - 1) = 0 ↔ b < 2 ^ c := by
  constructor
  · intro h
    refine Nat.lt_pow_two_of_testBit b (fun i hi => ?_)
    have h1 : (dif b (2 ^ c - 1)).testBit i = false := by rw [h]; exact Nat.zero_testBit i
    rw [dif_bit, all_bit, decide_eq_false (by omega)] at h1
    simpa using h1
  · intro h
    apply nat_ext
    intro i
    rw [dif_bit, all_bit, Nat.zero_testBit]
    by_cases hi : i < c
    · simp [hi]
    · rw [bit_lt h (by omega)]; rfl
set_option maxHeartbeats 1000000 in
theorem sa_addSlot : SA_addSlot Inv := by
  intro t n σ0 σ τ x1 x2 x3 ht hI
  obtain ⟨td, htd, hD, hE⟩ := id hI
  have n1 : ¬ (1 : Int32) = 0 := by decide
  rcases env_cases hD.1 hD.2.2.2.1 x1 with ⟨e1, e2⟩ | ⟨k, hk, rfl, e1, e2⟩
  · refine ⟨0, va_up τ 24 (fun _ => 1), ?_, Or.inr (Or.inl ⟨?_, hI.keep k24, by rw [up_eq]⟩)⟩
    · unfold f_X5_addSlot
      rw [e1, if_pos rfl]
      simp only [goes1, if_true]
    · unfold f_X4_addSlot; rw [e2]; rfl
  · rcases per_cases x2 with ⟨p1, p2, -⟩ | ⟨p, hp, rfl, p1, p2, -⟩
    · refine ⟨0, va_up τ 24 (fun _ => 1), ?_, Or.inr (Or.inl ⟨?_, hI.keep k24, by rw [up_eq]⟩)⟩
      · unfold f_X5_addSlot
        rw [e1, if_neg n1, p1, if_pos rfl]
        simp only [goes1, if_true]
      · unfold f_X4_addSlot; rw [e2, xb_inr, p2]; rfl
    · obtain ⟨c, len, pc, tm, bf, pr, K, sl, dy, pe, se, k6, hpc, htm, hse, hw, hr, hc⟩ := hE k hk
      have h8 := hw.1
      have c256 := pu_p8 h8
      obtain ⟨τ2, i1, i2, i3⟩ := isin k6 hse hw hr (Keep.rf) (v := 0) (by decide)
      have i1 : f_X5_isIn τ (nI k) 0 = some (if sta c K sl len = 0 then 1 else 0, τ2) := i1
      have hst := sta_le c K sl len
      have hi : inb (nI k) 6 := inb9 k6 (by decide)
      have hcl : (nI k).toNatClampNeg = k := cl9 (by omega)
      have eall := all_spec (c := c) k6 h8 hr.1
      have fall : f_X0_allSlots (σ k) = nI (2 ^ c - 1) := by unfold f_X0_allSlots; rw [hc.1, i_all h8]
      by_cases hx : x3 < 0
      · refine ⟨0, va_up τ2 24 (fun _ => 2), ?_, Or.inr (Or.inr (Or.inl ⟨?_, hI.keep (i2.tr k24), by rw [up_eq]⟩))⟩
        · unfold f_X5_addSlot
          rw [e1, if_neg n1, p1, if_neg n1, if_pos hx, i1, Option.bind_some, if_pos hi]
          simp only [goes2, if_true, ite_self]
        · unfold f_X4_addSlot
          rw [e2, xb_inr, p2, xb_inr, if_pos hx]; rfl
      · obtain ⟨b, hb, rfl⟩ := nI_of hx
        have hz : (nI (dif b (2 ^ c - 1)) = 0) = (b < 2 ^ c) := propext ((nI_zero (dif_lt hb)).trans dif_all)
        by_cases hbc : b < 2 ^ c
        · have hle : nI b ≤ nI (2 ^ c - 1) := nI_le (by omega) (by omega)
          by_cases hs : sta c K sl len = 0
          · have h0 := sta_zero hw hs
            subst h0
            rw [if_pos hs] at i1
            by_cases hc8 : c < 8
            · have hdr : DRF td (σ k) τ k c := ⟨pc, tm, bf, pr, K, sl, dy, pe, se, hpc, htm, hw, hr, hc⟩
              obtain ⟨σ', τ', q1, q2, q3, q4, q5⟩ := append_both (hdr.keep (i2.tr (k24 (v := fun _ => 0)))) k6 hc8 hp hbc
              obtain ⟨pc', tm', bf', pr', K', sl', dy', pe', se', -, -, -, -, hcl'⟩ := id q3
              refine ⟨nI c, τ', ?_, Or.inl ⟨σ0, va_up σ k σ', ?_, inv_put htd hD hE hk (q3.ei k6) (((i2.tr k24).other k).tr q4), by rw [q5, up_eq]⟩⟩
              · unfold f_X5_addSlot
                rw [e1, if_neg n1, p1, if_neg n1, if_neg hx, eall, Option.bind_some, i_dif, if_pos (hz.mpr hbc), i1, Option.bind_some, if_neg n1, if_pos hi]
                simp only [hcl, i2 2 (by decide), hr.1]
                rw [if_neg (show ¬ (8 : Int32) ≤ nI c from nI_ge (b := 8) hc8 (by decide))]
                simp only [goes0]
                rw [if_neg n1, q1]
                rfl
              · unfold f_X4_addSlot
                rw [e2, xb_inr, p2, xb_inr, if_neg hx, fall, if_pos hle, nodraft0 (by rw [hc.2.2.2.2.2.2.1, hs]), xb_inr, hc.1, if_pos (show nI c < 8 from nI_lt (b := 8) hc8 (by decide)), q2, Option.bind_some]
                simp only [lt]
                rw [hcl'.1, nI_pred]
            · refine ⟨0, va_up τ2 24 (fun _ => 3), ?_, Or.inr (Or.inr (Or.inr ⟨?_, hI.keep (i2.tr k24), by rw [up_eq]⟩))⟩
              · unfold f_X5_addSlot
                rw [e1, if_neg n1, p1, if_neg n1, if_neg hx, eall, Option.bind_some, i_dif, if_pos (hz.mpr hbc), i1, Option.bind_some, if_neg n1, if_pos hi]
                simp only [hcl, i2 2 (by decide), hr.1]
                rw [if_pos (show (8 : Int32) ≤ nI c from nI_le (a := 8) (by omega) (by omega))]
                simp only [goes3, if_true]
              · unfold f_X4_addSlot
                rw [e2, xb_inr, p2, xb_inr, if_neg hx, fall, if_pos hle, nodraft0 (by rw [hc.2.2.2.2.2.2.1, hs]), xb_inr, hc.1, if_neg (show ¬ nI c < 8 from nI_nlt (b := 8) (by omega) (by omega))]
                rfl
          · rw [if_neg hs] at i1
            refine ⟨0, va_up τ2 24 (fun _ => 3), ?_, Or.inr (Or.inr (Or.inr ⟨?_, hI.keep (i2.tr k24), by rw [up_eq]⟩))⟩
            · unfold f_X5_addSlot
              rw [e1, if_neg n1, p1, if_neg n1, if_neg hx, eall, Option.bind_some, i_dif, if_pos (hz.mpr hbc), i1, Option.bind_some, if_pos rfl]
              simp only [goes3, if_true]
            · unfold f_X4_addSlot
              rw [e2, xb_inr, p2, xb_inr, if_neg hx, fall, if_pos hle, nodraft1 hc.2.2.2.2.2.2.1 hst hs]
              rfl
        · refine ⟨0, va_up τ2 24 (fun _ => 2), ?_, Or.inr (Or.inr (Or.inl ⟨?_, hI.keep (i2.tr k24), by rw [up_eq]⟩))⟩
          · unfold f_X5_addSlot
            rw [e1, if_neg n1, p1, if_neg n1, if_neg hx, eall, Option.bind_some, i_dif, if_neg (fun h => hbc (hz.mp h)), i1, Option.bind_some, if_pos hi]
            simp only [goes2, if_true, ite_self]
          · unfold f_X4_addSlot
            have hpos := Nat.two_pow_pos c
            rw [e2, xb_inr, p2, xb_inr, if_neg hx, fall, if_neg (nI_ge (show 2 ^ c - 1 < b by omega) hb)]
            rfl
theorem many_tot (x : Int32) : ∀ (m i : Nat) (v : Int32), i + m = 8 → ∀ fu, m < fu → ∃ w z, f_X5_many_4 fu x v (nI i) = some (w, z) := by
  intro m
  induction m with
  | zero =>
    intro i v hi fu hfu
    obtain ⟨fu, rfl⟩ : ∃ g, fu = g + 1 := ⟨fu - 1, by omega⟩
    obtain rfl : i = 8 := by omega
    exact ⟨v, nI 8, by rw [f_X5_many_4, if_pos (by decide)]⟩
  | succ m ih =>
    intro i v hi fu hfu
    obtain ⟨fu, rfl⟩ : ∃ g, fu = g + 1 := ⟨fu - 1, by omega⟩
    rw [f_X5_many_4, if_neg (show ¬ (8 : Int32) ≤ nI i from nI_ge (b := 8) (by omega) (by decide)), s1]
    exact ih (i + 1) _ (by omega) fu (by omega)
theorem many_some (x : Int32) : ∃ w, f_X5_many x = some w := by
  obtain ⟨w, z, h⟩ := many_tot x 8 0 0 (by omega) FU (by unfold FU; omega)
  have h : f_X5_many_4 FU x 0 0 = some (w, z) := h
  exact ⟨w, by unfold f_X5_many; rw [h]; rfl⟩
theorem cnt_mono (p : Nat → Bool) {i : Nat} : ∀ n, i ≤ n → fa_cnt p i ≤ fa_cnt p n
  | 0, h => by
    obtain rfl : i = 0 := by omega
    exact Nat.le_refl _
  | n + 1, h => by
    by_cases e : i = n + 1
    · subst e; exact Nat.le_refl _
    · have h2 := cnt_mono p (i := i) n (by omega)
      rw [fa_cnt]
      omega
theorem pcn_cnt (q : Nat) : pcn q = fa_cnt (fun s => q.testBit s) 8 := by
  have h : ∀ b : Bool, b.toNat = if b = true then 1 else 0 := fun b => by cases b <;> rfl
  unfold pcn
  simp only [h, fa_cnt, Nat.zero_add]
set_option maxHeartbeats 1000000 in
theorem round_loop {td n k k0 c0 q : Nat} {σ0 : SS} {σ : Nat → SS} (x1 x3 : Int32) (hk : k < 6) (hc0 : c0 ≤ 8) :
    ∀ (m i : Nat) (σi τi : SS) (c : Nat), i + m = 8 → ∀ fu fv, m < fu → m < fv → DRF td σi τi k c → c0 ≤ c → c ≤ 8 → c + pcn q ≤ 8 + fa_cnt (fun s => q.testBit s) i →
      ∃ (σ' τ' : SS) (c' : Nat) (z z' : Int32), f_X5_addRound_68 fu τi (nI k) (nI q) x3 (nI (2 ^ c0 - 1)) (nI i) = some (τ', z) ∧ f_X4_addRound_65 fv n σ0 σ k0 σi x1 (nI q) (nI (2 ^ c0 - 1)) (nI i) = some (σ0, σ', z') ∧ DRF td σ' τ' k c' ∧ c' ≤ 8 ∧ Other τi τ' k ∧ τ' 24 = τi 24 := by
  intro m
  induction m with
  | zero =>
    intro i σi τi c hi fu fv hfu hfv hd h1 h2 h3
    obtain ⟨fu, rfl⟩ : ∃ g, fu = g + 1 := ⟨fu - 1, by omega⟩
    obtain ⟨fv, rfl⟩ : ∃ g, fv = g + 1 := ⟨fv - 1, by omega⟩
    obtain rfl : i = 8 := by omega
    refine ⟨σi, τi, c, nI 8, nI 8, ?_, ?_, hd, h2, Keep.rf.other k, rfl⟩
    · rw [f_X5_addRound_68, if_pos (by decide)]
    · rw [f_X4_addRound_65, if_pos (by decide)]
  | succ m ih =>
    intro i σi τi c hi fu fv hfu hfv hd h1 h2 h3
    obtain ⟨fu, rfl⟩ : ∃ g, fu = g + 1 := ⟨fu - 1, by omega⟩
    obtain ⟨fv, rfl⟩ : ∃ g, fv = g + 1 := ⟨fv - 1, by omega⟩
    have h8 : ¬ (8 : Int32) ≤ nI i := nI_ge (b := 8) (by omega) (by decide)
    rw [f_X5_addRound_68, if_neg h8, f_X4_addRound_65, if_neg h8, s1]
    simp only [has4' _ (show i < 31 by omega), has5' _ (show i < 31 by omega)]
    cases hb : q.testBit i with
    | false =>
      rw [if_pos rfl, if_pos rfl]
      exact ih (i + 1) σi τi c (by omega) fu fv (by omega) (by omega) hd h1 h2 (by rw [fa_cnt_no hb]; exact h3)
    | true =>
      rw [if_neg (by decide), if_neg (by decide)]
      have e1 : fa_cnt (fun s => q.testBit s) (i + 1) = fa_cnt (fun s => q.testBit s) i + 1 := fa_cnt_yes hb
      have e2 := cnt_mono (fun s => q.testBit s) (i := i + 1) 8 (by omega)
      rw [← pcn_cnt] at e2
      have hpow : 2 ^ c0 ≤ 2 ^ c := Nat.pow_le_pow_right (by decide) h1
      have hpos := Nat.two_pow_pos c0
      obtain ⟨σ2, τ2, q1, q2, q3, q4, q5⟩ := append_both hd hk (show c < 8 by omega) (show i < 8 by omega) (show 2 ^ c0 - 1 < 2 ^ c by omega)
      obtain ⟨σ', τ', c', z, z', a1, a2, a3, a4, a5, a6⟩ := ih (i + 1) σ2 τ2 (c + 1) (by omega) fu fv (by omega) (by omega) q3 (by omega) (by omega) (by omega)
      refine ⟨σ', τ', c', z, z', ?_, ?_, a3, a4, q4.tr a5, a6.trans q5⟩
      · rw [q1, Option.bind_some]; exact a1
      · rw [q2, Option.bind_some]; exact a2
set_option maxHeartbeats 1000000 in
theorem sa_addRound : SA_addRound Inv := by
  intro t n σ0 σ τ x1 x2 ht hI
  obtain ⟨td, htd, hD, hE⟩ := id hI
  have n1 : ¬ (1 : Int32) = 0 := by decide
  rcases env_cases hD.1 hD.2.2.2.1 x1 with ⟨e1, e2⟩ | ⟨k, hk, rfl, e1, e2⟩
  · refine ⟨0, va_up τ 24 (fun _ => 1), ?_, Or.inr (Or.inl ⟨?_, hI.keep k24, by rw [up_eq]⟩)⟩
    · unfold f_X5_addRound
      rw [e1, if_pos rfl]
      simp only [goes1, if_true]
    · unfold f_X4_addRound; rw [e2]; rfl
  · obtain ⟨c, len, pc, tm, bf, pr, K, sl, dy, pe, se, k6, hpc, htm, hse, hw, hr, hc⟩ := hE k hk
    have h8 := hw.1
    obtain ⟨τ2, i1, i2, i3⟩ := isin k6 hse hw hr (Keep.rf) (v := 0) (by decide)
    have i1 : f_X5_isIn τ (nI k) 0 = some (if sta c K sl len = 0 then 1 else 0, τ2) := i1
    have hst := sta_le c K sl len
    have hi : inb (nI k) 6 := inb9 k6 (by decide)
    have hcl : (nI k).toNatClampNeg = k := cl9 (by omega)
    have fall : f_X0_allSlots (σ k) = nI (2 ^ c - 1) := by unfold f_X0_allSlots; rw [hc.1, i_all h8]
    have bad : (x2 < 1 ∨ ¬ x2 < 256) → f_X5_in x2 1 255 = 0 ∧ f_X4_addRound n σ0 σ (nI k) x2 = some (.inl IAE) := by
      intro h
      constructor
      · unfold f_X5_in
        by_cases h1 : x2 < 1
        · rw [if_pos h1]
        · rw [if_neg h1]
          have h2 : ¬ x2 < 256 := h.resolve_left h1
          have h3 : (255 : Int32) < x2 := by
            rw [fa_lt] at h2 ⊢
            have a1 : (255 : Int32).toInt = 255 := by decide
            have a2 : (256 : Int32).toInt = 256 := by decide
            omega
          rw [if_pos h3]
      · unfold f_X4_addRound
        rw [e2, xb_inr]
        by_cases h1 : x2 < 1
        · rw [if_pos h1]; rfl
        · rw [if_neg h1, if_neg (h.resolve_left h1)]; rfl
    by_cases hx : x2 < 1 ∨ ¬ x2 < 256
    · obtain ⟨b1, b2⟩ := bad hx
      obtain ⟨w, hm⟩ := many_some x2
      refine ⟨0, va_up τ2 24 (fun _ => 2), ?_, Or.inr (Or.inr (Or.inl ⟨b2, hI.keep (i2.tr k24), by rw [up_eq]⟩))⟩
      unfold f_X5_addRound
      rw [e1, if_neg n1, i1, Option.bind_some, if_pos hi, hm, Option.bind_some, b1]
      simp only [goes2, if_true, ite_self]
    · have h1 : ¬ x2 < 1 := fun h => hx (Or.inl h)
      have h2 : x2 < 256 := Classical.byContradiction fun h => hx (Or.inr h)
      have h0 : ¬ x2 < 0 := by
        rw [fa_lt] at h1 ⊢
        have a1 : (0 : Int32).toInt = 0 := by decide
        have a2 : (1 : Int32).toInt = 1 := by decide
        omega
      obtain ⟨q, hq, rfl⟩ := nI_of h0
      have hq2 : q < 256 := (nI_ltI (b := 256) hq (by decide)).mp h2
      have hin : f_X5_in (nI q) 1 255 = 1 := by
        unfold f_X5_in
        rw [if_neg h1, if_neg (show ¬ (255 : Int32) < nI q from nI_nlt (a := 255) (by omega) (by decide))]
      have hp8 := pcn_le q
      by_cases hs : sta c K sl len = 0
      · have hl0 := sta_zero hw hs
        subst hl0
        rw [if_pos hs] at i1
        by_cases hc8 : c + pcn q ≤ 8
        · have hdr : DRF td (σ k) τ k c := ⟨pc, tm, bf, pr, K, sl, dy, pe, se, hpc, htm, hw, hr, hc⟩
          obtain ⟨σ', τ', c', z, z', q1, q2, q3, q4, q5, q6⟩ := round_loop (n := n) (k0 := k) (q := q) (σ0 := σ0) (σ := σ) (nI k) 1 k6 h8 8 0 (σ k) (va_up τ2 24 (fun _ => 0)) c (by omega) FU FU (by unfold FU; omega) (by unfold FU; omega) (hdr.keep (i2.tr k24)) (Nat.le_refl _) h8 (by omega)
          obtain ⟨pc', tm', bf', pr', K', sl', dy', pe', se', -, -, -, hr', hcl'⟩ := id q3
          refine ⟨nI c', τ', ?_, Or.inl ⟨σ0, va_up σ k σ', ?_, inv_put htd hD hE hk (q3.ei k6) (((i2.tr k24).other k).tr q5), by rw [q6, up_eq]⟩⟩
          · unfold f_X5_addRound
            rw [e1, if_neg n1, i1, Option.bind_some, if_neg n1, if_pos hi, many_pcn hq2, Option.bind_some, hin]
            simp only [hcl, i2 2 (by decide), hr.1, nI_add]
            rw [if_neg (show ¬ (8 : Int32) < nI (c + pcn q) from nI_nlt (a := 8) hc8 (by decide))]
            simp only [goes0]
            rw [if_neg n1, all_spec (c := c) k6 h8 (by rw [up_ne (by decide), i2 2 (by decide)]; exact hr.1), Option.bind_some]
            have q1 : f_X5_addRound_68 FU (va_up τ2 24 fun x => 0) (nI k) (nI q) 1 (nI (2 ^ c - 1)) 0 = some (τ', z) := q1
            rw [q1, Option.bind_some, if_pos hi]
            show some (τ' 2 k, τ') = _
            rw [hr'.1]
          · unfold f_X4_addRound
            rw [e2, xb_inr, if_neg h1, if_pos h2, nodraft0 (by rw [hc.2.2.2.2.2.2.1, hs]), xb_inr, hc.1, bc_pcn hq2, nI_add, if_pos (show nI (c + pcn q) ≤ 8 from nI_le (b := 8) hc8 (by decide)), fall]
            have q2 : f_X4_addRound_65 FU n σ0 σ k (σ k) (nI k) (nI q) (nI (2 ^ c - 1)) 0 = some (σ0, σ', z') := q2
            rw [q2, Option.bind_some]
            show some (Sum.inr (σ' 10 0, σ0, va_up σ k σ')) = _
            rw [hcl'.1]
        · refine ⟨0, va_up τ2 24 (fun _ => 3), ?_, Or.inr (Or.inr (Or.inr ⟨?_, hI.keep (i2.tr k24), by rw [up_eq]⟩))⟩
          · unfold f_X5_addRound
            rw [e1, if_neg n1, i1, Option.bind_some, if_neg n1, if_pos hi, many_pcn hq2, Option.bind_some, hin]
            simp only [hcl, i2 2 (by decide), hr.1, nI_add]
            rw [if_pos (show (8 : Int32) < nI (c + pcn q) from nI_lt (a := 8) (by omega) (by omega))]
            simp only [goes3, if_true]
          · unfold f_X4_addRound
            rw [e2, xb_inr, if_neg h1, if_pos h2, nodraft0 (by rw [hc.2.2.2.2.2.2.1, hs]), xb_inr, hc.1, bc_pcn hq2, nI_add, if_neg (show ¬ nI (c + pcn q) ≤ 8 from nI_ge (a := 8) (by omega) (by omega))]
            rfl
      · rw [if_neg hs] at i1
        refine ⟨0, va_up τ2 24 (fun _ => 3), ?_, Or.inr (Or.inr (Or.inr ⟨?_, hI.keep (i2.tr k24), by rw [up_eq]⟩))⟩
        · unfold f_X5_addRound
          rw [e1, if_neg n1, i1, Option.bind_some, if_pos rfl, hin]
          simp only [goes3, if_true]
        · unfold f_X4_addRound
          rw [e2, xb_inr, if_neg h1, if_pos h2, nodraft1 hc.2.2.2.2.2.2.1 hst hs]
          rfl
end
