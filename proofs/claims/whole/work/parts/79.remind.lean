/-! An envelope meets a day -/
section
theorem Wf.mono {td td2 c len : Nat} {bf pr K sl dy : Nat → Nat} (hw : Wf td c len bf pr K sl dy) (h : td ≤ td2) : Wf td2 c len bf pr K sl dy := by
  obtain ⟨w1, w2, w3, w4, w5, w6⟩ := hw
  exact ⟨w1, w2, w3, fun i hi => ⟨(w4 i hi).1, Nat.le_trans (w4 i hi).2.1 h, (w4 i hi).2.2⟩, w5, w6⟩
theorem EI.mono {td td2 k : Nat} {σ τ : SS} (h : EI td σ τ k) (h2 : td ≤ td2) : EI td2 σ τ k := by
  obtain ⟨c, len, pc, tm, bf, pr, K, sl, dy, pe, se, q1, q2, q3, q4, q5, q6, q7⟩ := h
  exact ⟨c, len, pc, tm, bf, pr, K, sl, dy, pe, se, q1, q2, q3, q4, q5.mono h2, q6, q7⟩
/-- an envelope between two of its reminders on one day -/
def RI (D k c pc tm SG OP : Nat) (ON RM bf pr : Nat → Nat) (i : Nat) (σ τ : SS) : Prop :=
  ∃ (len : Nat) (K sl dy : Nat → Nat) (pe se : Nat → Int32), (∀ i, i < len → (K i = 1 ∨ K i = 2 ∨ K i = 6) → se i = nI (sl i)) ∧ Wf D c len bf pr K sl dy ∧ RefE τ k c len pc tm bf pr K dy pe se ∧ ClsE σ c len pc tm bf pr K sl dy pe se ∧ sta c K sl len = 1 ∧ sgn K sl len = SG ∧ opd c bf K sl len = OP ∧ (∀ j, ond c bf K sl dy len j = ON j) ∧ ∀ j, i ≤ j → rmd K sl len j = RM j
theorem RI.ei {D k c pc tm SG OP i : Nat} {ON RM bf pr : Nat → Nat} {σ τ : SS} (h : RI D k c pc tm SG OP ON RM bf pr i σ τ) (hk : k < 6) (hpc : pc ≤ 30) (htm : tm ≤ 60) : EI D σ τ k := by
  obtain ⟨len, K, sl, dy, pe, se, h1, h2, h3, h4, -⟩ := h
  exact ⟨c, len, pc, tm, bf, pr, K, sl, dy, pe, se, hk, hpc, htm, h1, h2, h3, h4⟩
theorem RI.next {D k c pc tm SG OP i : Nat} {ON RM bf pr : Nat → Nat} {σ τ : SS} (h : RI D k c pc tm SG OP ON RM bf pr i σ τ) : RI D k c pc tm SG OP ON RM bf pr (i + 1) σ τ := by
  obtain ⟨len, K, sl, dy, pe, se, h1, h2, h3, h4, h5, h6, h7, h8, h9⟩ := h
  exact ⟨len, K, sl, dy, pe, se, h1, h2, h3, h4, h5, h6, h7, h8, fun j hj => h9 j (by omega)⟩
set_option maxHeartbeats 1000000 in
/-- one reminder, on both sides -/
theorem RI.add {D k c pc tm SG OP i : Nat} {ON RM bf pr : Nat → Nat} {σ τ : SS} (h : RI D k c pc tm SG OP ON RM bf pr i σ τ) (hk : k < 6) (hi : i < c) (h0 : τ 0 0 = nI D) (hb : (dif OP SG).testBit i = true) (hr5 : RM i < 5) :
    ∃ len, τ 5 k = nI len ∧ len < 49 ∧ f_X5_notes τ (nI k) 6 (nI (pr i)) (nI i) = some (NT τ k len (nI 6) (nI (pr i)) (nI i) (nI D)) ∧ σ 9 0 = nI len ∧ RI D k c pc tm SG OP ON RM bf pr (i + 1) (AD (va_up σ 4 (upd (σ 4) i (nI (RM i + 1)))) len (nI 6) (nI (pr i)) (nI i) (nI D)) (NT τ k len (nI 6) (nI (pr i)) (nI i) (nI D)) := by
  obtain ⟨len, K, sl, dy, pe, se, hse, hw, hr, hc, hs, hSG, hOP, hON, hRM⟩ := h
  have h8 := hw.1
  have hl := Nat.le_refl len
  have hlen := sta_pos hs
  have hc0 : 0 < c := (hw.2.2.2.2.1 hlen).1
  have hroom := hw.room hc0 (Or.inr hs)
  obtain ⟨c10, c12, c13, c9, cr, ce, c11, c15, c16, c4, c3, c14⟩ := hc
  have hbs : (sgn K sl len).testBit i = false := by
    rw [hSG]
    rw [dif_bit] at hb
    cases h : SG.testBit i with
    | false => rfl
    | true => rw [h] at hb; simp at hb
  have hri : rmd K sl len i = RM i := hRM i (Nat.le_refl _)
  have cg : ∀ q, q < len → uN K len 6 q = K q ∧ uN sl len i q = sl q := fun q hq => ⟨uN_lt hq, uN_lt hq⟩
  have hw' : Wf D c (len + 1) bf pr (uN K len 6) (uN sl len i) (uN dy len D) := hw.add hc0 (by omega) ⟨fun e => by omega, fun e => by omega⟩ (fun _ => hs) (fun _ => ⟨hi, hbs⟩) (fun h => by omega) (Nat.le_refl _) (fun _ => by rw [hri]; exact hr5)
  have hr' := NT_ref hr 6 D (nI (pr i)) (nI i)
  have hse' : ∀ q, q < len + 1 → (uN K len 6 q = 1 ∨ uN K len 6 q = 2 ∨ uN K len 6 q = 6) → upd se len (nI i) q = nI (uN sl len i q) := by
    intro q hq h
    by_cases e : q = len
    · subst e
      rw [uN_eq, upd_eq]
    · rw [uN_lt (by omega)] at h ⊢
      rw [upd_ne e]
      exact hse q (by omega) h
  have eS : sgn (uN K len 6) (uN sl len i) (len + 1) = sgn K sl len := by rw [sgn, uN_eq, if_neg (by omega), sgn_cong cg _ hl]
  have eT : sta c (uN K len 6) (uN sl len i) (len + 1) = 1 := by rw [sta, uN_eq, if_neg (by omega), if_neg (by omega), if_pos rfl, sta_cong cg _ hl, hs]
  have eO : opd c bf (uN K len 6) (uN sl len i) (len + 1) = opd c bf K sl len := by rw [opd, uN_eq, if_neg (by omega), opd_cong cg _ hl]
  have eN : ∀ j, ond c bf (uN K len 6) (uN sl len i) (uN dy len D) (len + 1) j = ond c bf K sl dy len j := fun j => by rw [ond, uN_eq, if_neg (by omega), ond_cong cg (fun q hq => uN_lt hq) _ hl]
  have eR : ∀ j, rmd (uN K len 6) (uN sl len i) (len + 1) j = if j = i then rmd K sl len j + 1 else rmd K sl len j := fun j => by
    rw [rmd, uN_eq, uN_eq, rmd_cong cg _ hl]
    by_cases e : j = i
    · rw [if_pos e, if_pos ⟨rfl, e⟩]
    · rw [if_neg e, if_neg (fun q => e q.2)]
  have e9 : (va_up σ 4 (upd (σ 4) i (nI (RM i + 1))) : SS) 9 0 = nI len := by rw [up_ne (by decide)]; exact c9
  obtain ⟨a0, a5, a6, a7, a8, a9⟩ := AD_spec e9 (show len < 49 by omega) (nI 6) (nI (pr i)) (nI i) (nI D)
  rw [up_ne (by decide)] at a5 a6 a7 a8
  have hn := notes_spec hk (show len < 50 by omega) hr.2.2.2.1 (nI 6) (nI (pr i)) (nI i)
  rw [h0] at hn
  refine ⟨len, hr.2.2.2.1, by omega, hn, c9, len + 1, uN K len 6, uN sl len i, uN dy len D, upd pe len (nI (pr i)), upd se len (nI i), hse', hw', hr', ?_, eT, eS.trans hSG, eO.trans hOP, fun j => (eN j).trans (hON j), fun j hj => by rw [eR, if_neg (by omega)]; exact hRM j (by omega)⟩
  have g : ∀ x, x < 5 ∨ 9 < x → x ≠ 4 → AD (va_up σ 4 (upd (σ 4) i (nI (RM i + 1)))) len (nI 6) (nI (pr i)) (nI i) (nI D) x = σ x := fun x h1 h2 => by rw [a0 x h1, up_ne h2]
  refine ⟨?_, ?_, ?_, a9, fun j hj => ?_, cls_ev 6 i D (nI (pr i)) (nI i) a5 a6 a7 a8 ce, ?_, ?_, ?_, fun j hj => ?_, fun j hj => ?_, fun _ => ?_⟩
  · rw [g 10 (by decide) (by decide)]; exact c10
  · rw [g 12 (by decide) (by decide)]; exact c12
  · rw [g 13 (by decide) (by decide)]; exact c13
  · rw [g 0 (by decide) (by decide), g 1 (by decide) (by decide), g 2 (by decide) (by decide)]; exact cr j hj
  · rw [g 11 (by decide) (by decide), c11, hs, eT]
  · rw [g 15 (by decide) (by decide), c15, eS]
  · rw [g 16 (by decide) (by decide), c16, hs, eT, eS, eO]
  · rw [a0 4 (by decide), up_eq, eR]
    by_cases e : j = i
    · subst e
      rw [upd_eq, if_pos rfl, hri]
    · rw [upd_ne e, if_neg e, c4 j hj]
  · rw [eO] at hj
    rw [g 3 (by decide) (by decide), eN, c3 j hj]
  · rw [g 14 (by decide) (by decide), c14 hlen, uN_lt hlen]
theorem canR {σ : SS} {i pc op rm : Nat} (hi : i < 8) (h12 : σ 12 0 = nI pc) (hp0 : 0 < pc) (hp : pc ≤ 30) (h16 : σ 16 0 = nI op) (h4 : σ 4 i = nI rm) (hrm : rm ≤ 5) : f_X0_canRemind σ (nI i) = if op.testBit i = true ∧ rm < 5 then 1 else 0 := by
  unfold f_X0_canRemind
  rw [h12, if_neg (nI_nle hp0 (by omega)), h16, rg9 hi (by decide), h4]
  simp only [has4' _ (show i < 31 by omega)]
  cases hb : op.testBit i with
  | false => rw [if_pos rfl, if_neg (fun h => by cases h.1)]
  | true =>
    rw [if_neg (by decide)]
    by_cases h5 : rm < 5
    · rw [if_neg (show ¬ (5 : Int32) ≤ nI rm from nI_ge (b := 5) h5 (by decide)), if_pos ⟨rfl, h5⟩]
    · rw [if_pos (show (5 : Int32) ≤ nI rm from nI_le (a := 5) (by omega) (by omega)), if_neg (fun h => h5 h.2)]
theorem daysP {σ : SS} {i pc on D : Nat} (hi : i < 8) (h12 : σ 12 0 = nI pc) (hp0 : 0 < pc) (hp : pc ≤ 30) (h3 : σ 3 i = nI on) (hon : on ≤ D) (hD : D < 2 ^ 31) : f_X0_daysToPace σ (nI i) (nI D) = some (nI (pc - (D - on) % pc)) := by
  unfold f_X0_daysToPace
  have hm := Nat.mod_lt (D - on) hp0
  rw [h12, if_pos (show (0 : Int32) < nI pc from nI_lt (a := 0) hp0 (by omega)), if_pos (nI_ne0 hp0 (by omega)), rg9 hi (by decide), h3, nI_sub hon, pk_rem (by omega) hp0 (by omega), nI_sub (by omega)]
set_option maxHeartbeats 1000000 in
theorem remind_loop {td k c pc tm SG OP : Nat} {ON RM bf pr : Nat → Nat} {T : SS} (hk : k < 6) (hp0 : 0 < pc) (hp : pc ≤ 30) (hD : td < 2 ^ 30) (hon : ∀ j, OP.testBit j = true → ON j ≤ td) (hrm : ∀ j, RM j ≤ 5) (hc8 : c ≤ 8) (t0 : T 0 0 = nI (td + 1)) (t2 : T 2 k = nI c) (t3 : T 3 k = nI pc) (t6 : ∀ j, j < c → T 6 (8 * k + j) = nI (pr j)) (t21 : ∀ j, OP.testBit j = true → T 21 j = nI (ON j)) (t22 : ∀ j, j < 8 → T 22 j = nI (RM j)) :
    ∀ (m i : Nat) (σ τ : SS) (v : Int32), i + m = c → ∀ fu fv, m < fu → m < fv → RI (td + 1) k c pc tm SG OP ON RM bf pr i σ τ → (∀ x, x ≠ 5 → (x < 8 ∨ 11 < x) → τ x = T x) →
      ∃ (σ' τ' : SS) (w z z' : Int32), f_X5_reminds_15 fu τ (nI k) v (nI (dif OP SG)) (nI i) = some (τ', w, z) ∧ f_X0_remind_4 fv σ (nI (td + 1)) v (nI i) = some (σ', w, z') ∧ RI (td + 1) k c pc tm SG OP ON RM bf pr c σ' τ' ∧ Other τ τ' k ∧ τ' 24 = τ 24 := by
  have hik : inb (nI k) 6 := inb9 hk (by decide)
  have hclk : (nI k).toNatClampNeg = k := cl9 (by omega)
  intro m
  induction m with
  | zero =>
    intro i σ τ v hi fu fv hfu hfv hR hT
    obtain ⟨fu, rfl⟩ : ∃ g, fu = g + 1 := ⟨fu - 1, by omega⟩
    obtain ⟨fv, rfl⟩ : ∃ g, fv = g + 1 := ⟨fv - 1, by omega⟩
    obtain rfl : i = c := by omega
    obtain ⟨len, K, sl, dy, pe, se, hse, hw, hr, hc, -⟩ := id hR
    refine ⟨σ, τ, v, nI i, nI i, ?_, ?_, hR, Keep.rf.other k, rfl⟩
    · rw [f_X5_reminds_15, if_pos hik]
      simp only [hclk, hT 2 (by decide) (by decide), t2]
      rw [if_pos (nI_le (Nat.le_refl _) (by omega))]
    · rw [f_X0_remind_4, hc.1, if_pos (nI_le (Nat.le_refl _) (by omega))]
  | succ m ih =>
    intro i σ τ v hi fu fv hfu hfv hR hT
    obtain ⟨fu, rfl⟩ : ∃ g, fu = g + 1 := ⟨fu - 1, by omega⟩
    obtain ⟨fv, rfl⟩ : ∃ g, fv = g + 1 := ⟨fv - 1, by omega⟩
    have hic : i < c := by omega
    have hi8 : inb (nI i) 8 := inb9 (by omega) (by decide)
    have hcli : (nI i).toNatClampNeg = i := cl9 (by omega)
    obtain ⟨len, K, sl, dy, pe, se, hse, hw, hr, hc, hs, hSG, hOP, hON, hRM⟩ := id hR
    have h16 : σ 16 0 = nI (dif OP SG) := by rw [hc.2.2.2.2.2.2.2.2.1, hs, if_pos rfl, hSG, hOP]
    have h4 : σ 4 i = nI (RM i) := by rw [hc.2.2.2.2.2.2.2.2.2.1 i (by omega), hRM i (Nat.le_refl _)]
    have hrmi := hrm i
    have ec := canR (show i < 8 by omega) hc.2.1 hp0 hp h16 h4 hrmi
    have skip : ∀ (x : Option (SS × Int32 × Int32)) (y : Option (SS × Int32 × Int32)), x = f_X5_reminds_15 fu τ (nI k) v (nI (dif OP SG)) (nI (i + 1)) → y = f_X0_remind_4 fv σ (nI (td + 1)) v (nI (i + 1)) →
        ∃ (σ' τ' : SS) (w z z' : Int32), x = some (τ', w, z) ∧ y = some (σ', w, z') ∧ RI (td + 1) k c pc tm SG OP ON RM bf pr c σ' τ' ∧ Other τ τ' k ∧ τ' 24 = τ 24 := by
      intro x y hx hy
      rw [hx, hy]
      exact ih (i + 1) σ τ v (by omega) fu fv (by omega) (by omega) hR.next hT
    rw [f_X5_reminds_15, if_pos hik, f_X0_remind_4, hc.1, if_neg (nI_ge hic (by omega))]
    simp only [hclk, hT 2 (by decide) (by decide), t2]
    rw [if_neg (nI_ge hic (by omega)), if_pos hi8, s1]
    simp only [has5' _ (show i < 31 by omega)]
    cases hb : (dif OP SG).testBit i with
    | false =>
      have e0 : f_X0_canRemind σ (nI i) = 0 := by rw [ec, if_neg (show ¬ ((dif OP SG).testBit i = true ∧ RM i < 5) from fun h => by rw [hb] at h; cases h.1)]
      refine skip _ _ (by rw [if_pos rfl]) (by rw [e0, if_pos rfl])
    | true =>
      have hbo : OP.testBit i = true := by
        rw [dif_bit] at hb
        cases h : OP.testBit i with
        | true => rfl
        | false => rw [h] at hb; cases hb
      have hle := hon i hbo
      rw [if_neg (by decide), if_pos hi8]
      simp only [hcli, hT 22 (by decide) (by decide), t22 i (by omega)]
      by_cases h5 : RM i < 5
      · have e1 : f_X0_canRemind σ (nI i) = 1 := by rw [ec, if_pos ⟨hb, h5⟩]
        rw [if_neg (show ¬ (5 : Int32) ≤ nI (RM i) from nI_ge (b := 5) h5 (by decide)), e1, if_neg (show ¬ (1 : Int32) = 0 by decide)]
        simp only [hT 0 (by decide) (by decide), hT 21 (by decide) (by decide), t0, t21 i hbo, nI_sub (show ON i ≤ td + 1 by omega)]
        rw [if_neg (nI_nle (show 0 < td + 1 - ON i by omega) (by omega)), if_pos hik]
        simp only [hclk, hT 3 (by decide) (by decide), t3]
        rw [if_pos (nI_ne0 hp0 (by omega)), pk_rem (by omega) hp0 (by omega)]
        have h3 : σ 3 i = nI (ON i) := by rw [hc.2.2.2.2.2.2.2.2.2.2.1 i (by rw [hOP]; exact hbo), hON i]
        have hm := Nat.mod_lt (td + 1 - ON i) hp0
        rw [daysP (show i < 8 by omega) hc.2.1 hp0 hp h3 (show ON i ≤ td + 1 by omega) (by omega), Option.bind_some, hc.2.1]
        by_cases h0 : (td + 1 - ON i) % pc = 0
        · obtain ⟨len', n1, n2, n3, n4, n5⟩ := hR.add hk hic (by rw [hT 0 (by decide) (by decide)]; exact t0) hb h5
          have n3 : f_X5_notes τ (nI k) 6 (nI (pr i)) (nI i) = some (NT τ k len' (nI 6) (nI (pr i)) (nI i) (nI (td + 1))) := n3
          obtain ⟨σ', τ', w, z, z', a1, a2, a3, a4, a5⟩ := ih (i + 1) _ _ (v + 1) (by omega) fu fv (by omega) (by omega) n5 (fun x h1 h2 => by rw [NT_lo h1 h2]; exact hT x h1 h2)
          refine ⟨σ', τ', w, z, z', ?_, ?_, a3, (NT_other n2).tr a4, by rw [a5, NT_lo (by decide) (by decide)]⟩
          · rw [if_pos (by rw [h0]; exact nI_0), ix8, if_pos (inb9 (by omega) (by decide))]
            simp only [cl9 (show 8 * k + i < 2 ^ 31 by omega), hT 6 (by decide) (by decide), t6 i hic]
            rw [n3, Option.bind_some]
            exact a1
          · rw [if_pos (by rw [h0]; rfl)]
            simp only [lt, rs9 (show i < 8 by omega) (show 8 < 2 ^ 31 by decide), rg9 (show i < 8 by omega) (show 8 < 2 ^ 31 by decide), h4, s1, up_ne (show (0 : Nat) ≠ 4 by decide), (hc.2.2.2.2.1 i hic).1]
            exact a2
        · refine skip _ _ (by rw [if_neg (fun e => h0 ((nI_zero (by omega)).mp e))]) (by rw [if_neg (fun e => by have := (nI_eq (by omega) (by omega)).mp e; omega)])
      · have e0 : f_X0_canRemind σ (nI i) = 0 := by rw [ec, if_neg (fun h => h5 h.2)]
        refine skip _ _ (by rw [if_pos (show (5 : Int32) ≤ nI (RM i) from nI_le (a := 5) (by omega) (by omega))]) (by rw [e0, if_pos rfl])
theorem remind_no {σ : SS} {c : Nat} (x : Int32) (hc : c ≤ 8) (h10 : σ 10 0 = nI c) (h12 : σ 12 0 = nI 0) : ∀ (m i : Nat) (v : Int32), i + m = c → ∀ fu, m < fu → ∃ z, f_X0_remind_4 fu σ x v (nI i) = some (σ, v, z) := by
  intro m
  induction m with
  | zero =>
    intro i v hi fu hfu
    obtain ⟨fu, rfl⟩ : ∃ g, fu = g + 1 := ⟨fu - 1, by omega⟩
    obtain rfl : i = c := by omega
    exact ⟨nI i, by rw [f_X0_remind_4, h10, if_pos (nI_le (Nat.le_refl _) (by omega))]⟩
  | succ m ih =>
    intro i v hi fu hfu
    obtain ⟨fu, rfl⟩ : ∃ g, fu = g + 1 := ⟨fu - 1, by omega⟩
    obtain ⟨z, hz⟩ := ih (i + 1) v (by omega) fu (by omega)
    refine ⟨z, ?_⟩
    have e : f_X0_canRemind σ (nI i) = 0 := by
      unfold f_X0_canRemind
      rw [h12, if_pos (show nI 0 ≤ 0 by decide)]
    rw [f_X0_remind_4, h10, if_neg (nI_ge (by omega) (by omega)), e, if_pos rfl, s1]
    exact hz
set_option maxHeartbeats 1000000 in
theorem remind_both {td c len pc tm k : Nat} {σk τ τ2 : SS} {bf pr K sl dy : Nat → Nat} {pe se : Nat → Int32} (hk : k < 6) (hp0 : 0 < pc) (hpc : pc ≤ 30) (htd : td < 2 ^ 30) (hse : ∀ i, i < len → (K i = 1 ∨ K i = 2 ∨ K i = 6) → se i = nI (sl i)) (hw : Wf td c len bf pr K sl dy) (hr : RefE τ k c len pc tm bf pr K dy pe se) (hc : ClsE σk c len pc tm bf pr K sl dy pe se) (h0 : τ 0 0 = nI (td + 1)) (h2 : Keep τ τ2) (hs : sta c K sl len = 1) (htm : tm ≤ 60) :
    ∃ (w : Int32) (σ' τ' : SS), f_X5_reminds τ2 (nI k) = some (w, τ') ∧ f_X0_remind σk (nI (td + 1)) = some (w, σ') ∧ EI (td + 1) σ' τ' k ∧ Other τ τ' k ∧ τ' 24 = τ2 24 := by
  have h8 := hw.1
  have hl := Nat.le_refl len
  have hlen := sta_pos hs
  obtain ⟨τ3, l1, l2, l3⟩ := look hk hse hw hr h2
  obtain ⟨r1, r2, r3, r4, r5, r6⟩ := hr
  have hdy : ∀ i, i < len → dy i ≤ td := fun i hi => (hw.2.2.2.1 i hi).2.1
  have hR : RI (td + 1) k c pc tm (sgn K sl len) (opd c bf K sl len) (fun j => ond c bf K sl dy len j) (fun j => rmd K sl len j) bf pr 0 σk τ3 := ⟨len, K, sl, dy, pe, se, hse, hw.mono (by omega), RefE.keep ⟨r1, r2, r3, r4, r5, r6⟩ l3, hc, hs, rfl, rfl, fun j => rfl, fun j _ => rfl⟩
  obtain ⟨σ', τ', w, z, z', a1, a2, a3, a4, a5⟩ := remind_loop (T := τ3) hk hp0 hpc htd (fun j hj => (onn_ond (g := τ2 21) hdy len hl j hj).2) hw.2.2.2.2.2 h8 (by rw [l3 0 (by decide)]; exact h0) (by rw [l3 2 (by decide)]; exact r1) (by rw [l3 3 (by decide)]; exact r2) (fun j hj => by rw [l3 6 (by decide)]; exact (r5 j hj).1) (fun j hj => by rw [l2.2.2.2.2.1 j]; exact (onn_ond hdy len hl j hj).1) l2.2.2.2.2.2 c 0 σk τ3 0 (by omega) FU FU (by unfold FU; omega) (by unfold FU; omega) hR (fun x _ _ => rfl)
  refine ⟨w, σ', τ', ?_, ?_, a3.ei hk hpc htm, (l3.other k).tr a4, a5.trans l2.t24⟩
  · unfold f_X5_reminds
    rw [l1, Option.bind_some, open_told l2 (sta_le _ _ _ _), if_pos hs]
    have a1 : f_X5_reminds_15 FU τ3 (nI k) 0 (nI (dif (opd c bf K sl len) (sgn K sl len))) 0 = some (τ', w, z) := a1
    rw [a1]
    rfl
  · unfold f_X0_remind
    have a2 : f_X0_remind_4 FU σk (nI (td + 1)) 0 0 = some (σ', w, z') := a2
    rw [a2]
    rfl
set_option maxHeartbeats 1000000 in
theorem meet_both {td n k : Nat} {σk τ : SS} (h : EI td σk τ k) (hk : k < n) (hn : n ≤ 6) (h1 : τ 1 0 = nI n) (h0 : τ 0 0 = nI (td + 1)) (htd : td < 2 ^ 30) :
    ∃ (w : Int32) (σ' τ' : SS), f_X0_meetDay σk (nI (td + 1)) = some (w, σ') ∧ EI (td + 1) σ' τ' k ∧ Other τ τ' k ∧ τ' 24 = τ 24 ∧ ∀ fu v, f_X5_passes_14 (fu + 1) τ v (nI k) = f_X5_passes_14 fu τ' (v + w) (nI (k + 1)) := by
  obtain ⟨c, len, pc, tm, bf, pr, K, sl, dy, pe, se, k6, hpc, htm, hse, hw, hr, hc⟩ := id h
  have h8 := hw.1
  have hik : inb (nI k) 6 := inb9 k6 (by decide)
  have hi50 : inb (nI (50 * k)) 300 := inb9 (by omega) (by decide)
  have hclk : (nI k).toNatClampNeg = k := cl9 (by omega)
  have hcl50 : (nI (50 * k)).toNatClampNeg = 50 * k := cl9 (by omega)
  have n1 : ¬ (1 : Int32) = 0 := by decide
  have hst := sta_le c K sl len
  obtain ⟨τ2, i1, i2, i3⟩ := isin k6 hse hw hr (Keep.rf) (v := 1) (by decide)
  have i1 : f_X5_isIn τ (nI k) 1 = some (if sta c K sl len = 1 then 1 else 0, τ2) := i1
  have hle : ¬ nI n ≤ nI k := nI_ge hk (by omega)
  by_cases hs : sta c K sl len = 1
  · rw [if_pos hs] at i1
    have hlen := sta_pos hs
    have e11 : σk 11 0 = 1 := by rw [hc.2.2.2.2.2.2.1, hs]; rfl
    have e14 := hc.2.2.2.2.2.2.2.2.2.2.2 hlen
    have e13 := hc.2.2.1
    -- the reminders, whatever the term
    have rem : ∃ (w : Int32) (σ' τ' : SS), f_X0_remind σk (nI (td + 1)) = some (w, σ') ∧ EI (td + 1) σ' τ' k ∧ Other τ τ' k ∧ τ' 24 = τ 24 ∧ ∀ fu v, (if inb (nI k) 6 then (if ((τ2 3) (nI k).toNatClampNeg) ≤ 0 then (f_X5_passes_14 fu τ2 (v + (0 : Int32)) (nI k + (1 : Int32))) else ((f_X5_reminds τ2 (nI k)).bind fun z3 => (f_X5_passes_14 fu z3.2 (v + z3.1) (nI k + (1 : Int32))))) else none) = f_X5_passes_14 fu τ' (v + w) (nI (k + 1)) := by
      by_cases hp : pc = 0
      · subst hp
        obtain ⟨z, hz⟩ := remind_no (nI (td + 1)) h8 hc.1 hc.2.1 c 0 0 (by omega) FU (by unfold FU; omega)
        have hz : f_X0_remind_4 FU σk (nI (td + 1)) 0 0 = some (σk, 0, z) := hz
        refine ⟨0, σk, τ2, ?_, (h.keep i2).mono (by omega), i2.other k, i3, fun fu v => ?_⟩
        · unfold f_X0_remind
          rw [hz]
          rfl
        · rw [if_pos hik]
          simp only [hclk, i2 3 (by decide), hr.2.1]
          rw [if_pos (show nI 0 ≤ 0 by decide), s1]
      · obtain ⟨w, σ', τ', a1, a2, a3, a4, a5⟩ := remind_both k6 (by omega) hpc htd hse hw hr hc h0 i2 hs htm
        refine ⟨w, σ', τ', a2, a3, a4, a5.trans i3, fun fu v => ?_⟩
        rw [if_pos hik]
        simp only [hclk, i2 3 (by decide), hr.2.1]
        rw [if_neg (nI_nle (by omega) (by omega)), a1, Option.bind_some, s1]
    obtain ⟨w, σ', τ', m1, m2, m3, m4, m5⟩ := rem
    by_cases ht : tm = 0
    · refine ⟨w, σ', τ', ?_, m2, m3, m4, fun fu v => ?_⟩
      · unfold f_X0_meetDay
        rw [e11, if_pos rfl, e13, ht, if_pos (show nI 0 ≤ 0 by decide), m1]
        rfl
      · rw [f_X5_passes_14, h1, if_neg hle, i1, Option.bind_some, if_neg n1, ← m5 fu v, if_pos hik, if_pos hik]
        simp only [hclk, i2 4 (by decide), hr.2.2.1]
        rw [ht, if_pos (show nI 0 ≤ 0 by decide)]
    · have hm : ¬ nI tm ≤ 0 := nI_nle (by omega) (by omega)
      by_cases hx : nI (td + 1) = nI (dy 0) + nI tm
      · obtain ⟨τ', q1, q2, q3, q4⟩ := close_both (kd := 5) h0 k6 hpc htm hse (hw.mono (show td ≤ td + 1 by omega)) hr hc i2 hs (by omega) (-1) (-1)
        have q1 : f_X5_closes τ2 (nI k) 5 (-1) (-1) = some ((f_X0_finish σk (nI 5) (nI 5) (-1) (-1) (nI (td + 1))).1, τ') := q1
        refine ⟨0, (f_X0_finish σk (nI 5) (nI 5) (-1) (-1) (nI (td + 1))).2, τ', ?_, q2, q3, q4.trans i3, fun fu v => ?_⟩
        · unfold f_X0_meetDay
          rw [e11, if_pos rfl, e13, if_neg hm, e14, if_pos hx]
          rfl
        · rw [f_X5_passes_14, h1, if_neg hle, i1, Option.bind_some, if_neg n1, if_pos hik, ix50']
          simp only [hclk, i2 4 (by decide), hr.2.2.1]
          rw [if_neg hm, if_pos hi50, if_pos hik]
          simp only [hcl50, i2 0 (by decide), i2 11 (by decide), h0, show τ 11 (50 * k) = nI (dy 0) from (hr.2.2.2.2.2 0 hlen).2.2.2]
          rw [if_pos hx, q1, Option.bind_some, s1]
      · refine ⟨w, σ', τ', ?_, m2, m3, m4, fun fu v => ?_⟩
        · unfold f_X0_meetDay
          rw [e11, if_pos rfl, e13, if_neg hm, e14, if_neg hx, m1]
          rfl
        · rw [f_X5_passes_14, h1, if_neg hle, i1, Option.bind_some, if_neg n1, ← m5 fu v, if_pos hik, ix50', if_pos hik]
          simp only [hclk, i2 4 (by decide), hr.2.2.1]
          rw [if_neg hm, if_pos hi50, if_pos hik]
          simp only [hcl50, i2 0 (by decide), i2 11 (by decide), h0, show τ 11 (50 * k) = nI (dy 0) from (hr.2.2.2.2.2 0 hlen).2.2.2]
          rw [if_neg hx]
  · rw [if_neg hs] at i1
    refine ⟨0, σk, τ2, ?_, (h.keep i2).mono (by omega), i2.other k, i3, fun fu v => ?_⟩
    · unfold f_X0_meetDay
      rw [hc.2.2.2.2.2.2.1, if_neg (show ¬ nI (sta c K sl len) = 1 from fun e => hs ((nI_eq (b := 1) (by omega) (by decide)).mp e))]
    · rw [f_X5_passes_14, h1, if_neg hle, i1, Option.bind_some, if_pos rfl, s1, Int32.add_zero]
end
