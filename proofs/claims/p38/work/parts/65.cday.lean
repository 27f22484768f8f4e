/-! An envelope of the class meets a day; the day of its next reminder -/
section
theorem CE.mono {td td2 c len pc tm : Nat} {σ : SS} {bf pr K sl dy : Nat → Nat} {pe se : Nat → Int32} (h : CE td σ c len pc tm bf pr K sl dy pe se) (h2 : td ≤ td2) : CE td2 σ c len pc tm bf pr K sl dy pe se :=
  ⟨h.1, h.2.1, h.2.2.1, h.2.2.2.1.mono h2, h.2.2.2.2⟩
/-- a slot can be reminded -/
def can (pc O : Nat) (RM : Nat → Nat) (j : Nat) : Prop := 0 < pc ∧ O.testBit j = true ∧ RM j < 5
def nx (td pc : Nat) (ON : Nat → Nat) (j : Nat) : Nat := td + (pc - (td - ON j) % pc)
theorem mod_next {x pc : Nat} (hp : 0 < pc) : ((x + 1) % pc = 0 ∧ x % pc + 1 = pc) ∨ ((x + 1) % pc = x % pc + 1 ∧ x % pc + 1 < pc) := by
  have h1 := Nat.div_add_mod x pc
  have h2 := Nat.mod_lt x hp
  by_cases h : x % pc + 1 = pc
  · refine Or.inl ⟨?_, h⟩
    have e : x + 1 = pc * (x / pc + 1) := by rw [Nat.mul_add, Nat.mul_one]; omega
    rw [e, Nat.mul_mod_right]
  · refine Or.inr ⟨?_, by omega⟩
    have e : x + 1 = pc * (x / pc) + (x % pc + 1) := by omega
    rw [e, Nat.mul_add_mod, Nat.mod_eq_of_lt (by omega)]
theorem nx_due {td pc : Nat} {ON : Nat → Nat} {j : Nat} (hp : 0 < pc) (ho : ON j ≤ td) : (td + 1 - ON j) % pc = 0 ↔ nx td pc ON j = td + 1 := by
  unfold nx
  have e : td + 1 - ON j = (td - ON j) + 1 := by omega
  rw [e]
  have h2 := Nat.mod_lt (td - ON j) hp
  rcases mod_next (x := td - ON j) hp with ⟨h, h1⟩ | ⟨h, h1⟩
  · rw [h]; constructor
    · intro _; omega
    · intro _; rfl
  · rw [h]; constructor
    · intro h3; omega
    · intro h3; omega
theorem nx_step {td pc : Nat} {ON : Nat → Nat} {j : Nat} (hp : 0 < pc) (ho : ON j ≤ td) (hn : nx td pc ON j ≠ td + 1) : nx (td + 1) pc ON j = nx td pc ON j := by
  have h0 := nx_due (td := td) hp ho
  unfold nx at *
  have e : td + 1 - ON j = (td - ON j) + 1 := by omega
  rw [e] at h0
  rw [e]
  have h2 := Nat.mod_lt (td - ON j) hp
  rcases mod_next (x := td - ON j) hp with ⟨h, h1⟩ | ⟨h, h1⟩
  · exact absurd (h0.mp h) hn
  · rw [h]; omega
theorem nx_gt {td pc : Nat} {ON : Nat → Nat} {j : Nat} (hp : 0 < pc) : td < nx td pc ON j ∧ nx td pc ON j ≤ td + pc := by
  unfold nx
  have h2 := Nat.mod_lt (td - ON j) hp
  omega
def NXT (td c pc O : Nat) (ON RM : Nat → Nat) (v : Int32) : Prop :=
  (v = -1 ∧ ∀ j, j < c → ¬ can pc O RM j) ∨ ∃ N, v = nI N ∧ (∃ j, j < c ∧ can pc O RM j ∧ nx td pc ON j = N) ∧ ∀ j, j < c → can pc O RM j → N ≤ nx td pc ON j
theorem NXT.step {td c pc O : Nat} {ON RM : Nat → Nat} {v : Int32} (h : NXT td c pc O ON RM v) (ho : ∀ j, O.testBit j = true → ON j ≤ td) (hn : ∀ j, j < c → can pc O RM j → nx td pc ON j ≠ td + 1) : NXT (td + 1) c pc O ON RM v := by
  rcases h with h | ⟨N, hv, ⟨j, hj, hc, he⟩, hm⟩
  · exact Or.inl h
  · refine Or.inr ⟨N, hv, ⟨j, hj, hc, ?_⟩, fun i hi hci => ?_⟩
    · rw [nx_step hc.1 (ho j hc.2.1) (hn j hj hc)]; exact he
    · rw [nx_step hci.1 (ho i hci.2.1) (hn i hi hci)]; exact hm i hi hci
theorem nI_m1 {N : Nat} (h : N < 2 ^ 31) : ¬ nI N = -1 := by
  intro e
  have h1 : (nI N).toInt = N := by show (Int32.ofNat N).toInt = N; exact Int32.toInt_ofNat_of_lt (by omega)
  rw [e] at h1
  have h2 : (-1 : Int32).toInt = -1 := by decide
  omega
/-- the loop of nextReminder -/
theorem behind_loop {td c pc O : Nat} {ON RM : Nat → Nat} {σ : SS} (hp0 : 0 < pc) (hp : pc ≤ 30) (hD : td < 2 ^ 30) (hc8 : c ≤ 8) (hon : ∀ j, O.testBit j = true → ON j ≤ td ∧ σ 3 j = nI (ON j)) (hrm : ∀ j, RM j ≤ 5) (h4 : ∀ j, j < 8 → σ 4 j = nI (RM j)) (h10 : σ 10 0 = nI c) (h12 : σ 12 0 = nI pc) (h16 : σ 16 0 = nI O) :
    ∀ (m i : Nat) (v : Int32), i + m = c → ∀ fv, m < fv → ((v = -1 ∧ ∀ j, j < i → ¬ can pc O RM j) ∨ ∃ N, v = nI N ∧ N ≤ td + 30 ∧ (∃ j, j < i ∧ can pc O RM j ∧ nx td pc ON j = N) ∧ ∀ j, j < i → can pc O RM j → N ≤ nx td pc ON j) →
      ∃ (w z : Int32), f_X0_reminderBehind_4 fv σ (nI td) v (nI i) = some (w, z) ∧ NXT td c pc O ON RM w := by
  intro m
  induction m with
  | zero =>
    intro i v hi fv hfv hv
    obtain ⟨fv, rfl⟩ : ∃ g, fv = g + 1 := ⟨fv - 1, by omega⟩
    obtain rfl : i = c := by omega
    refine ⟨v, nI i, by rw [f_X0_reminderBehind_4, h10, if_pos (nI_le (Nat.le_refl _) (by omega))], ?_⟩
    rcases hv with h | ⟨N, h1, -, h2⟩
    · exact Or.inl h
    · exact Or.inr ⟨N, h1, h2⟩
  | succ m ih =>
    intro i v hi fv hfv hv
    obtain ⟨fv, rfl⟩ : ∃ g, fv = g + 1 := ⟨fv - 1, by omega⟩
    have hic : i < c := by omega
    have ec := canR (show i < 8 by omega) h12 hp0 hp h16 (h4 i (by omega)) (hrm i)
    rw [f_X0_reminderBehind_4, h10, if_neg (nI_ge hic (by omega)), s1]
    by_cases hc : can pc O RM i
    · have e1 : f_X0_canRemind σ (nI i) = 1 := by rw [ec, if_pos ⟨hc.2.1, hc.2.2⟩]
      obtain ⟨o1, o3⟩ := hon i hc.2.1
      have hg := nx_gt (td := td) (ON := ON) (j := i) hp0
      rw [e1, if_neg (show ¬ (1 : Int32) = 0 by decide), daysP (show i < 8 by omega) h12 hp0 hp o3 o1 (by omega), Option.bind_some, nI_add, mn_le]
      have hnx : td + (pc - (td - ON i) % pc) = nx td pc ON i := rfl
      rw [hnx]
      rcases hv with ⟨hv, hno⟩ | ⟨N, hv, hN, ⟨j, hj, hcj, he⟩, hm⟩
      · rw [if_pos hv]
        refine ih (i + 1) _ (by omega) fv (by omega) (Or.inr ⟨nx td pc ON i, rfl, by omega, ⟨i, by omega, hc, rfl⟩, fun j hj hcj => ?_⟩)
        by_cases e : j = i
        · subst e; exact Nat.le_refl _
        · exact absurd hcj (hno j (by omega))
      · have hne : ¬ v = -1 := by rw [hv]; exact nI_m1 (by omega)
        rw [if_neg hne, hv]
        by_cases hle : N ≤ nx td pc ON i
        · rw [if_pos (nI_le hle (by omega))]
          refine ih (i + 1) _ (by omega) fv (by omega) (Or.inr ⟨N, rfl, hN, ⟨j, by omega, hcj, he⟩, fun q hq hcq => ?_⟩)
          by_cases e : q = i
          · subst e; exact hle
          · exact hm q (by omega) hcq
        · rw [if_neg (nI_ge (show nx td pc ON i < N by omega) (by omega))]
          refine ih (i + 1) _ (by omega) fv (by omega) (Or.inr ⟨nx td pc ON i, rfl, by omega, ⟨i, by omega, hc, rfl⟩, fun q hq hcq => ?_⟩)
          by_cases e : q = i
          · subst e; exact Nat.le_refl _
          · have := hm q (by omega) hcq; omega
    · have e0 : f_X0_canRemind σ (nI i) = 0 := by rw [ec, if_neg (fun h => hc ⟨hp0, h.1, h.2⟩)]
      rw [e0, if_pos rfl]
      refine ih (i + 1) v (by omega) fv (by omega) ?_
      rcases hv with ⟨hv, hno⟩ | ⟨N, hv, hN, ⟨j, hj, hcj, he⟩, hm⟩
      · refine Or.inl ⟨hv, fun j hj hcj => ?_⟩
        by_cases e : j = i
        · subst e; exact hc hcj
        · exact hno j (by omega) hcj
      · refine Or.inr ⟨N, hv, hN, ⟨j, by omega, hcj, he⟩, fun q hq hcq => ?_⟩
        by_cases e : q = i
        · subst e; exact absurd hcq hc
        · exact hm q (by omega) hcq
/-- the open slots of an envelope, by its history -/
def opn (c : Nat) (bf K sl : Nat → Nat) (len : Nat) : Nat := if sta c K sl len = 1 then dif (opd c bf K sl len) (sgn K sl len) else 0
theorem CE.on {td c len pc tm : Nat} {σ : SS} {bf pr K sl dy : Nat → Nat} {pe se : Nat → Int32} (h : CE td σ c len pc tm bf pr K sl dy pe se) (j : Nat) (hj : (opn c bf K sl len).testBit j = true) : ond c bf K sl dy len j ≤ td ∧ σ 3 j = nI (ond c bf K sl dy len j) := by
  unfold opn at hj
  have hjo : (opd c bf K sl len).testBit j = true := by
    by_cases hs : sta c K sl len = 1
    · rw [if_pos hs, dif_bit] at hj
      cases h : (opd c bf K sl len).testBit j with
      | true => rfl
      | false => rw [h] at hj; cases hj
    · rw [if_neg hs, Nat.zero_testBit] at hj
      cases hj
  exact ⟨(onn_ond (g := fun _ => 0) h.2.2.2.1.dle len (Nat.le_refl _) j hjo).2, h.2.2.2.2.2.2.2.2.2.2.2.2.2.2.1 j hjo⟩
theorem next_ok {td c len pc tm : Nat} {σ : SS} {bf pr K sl dy : Nat → Nat} {pe se : Nat → Int32} (htd : td < 2 ^ 30) (h : CE td σ c len pc tm bf pr K sl dy pe se) :
    ∃ v, f_X0_reminderBehind σ (nI td) = some v ∧ NXT td c pc (opn c bf K sl len) (fun j => ond c bf K sl dy len j) (fun j => rmd K sl len j) v := by
  obtain ⟨hpc, htm, hH, hw, hc⟩ := id h
  have h8 := hw.1
  by_cases hp : pc = 0
  · subst hp
    obtain ⟨z, hz⟩ := behind_no (nI td) hw.1 hc.1 hc.2.1 c 0 (-1) (by omega) FU (by unfold FU; omega)
    have hz : f_X0_reminderBehind_4 FU σ (nI td) (-1) 0 = some (-1, z) := hz
    refine ⟨-1, ?_, Or.inl ⟨rfl, fun j hj hcan => absurd hcan.1 (by omega)⟩⟩
    unfold f_X0_reminderBehind
    rw [hz]
    rfl
  · obtain ⟨w, z, hz, hn⟩ := behind_loop (σ := σ) (O := opn c bf K sl len) (ON := fun j => ond c bf K sl dy len j) (RM := fun j => rmd K sl len j) (show 0 < pc by omega) hpc htd hw.1 (fun j hj => h.on j hj) hw.2.2.2.2.2 hc.2.2.2.2.2.2.2.2.2.1 hc.1 hc.2.1 hc.2.2.2.2.2.2.2.2.1 c 0 (-1) (by omega) FU (by unfold FU; omega) (Or.inl ⟨rfl, fun j hj => absurd hj (by omega)⟩)
    have hz : f_X0_reminderBehind_4 FU σ (nI td) (-1) 0 = some (w, z) := hz
    refine ⟨w, ?_, hn⟩
    unfold f_X0_reminderBehind
    rw [hz]
    rfl
/-- an envelope between two of its reminders on one day -/
def RJ (D c pc tm SG OP : Nat) (ON RM bf pr : Nat → Nat) (i L : Nat) (σ : SS) : Prop :=
  ∃ (K sl dy : Nat → Nat) (pe se : Nat → Int32), CE D σ c L pc tm bf pr K sl dy pe se ∧ sta c K sl L = 1 ∧ sgn K sl L = SG ∧ opd c bf K sl L = OP ∧ (∀ j, ond c bf K sl dy L j = ON j) ∧ ∀ j, i ≤ j → rmd K sl L j = RM j
theorem RJ.next {D c pc tm SG OP i L : Nat} {ON RM bf pr : Nat → Nat} {σ : SS} (h : RJ D c pc tm SG OP ON RM bf pr i L σ) : RJ D c pc tm SG OP ON RM bf pr (i + 1) L σ := by
  obtain ⟨K, sl, dy, pe, se, h1, h2, h3, h4, h5, h6⟩ := h
  exact ⟨K, sl, dy, pe, se, h1, h2, h3, h4, h5, fun j hj => h6 j (by omega)⟩
set_option maxHeartbeats 1000000 in
theorem RJ.add {D c pc tm SG OP i len : Nat} {ON RM bf pr : Nat → Nat} {σ : SS} (h : RJ D c pc tm SG OP ON RM bf pr i len σ) (hi : i < c) (hb : (dif OP SG).testBit i = true) (hr5 : RM i < 5) :
    σ 9 0 = nI len ∧ len < 49 ∧ RJ D c pc tm SG OP ON RM bf pr (i + 1) (len + 1) (AD (va_up σ 4 (upd (σ 4) i (nI (RM i + 1)))) len (nI 6) (nI (pr i)) (nI i) (nI D)) := by
  obtain ⟨K, sl, dy, pe, se, ⟨hpc, htm, hH, hw, hc⟩, hs, hSG, hOP, hON, hRM⟩ := h
  have h8 := hw.1
  have hl := Nat.le_refl len
  have hlen := sta_pos hs
  have hc0 : 0 < c := (hw.2.2.2.2.1 hlen).1
  have hroom := hw.room hc0 (Or.inr hs)
  have hK0 : K 0 = 0 := ((hw.2.2.2.1 0 hlen).2.2.1).mp rfl
  obtain ⟨c10, c12, c13, c9, cr, ce, c11, c15, c16, c4, c3, c14⟩ := hc
  rw [dif_bit] at hb
  have hbs : (sgn K sl len).testBit i = false := by
    rw [hSG]
    cases h : SG.testBit i with
    | false => rfl
    | true => rw [h] at hb; simp at hb
  have hbo : (opd c bf K sl len).testBit i = true := by
    rw [hOP]
    cases h : OP.testBit i with
    | true => rfl
    | false => rw [h] at hb; cases hb
  have hbd : dif (bf i) (sgn K sl len) = 0 := by
    rw [opd_rdy hK0 len hlen, rdy_bit] at hbo
    by_cases h : dif (bf i) (sgn K sl len) = 0
    · exact h
    · simp [h] at hbo
  have hri : rmd K sl len i = RM i := hRM i (Nat.le_refl _)
  have cg : ∀ q, q < len → uN K len 6 q = K q ∧ uN sl len i q = sl q := fun q hq => ⟨uN_lt hq, uN_lt hq⟩
  have hw' : Wf D c (len + 1) bf pr (uN K len 6) (uN sl len i) (uN dy len D) := hw.add hc0 (by omega) ⟨fun e => by omega, fun e => by omega⟩ (fun _ => hs) (fun _ => ⟨hi, hbs⟩) (fun h => by omega) (Nat.le_refl _) (fun _ => by rw [hri]; exact hr5)
  have hH' : HX c (len + 1) bf pr (uN K len 6) (uN sl len i) (uN dy len D) (upd pe len (nI (pr i))) (upd se len (nI i)) := hH.add hw.dle (fun _ => ⟨rfl, hi, hbs, hbd, pr i, (hw.2.2.1 i hi).2, rfl, fun e => by omega, fun e => absurd rfl e⟩) (fun h => by omega)
  have eS : sgn (uN K len 6) (uN sl len i) (len + 1) = sgn K sl len := by rw [sgn, uN_eq, if_neg (by omega), sgn_cong cg _ hl]
  have eT : sta c (uN K len 6) (uN sl len i) (len + 1) = 1 := by rw [sta, uN_eq, if_neg (by omega), if_neg (by omega), if_pos rfl, sta_cong cg _ hl, hs]
  have eO : opd c bf (uN K len 6) (uN sl len i) (len + 1) = opd c bf K sl len := by rw [opd, uN_eq, if_neg (by omega), opd_cong cg _ hl]
  have eN : ∀ j, ond c bf (uN K len 6) (uN sl len i) (uN dy len D) (len + 1) j = ond c bf K sl dy len j := fun j => by rw [ond, uN_eq, if_neg (by omega), ond_cong cg (fun q hq => uN_lt hq) _ hl]
  have eR : ∀ j, rmd (uN K len 6) (uN sl len i) (len + 1) j = if j = i then rmd K sl len j + 1 else rmd K sl len j := fun j => by
    rw [rmd, uN_eq, uN_eq, rmd_cong cg _ hl]
    by_cases e : j = i
    · rw [if_pos e, if_pos ⟨rfl, e⟩]
    · rw [if_neg e, if_neg (fun q => e q.2)]
  have e9 : (va_up σ 4 (upd (σ 4) i (nI (RM i + 1))) : SS) 9 0 = nI len := by rw [up_ne (by decide)]; exact c9
  obtain ⟨a0, a5, a6, a7, a8, a9⟩ := AD_spec e9 (show len < 49 by omega) (nI 6) (nI (pr i)) (nI i) (nI D)
  rw [up_ne (by decide)] at a5 a6 a7 a8
  refine ⟨c9, by omega, uN K len 6, uN sl len i, uN dy len D, upd pe len (nI (pr i)), upd se len (nI i), ⟨hpc, htm, hH', hw', ?_⟩, eT, eS.trans hSG, eO.trans hOP, fun j => (eN j).trans (hON j), fun j hj => by rw [eR, if_neg (by omega)]; exact hRM j (by omega)⟩
  have g : ∀ x, x < 5 ∨ 9 < x → x ≠ 4 → AD (va_up σ 4 (upd (σ 4) i (nI (RM i + 1)))) len (nI 6) (nI (pr i)) (nI i) (nI D) x = σ x := fun x h1 h2 => by rw [a0 x h1, up_ne h2]
  refine ⟨?_, ?_, ?_, a9, fun j hj => ?_, cls_ev 6 i D (nI (pr i)) (nI i) a5 a6 a7 a8 ce, ?_, ?_, ?_, fun j hj => ?_, fun j hj => ?_, fun _ => ?_⟩
  · rw [g 10 (by decide) (by decide)]; exact c10
  · rw [g 12 (by decide) (by decide)]; exact c12
  · rw [g 13 (by decide) (by decide)]; exact c13
  · rw [g 0 (by decide) (by decide), g 1 (by decide) (by decide), g 2 (by decide) (by decide)]; exact cr j hj
  · rw [g 11 (by decide) (by decide), c11, hs, eT]
  · rw [g 15 (by decide) (by decide), c15, eS]
  · rw [g 16 (by decide) (by decide), c16, hs, eT, eS, eO]
  · rw [a0 4 (by decide), up_eq, eR]
    by_cases e : j = i
    · subst e
      rw [upd_eq, if_pos rfl, hri]
    · rw [upd_ne e, if_neg e, c4 j hj]
  · rw [eO] at hj
    rw [g 3 (by decide) (by decide), eN, c3 j hj]
  · rw [g 14 (by decide) (by decide), c14 hlen, uN_lt hlen]
set_option maxHeartbeats 1000000 in
theorem remind_loop {td c pc tm SG OP : Nat} {ON RM bf pr : Nat → Nat} (hp0 : 0 < pc) (hp30 : pc ≤ 30) (hD : td < 2 ^ 30) (hon : ∀ j, OP.testBit j = true → ON j ≤ td) (hrm : ∀ j, RM j ≤ 5) (hc8 : c ≤ 8) :
    ∀ (m i L v : Nat) (σ : SS), i + m = c → ∀ fv, m < fv → RJ (td + 1) c pc tm SG OP ON RM bf pr i L σ →
      ∃ (σ' : SS) (k : Nat) (z : Int32), f_X0_remind_4 fv σ (nI (td + 1)) (nI v) (nI i) = some (σ', nI (v + k), z) ∧ RJ (td + 1) c pc tm SG OP ON RM bf pr c (L + k) σ' ∧ k ≤ m ∧ (k = 0 → σ' = σ) ∧ (k = 0 ↔ ∀ j, i ≤ j → j < c → can pc (dif OP SG) RM j → nx td pc ON j ≠ td + 1) := by
  intro m
  induction m with
  | zero =>
    intro i L v σ hi fv hfv hR
    obtain ⟨fv, rfl⟩ : ∃ g, fv = g + 1 := ⟨fv - 1, by omega⟩
    obtain rfl : i = c := by omega
    obtain ⟨K, sl, dy, pe, se, hE, -⟩ := id hR
    exact ⟨σ, 0, nI i, by rw [f_X0_remind_4, hE.2.2.2.2.1, if_pos (nI_le (Nat.le_refl _) (by omega))]; rfl, hR, Nat.le_refl _, fun _ => rfl, fun _ j h1 h2 => by omega, fun _ => rfl⟩
  | succ m ih =>
    intro i L v σ hi fv hfv hR
    obtain ⟨fv, rfl⟩ : ∃ g, fv = g + 1 := ⟨fv - 1, by omega⟩
    have hic : i < c := by omega
    obtain ⟨K, sl, dy, pe, se, hE, hs, hSG, hOP, hON, hRM⟩ := id hR
    have hc := hE.2.2.2.2
    have h16 : σ 16 0 = nI (dif OP SG) := by rw [hc.2.2.2.2.2.2.2.2.1, hs, if_pos rfl, hSG, hOP]
    have h4 : σ 4 i = nI (RM i) := by rw [hc.2.2.2.2.2.2.2.2.2.1 i (by omega), hRM i (Nat.le_refl _)]
    have ec := canR (show i < 8 by omega) hc.2.1 hp0 hp30 h16 h4 (hrm i)
    have skip : ∀ x, x = f_X0_remind_4 fv σ (nI (td + 1)) (nI v) (nI (i + 1)) → (can pc (dif OP SG) RM i → nx td pc ON i ≠ td + 1) →
        ∃ (σ' : SS) (k : Nat) (z : Int32), x = some (σ', nI (v + k), z) ∧ RJ (td + 1) c pc tm SG OP ON RM bf pr c (L + k) σ' ∧ k ≤ m + 1 ∧ (k = 0 → σ' = σ) ∧ (k = 0 ↔ ∀ j, i ≤ j → j < c → can pc (dif OP SG) RM j → nx td pc ON j ≠ td + 1) := by
      intro x hx hno
      obtain ⟨σ', k, z, a1, a2, a3, a4, a5⟩ := ih (i + 1) L v σ (by omega) fv (by omega) hR.next
      refine ⟨σ', k, z, hx.trans a1, a2, by omega, a4, ?_⟩
      rw [a5]
      constructor
      · intro h j h1 h2
        by_cases e : j = i
        · subst e; exact hno
        · exact h j (by omega) h2
      · intro h j h1 h2
        exact h j (by omega) h2
    rw [f_X0_remind_4, hc.1, if_neg (nI_ge hic (by omega)), s1]
    by_cases hcan : can pc (dif OP SG) RM i
    · obtain ⟨-, hb, h5⟩ := id hcan
      have hbo : OP.testBit i = true := by
        rw [dif_bit] at hb
        cases h : OP.testBit i with
        | true => rfl
        | false => rw [h] at hb; cases hb
      have hle := hon i hbo
      have e1 : f_X0_canRemind σ (nI i) = 1 := by rw [ec, if_pos ⟨hb, h5⟩]
      have h3 : σ 3 i = nI (ON i) := by rw [hc.2.2.2.2.2.2.2.2.2.2.1 i (by rw [hOP]; exact hbo), hON i]
      have hm := Nat.mod_lt (td + 1 - ON i) hp0
      rw [e1, if_neg (show ¬ (1 : Int32) = 0 by decide), daysP (show i < 8 by omega) hc.2.1 hp0 hp30 h3 (show ON i ≤ td + 1 by omega) (by omega), Option.bind_some, hc.2.1]
      have hdue := nx_due (td := td) (ON := ON) (j := i) hp0 hle
      by_cases h0 : (td + 1 - ON i) % pc = 0
      · obtain ⟨n4, n2, n5⟩ := hR.add hic hb h5
        obtain ⟨σ', k, z, a1, a2, a3, a4, a5⟩ := ih (i + 1) (L + 1) (v + 1) _ (by omega) fv (by omega) n5
        refine ⟨σ', k + 1, z, ?_, by rw [show L + (k + 1) = L + 1 + k by omega]; exact a2, by omega, fun h => by omega, fun h => by omega, fun h => absurd (hdue.mp h0) (h i (Nat.le_refl _) hic hcan)⟩
        rw [if_pos (by rw [h0]; rfl)]
        simp only [lt, rs9 (show i < 8 by omega) (show 8 < 2 ^ 31 by decide), rg9 (show i < 8 by omega) (show 8 < 2 ^ 31 by decide), h4, s1, up_ne (show (0 : Nat) ≠ 4 by decide), (hc.2.2.2.2.1 i hic).1]
        rw [show v + (k + 1) = v + 1 + k by omega]
        exact a1
      · refine skip _ (by rw [if_neg (fun e => by have := (nI_eq (by omega) (by omega)).mp e; omega)]) (fun _ e => h0 (hdue.mpr e))
    · have e0 : f_X0_canRemind σ (nI i) = 0 := by rw [ec, if_neg (fun h => hcan ⟨hp0, h.1, h.2⟩)]
      exact skip _ (by rw [e0, if_pos rfl]) (fun h => absurd h hcan)
/-- what a day does to an envelope -/
theorem meet_ok {td c len pc tm : Nat} {σ : SS} {bf pr K sl dy : Nat → Nat} {pe se : Nat → Int32} (h : CE td σ c len pc tm bf pr K sl dy pe se) (htd : td < 2 ^ 30) :
    ∃ (w : Nat) (σ' : SS), f_X0_meetDay σ (nI (td + 1)) = some (nI w, σ') ∧ w ≤ 8 ∧
      ((w = 0 ∧ σ' = σ ∧ ∀ j, j < c → can pc (opn c bf K sl len) (fun j => rmd K sl len j) j → nx td pc (fun j => ond c bf K sl dy len j) j ≠ td + 1) ∨
       (∃ (len' : Nat) (K' sl' dy' : Nat → Nat) (pe' se' : Nat → Int32), len < len' ∧ CE (td + 1) σ' c len' pc tm bf pr K' sl' dy' pe' se' ∧ ((len' = len + 1 ∧ sta c K' sl' len' = 5) ∨ ∃ j, j < c ∧ can pc (opn c bf K sl len) (fun j => rmd K sl len j) j ∧ nx td pc (fun j => ond c bf K sl dy len j) j = td + 1))) := by
  obtain ⟨hpc, htm, hH, hw, hc⟩ := id h
  have h8 := hw.1
  have hl := Nat.le_refl len
  have e11 := hc.2.2.2.2.2.2.1
  have hst := sta_le c K sl len
  by_cases hs : sta c K sl len = 1
  · have hlen := sta_pos hs
    have e14 := hc.2.2.2.2.2.2.2.2.2.2.2 hlen
    have e13 := hc.2.2.1
    replace e11 : σ 11 0 = 1 := e11.trans (by rw [hs]; rfl)
    have eop : opn c bf K sl len = dif (opd c bf K sl len) (sgn K sl len) := if_pos hs
    have rem : ∃ (w : Nat) (σ' : SS), f_X0_remind σ (nI (td + 1)) = some (nI w, σ') ∧ w ≤ 8 ∧
      ((w = 0 ∧ σ' = σ ∧ ∀ j, j < c → can pc (opn c bf K sl len) (fun j => rmd K sl len j) j → nx td pc (fun j => ond c bf K sl dy len j) j ≠ td + 1) ∨
       (∃ (len' : Nat) (K' sl' dy' : Nat → Nat) (pe' se' : Nat → Int32), len < len' ∧ CE (td + 1) σ' c len' pc tm bf pr K' sl' dy' pe' se' ∧ ((len' = len + 1 ∧ sta c K' sl' len' = 5) ∨ ∃ j, j < c ∧ can pc (opn c bf K sl len) (fun j => rmd K sl len j) j ∧ nx td pc (fun j => ond c bf K sl dy len j) j = td + 1))) := by
      by_cases hp : pc = 0
      · subst hp
        obtain ⟨z, hz⟩ := remind_no (nI (td + 1)) h8 hc.1 hc.2.1 c 0 0 (by omega) FU (by unfold FU; omega)
        have hz : f_X0_remind_4 FU σ (nI (td + 1)) 0 0 = some (σ, 0, z) := hz
        refine ⟨0, σ, ?_, by omega, Or.inl ⟨rfl, rfl, fun j hj hcan => absurd hcan.1 (by omega)⟩⟩
        unfold f_X0_remind
        rw [hz]
        rfl
      · have hR : RJ (td + 1) c pc tm (sgn K sl len) (opd c bf K sl len) (fun j => ond c bf K sl dy len j) (fun j => rmd K sl len j) bf pr 0 len σ := ⟨K, sl, dy, pe, se, h.mono (by omega), hs, rfl, rfl, fun j => rfl, fun j _ => rfl⟩
        obtain ⟨σ', k, z, a1, a2, a3, a4, a5⟩ := remind_loop (show 0 < pc by omega) hpc htd (fun j hj => (onn_ond (g := fun _ => 0) hw.dle len hl j hj).2) hw.2.2.2.2.2 h8 c 0 len 0 σ (by omega) FU (by unfold FU; omega) hR
        have a1 : f_X0_remind_4 FU σ (nI (td + 1)) 0 0 = some (σ', nI (0 + k), z) := a1
        rw [Nat.zero_add] at a1
        refine ⟨k, σ', by unfold f_X0_remind; rw [a1]; rfl, by omega, ?_⟩
        rw [eop]
        by_cases hk : k = 0
        · exact Or.inl ⟨hk, a4 hk, fun j hj => a5.mp hk j (Nat.zero_le _) hj⟩
        · obtain ⟨K', sl', dy', pe', se', b1, -⟩ := a2
          refine Or.inr ⟨len + k, K', sl', dy', pe', se', by omega, b1, Or.inr ?_⟩
          apply Classical.byContradiction
          intro hno
          exact hk (a5.mpr (fun j _ hj hcan he => hno ⟨j, hj, hcan, he⟩))
    obtain ⟨w, σ', m1, m2, m3⟩ := rem
    by_cases ht : tm = 0
    · refine ⟨w, σ', ?_, m2, m3⟩
      unfold f_X0_meetDay
      rw [e11, if_pos rfl, e13, ht, if_pos (show nI 0 ≤ 0 by decide), m1]
      rfl
    · have hm : ¬ nI tm ≤ 0 := nI_nle (by omega) (by omega)
      by_cases hx : nI (td + 1) = nI (dy 0) + nI tm
      · obtain ⟨σ2, f1, f2, f3⟩ := finish_ok (kd := 5) (sv := 0) (h.mono (show td ≤ td + 1 by omega)) hs (by omega) (-1) (-1) (fun e => by omega) (fun _ => ⟨rfl, rfl⟩)
        have f1 : f_X0_finish σ 5 5 (-1) (-1) (nI (td + 1)) = (nI (c - pcn (sgn K sl len)), σ2) := f1
        refine ⟨0, σ2, ?_, by omega, Or.inr ⟨len + 1, _, _, _, _, _, by omega, f2, Or.inl ⟨rfl, ?_⟩⟩⟩
        · unfold f_X0_meetDay
          rw [e11, if_pos rfl, e13, if_neg hm, e14, if_pos hx, f1]
          rfl
        · have q := f2.2.2.2.2.2.2.2.2.2.2.1
          rw [f3] at q
          exact ((nI_eq (by omega) (by have := sta_le c (uN K len 5) (uN sl len 0) (len + 1); omega)).mp q).symm
      · refine ⟨w, σ', ?_, m2, m3⟩
        unfold f_X0_meetDay
        rw [e11, if_pos rfl, e13, if_neg hm, e14, if_neg hx, m1]
        rfl
  · refine ⟨0, σ, ?_, by omega, Or.inl ⟨rfl, rfl, fun j hj hcan => ?_⟩⟩
    · unfold f_X0_meetDay
      rw [e11, if_neg (show ¬ nI (sta c K sl len) = 1 from fun e => hs ((nI_eq (b := 1) (by omega) (by decide)).mp e))]
      rfl
    · have := hcan.2.1
      rw [opn, if_neg hs, Nat.zero_testBit] at this
      cases this
end
