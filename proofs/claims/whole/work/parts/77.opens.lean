/-! Slots that become open -/
section
theorem openN_loop {σ0 : SS} {c fr : Nat} (d : Int32) (hc : c ≤ 8) (h10 : σ0 10 0 = nI c) :
    ∀ (m i : Nat) (σ : SS), i + m = c → ∀ fu, m < fu → (∀ x, x ≠ 3 → σ x = σ0 x) → (∀ j, σ 3 j = if j < i ∧ fr.testBit j = true then d else σ0 3 j) →
      ∃ σ' z, f_X0_openNext_18 fu σ d (nI fr) (nI i) = some (σ', z) ∧ (∀ x, x ≠ 3 → σ' x = σ0 x) ∧ ∀ j, σ' 3 j = if j < c ∧ fr.testBit j = true then d else σ0 3 j := by
  intro m
  induction m with
  | zero =>
    intro i σ hi fu hfu ha hb
    obtain ⟨fu, rfl⟩ : ∃ g, fu = g + 1 := ⟨fu - 1, by omega⟩
    obtain rfl : i = c := by omega
    exact ⟨σ, nI i, by rw [f_X0_openNext_18, ha 10 (by decide), h10, if_pos (nI_le (Nat.le_refl _) (by omega))], ha, hb⟩
  | succ m ih =>
    intro i σ hi fu hfu ha hb
    obtain ⟨fu, rfl⟩ : ∃ g, fu = g + 1 := ⟨fu - 1, by omega⟩
    have hic : i < c := by omega
    rw [f_X0_openNext_18, ha 10 (by decide), h10, if_neg (nI_ge hic (by omega)), s1]
    simp only [has4' _ (show i < 31 by omega)]
    cases hf : fr.testBit i with
    | false =>
      rw [if_pos rfl]
      refine ih (i + 1) σ (by omega) fu (by omega) ha (fun j => ?_)
      rw [hb j]
      by_cases hj : j = i
      · subst hj
        rw [if_neg (fun h => by have := h.1; omega), if_neg (fun h => by rw [hf] at h; cases h.2)]
      · by_cases h1 : j < i ∧ fr.testBit j = true
        · rw [if_pos h1, if_pos ⟨by have := h1.1; omega, h1.2⟩]
        · rw [if_neg h1, if_neg (fun h => h1 ⟨by have := h.1; omega, h.2⟩)]
    | true =>
      rw [if_neg (by decide)]
      simp only [lt]
      refine ih (i + 1) _ (by omega) fu (by omega) (fun x hx => by rw [up_ne hx, ha x hx]) (fun j => ?_)
      rw [up_eq, rs9 (show i < 8 by omega) (by decide)]
      by_cases hj : j = i
      · subst hj
        rw [upd_eq, if_pos ⟨by omega, hf⟩]
      · rw [upd_ne hj, hb j]
        by_cases h1 : j < i ∧ fr.testBit j = true
        · rw [if_pos h1, if_pos ⟨by have := h1.1; omega, h1.2⟩]
        · rw [if_neg h1, if_neg (fun h => h1 ⟨by have := h.1; omega, h.2⟩)]
theorem openNext_spec {σ : SS} {c sg op : Nat} {bf : Nat → Nat} (d : Int32) (hc : c ≤ 8) (h10 : σ 10 0 = nI c) (hbf : ∀ j, j < c → bf j < 2 ^ 8) (h1 : ∀ j, j < c → σ 1 j = nI (bf j)) (h15 : σ 15 0 = nI sg) (h16 : σ 16 0 = nI op) :
    ∃ σ', f_X0_openNext σ d = some (nI (pcn (dif (dif (rdy bf sg c) sg) op)), σ') ∧ (∀ x, x ≠ 3 → x ≠ 16 → σ' x = σ x) ∧ σ' 16 0 = nI (op ||| dif (dif (rdy bf sg c) sg) op) ∧ ∀ j, σ' 3 j = if j < c ∧ (dif (dif (rdy bf sg c) sg) op).testBit j = true then d else σ 3 j := by
  obtain ⟨σ2, z, l1, l2, l3⟩ := openN_loop (σ0 := σ) (fr := dif (dif (rdy bf sg c) sg) op) d hc h10 c 0 σ (by omega) FU (by unfold FU; omega) (fun _ _ => rfl) (fun j => by rw [if_neg (fun h => by have := h.1; omega)])
  refine ⟨va_up σ2 16 (fun _ => nI (op ||| dif (dif (rdy bf sg c) sg) op)), ?_, fun x h3 h16 => by rw [up_ne h16, l2 x h3], by rw [up_eq], fun j => by rw [up_ne (by decide), l3 j]⟩
  unfold f_X0_openNext
  have l1 : f_X0_openNext_18 FU σ d (nI (dif (dif (rdy bf sg c) sg) op)) 0 = some (σ2, z) := l1
  rw [h15, next_spec sg hc h10 hbf h1, Option.bind_some, h16, i_dif, l1, Option.bind_some]
  simp only [lt, l2 16 (by decide), h16, fa_or]
  rw [bc_pcn (lt8 (dif_lt (dif_lt (rdy_lt bf sg c))) hc)]
theorem rdy_sub {bf : Nat → Nat} {a b : Nat} (h : ∀ i, a.testBit i = true → b.testBit i = true) (c j : Nat) (hj : (rdy bf a c).testBit j = true) : (rdy bf b c).testBit j = true := by
  rw [← rdy_mono h c, Nat.testBit_or, hj]
  rfl
theorem sg_rdy {td c len : Nat} {bf pr K sl dy : Nat → Nat} (hw : Wf td c len bf pr K sl dy) : ∀ i, i ≤ len → ∀ j, (sgn K sl i).testBit j = true → (rdy bf (sgn K sl i) c).testBit j = true
  | 0, _, j, h => by rw [sgn, Nat.zero_testBit] at h; cases h
  | i + 1, hi, j, h => by
    have ih := sg_rdy hw i (by omega) j
    rw [sgn] at h ⊢
    by_cases hk : K i = 1 ∨ K i = 2
    · rw [if_pos hk] at h ⊢
      have hsub : ∀ q, (sgn K sl i).testBit q = true → (sgn K sl i ||| 2 ^ sl i).testBit q = true := fun q hq => by rw [Nat.testBit_or, hq]; rfl
      rw [Nat.testBit_or, two_bit] at h
      cases hb : (sgn K sl i).testBit j with
      | true => exact rdy_sub hsub c j (ih hb)
      | false =>
        rw [hb] at h
        have hj : sl i = j := by simpa using h
        subst hj
        obtain ⟨-, -, -, -, w5, w6⟩ := hw.2.2.2.1 i (by omega)
        refine rdy_sub hsub c _ ?_
        rw [rdy_bit, decide_eq_true (w5 (by omega)).1, decide_eq_true (w6 hk)]
        rfl
    · rw [if_neg hk] at h ⊢
      exact ih h
set_option maxHeartbeats 1000000 in
theorem open_both {c len pc tm : Nat} {σ1 : SS} {bf pr K sl dy : Nat → Nat} {pe se : Nat → Int32} (hc : c ≤ 8) (hbf : ∀ j, j < c → bf j < 2 ^ 8) (hkd : K len = 0 ∨ K len = 1 ∨ K len = 2) (hsub : ∀ j, (sgn K sl (len + 1)).testBit j = true → (opd c bf K sl len).testBit j = true) (hst : sta c K sl (len + 1) = 1 ∨ sta c K sl (len + 1) = 2) (hop : opd c bf K sl (len + 1) < 2 ^ c)
    (c10 : σ1 10 0 = nI c) (c12 : σ1 12 0 = nI pc) (c13 : σ1 13 0 = nI tm) (c9 : σ1 9 0 = nI (len + 1)) (cr : ∀ j, j < c → σ1 0 j = nI (pr j) ∧ σ1 1 j = nI (bf j) ∧ σ1 2 j = nI (rl bf c j)) (ce : ∀ i, i < len + 1 → σ1 5 i = nI (K i) ∧ σ1 6 i = pe i ∧ σ1 7 i = se i ∧ σ1 8 i = nI (dy i))
    (c11 : σ1 11 0 = nI (sta c K sl (len + 1))) (c15 : σ1 15 0 = nI (sgn K sl (len + 1))) (c16 : σ1 16 0 = nI (dif (opd c bf K sl len) (sgn K sl (len + 1)))) (c4 : ∀ j, j < 8 → σ1 4 j = nI (rmd K sl (len + 1) j)) (c3 : ∀ j, (opd c bf K sl len).testBit j = true → σ1 3 j = nI (ond c bf K sl dy len j)) (c14 : σ1 14 0 = nI (dy 0)) :
    ∃ σ', f_X0_openNext σ1 (nI (dy len)) = some (nI (pcn (dif (dif (rdy bf (sgn K sl (len + 1)) c) (sgn K sl (len + 1))) (dif (opd c bf K sl len) (sgn K sl (len + 1))))), σ') ∧ ClsE σ' c (len + 1) pc tm bf pr K sl dy pe se := by
  obtain ⟨σ', e1, e2, e3, e4⟩ := openNext_spec (nI (dy len)) hc c10 hbf (fun j hj => (cr j hj).2.1) c15 c16
  have eo : opd c bf K sl (len + 1) = opd c bf K sl len ||| rdy bf (sgn K sl (len + 1)) c := by rw [opd, if_pos hkd]
  refine ⟨σ', e1, ?_, ?_, ?_, ?_, fun j hj => ?_, fun i hi => ?_, ?_, ?_, ?_, fun j hj => ?_, fun j hj => ?_, fun _ => ?_⟩
  · rw [e2 10 (by decide) (by decide)]; exact c10
  · rw [e2 12 (by decide) (by decide)]; exact c12
  · rw [e2 13 (by decide) (by decide)]; exact c13
  · rw [e2 9 (by decide) (by decide)]; exact c9
  · rw [e2 0 (by decide) (by decide), e2 1 (by decide) (by decide), e2 2 (by decide) (by decide)]; exact cr j hj
  · rw [e2 5 (by decide) (by decide), e2 6 (by decide) (by decide), e2 7 (by decide) (by decide), e2 8 (by decide) (by decide)]; exact ce i hi
  · rw [e2 11 (by decide) (by decide)]; exact c11
  · rw [e2 15 (by decide) (by decide)]; exact c15
  · rw [e3]
    congr 1
    have e5 : dif (opd c bf K sl len) (sgn K sl (len + 1)) ||| dif (dif (rdy bf (sgn K sl (len + 1)) c) (sgn K sl (len + 1))) (dif (opd c bf K sl len) (sgn K sl (len + 1))) = dif (opd c bf K sl (len + 1)) (sgn K sl (len + 1)) := by
      apply nat_ext
      intro j
      rw [eo, Nat.testBit_or, dif_bit, dif_bit, dif_bit, dif_bit, dif_bit, Nat.testBit_or]
      cases (opd c bf K sl len).testBit j <;> cases (sgn K sl (len + 1)).testBit j <;> cases (rdy bf (sgn K sl (len + 1)) c).testBit j <;> rfl
    rw [e5]
    rcases hst with h | h
    · rw [h, if_pos rfl]
    · rw [h, if_neg (by decide), sta_two (len + 1) h]
      exact dif_all.mpr hop
  · rw [e2 4 (by decide) (by decide)]; exact c4 j hj
  · rw [e4 j, dif_bit, dif_bit, dif_bit, rdy_bit]
    rw [eo, Nat.testBit_or, rdy_bit] at hj
    have hn : newly bf (sgn K sl (len + 1)) (opd c bf K sl len) c j ↔ (opd c bf K sl len).testBit j = false := by
      constructor
      · intro h; exact h.2.1
      · intro h
        rw [h] at hj
        simp at hj
        exact ⟨hj.1, h, hj.2⟩
    rw [ond]
    by_cases ho : (opd c bf K sl len).testBit j = true
    · have h1 : ¬ ((K len = 0 ∨ K len = 1 ∨ K len = 2) ∧ newly bf (sgn K sl (len + 1)) (opd c bf K sl len) c j) := fun h => by
        have := hn.mp h.2
        rw [ho] at this
        cases this
      have h2 : ¬ (j < c ∧ (decide (j < c) && decide (dif (bf j) (sgn K sl (len + 1)) = 0) && !(sgn K sl (len + 1)).testBit j && !((opd c bf K sl len).testBit j && !(sgn K sl (len + 1)).testBit j)) = true) := by
        rintro ⟨-, h⟩
        rw [ho] at h
        cases hs : (sgn K sl (len + 1)).testBit j <;> simp [hs] at h
      rw [if_neg h1, if_neg h2]
      exact c3 j ho
    · have ho : (opd c bf K sl len).testBit j = false := by simpa using ho
      have hs : (sgn K sl (len + 1)).testBit j = false := by
        cases hs : (sgn K sl (len + 1)).testBit j with
        | false => rfl
        | true => have := hsub j hs; rw [ho] at this; cases this
      have h2 := hn.mpr ho
      have h3 : j < c ∧ (decide (j < c) && decide (dif (bf j) (sgn K sl (len + 1)) = 0) && !(sgn K sl (len + 1)).testBit j && !((opd c bf K sl len).testBit j && !(sgn K sl (len + 1)).testBit j)) = true := ⟨h2.1, by simp [h2.1, h2.2.2, hs, ho]⟩
      have h4 : (K len = 0 ∨ K len = 1 ∨ K len = 2) ∧ newly bf (sgn K sl (len + 1)) (opd c bf K sl len) c j := ⟨hkd, h2⟩
      rw [if_pos h3, if_pos h4]
  · rw [e2 14 (by decide) (by decide)]; exact c14
end
/-! An envelope sent, a slot signed -/
section
theorem cls_ev {σ : SS} {len : Nat} {K dy : Nat → Nat} {pe se : Nat → Int32} (kd sv dv : Nat) (b d : Int32) {σ2 : SS} (e5 : σ2 5 = upd (σ 5) len (nI kd)) (e6 : σ2 6 = upd (σ 6) len b) (e7 : σ2 7 = upd (σ 7) len d) (e8 : σ2 8 = upd (σ 8) len (nI dv)) (ce : ∀ i, i < len → σ 5 i = nI (K i) ∧ σ 6 i = pe i ∧ σ 7 i = se i ∧ σ 8 i = nI (dy i)) :
    ∀ i, i < len + 1 → σ2 5 i = nI (uN K len kd i) ∧ σ2 6 i = upd pe len b i ∧ σ2 7 i = upd se len d i ∧ σ2 8 i = nI (uN dy len dv i) := by
  intro i hi
  rw [e5, e6, e7, e8]
  by_cases e : i = len
  · subst e
    rw [upd_eq, upd_eq, upd_eq, upd_eq, upd_eq, upd_eq, uN_eq, uN_eq]
    exact ⟨rfl, rfl, rfl, rfl⟩
  · rw [upd_ne e, upd_ne e, upd_ne e, upd_ne e, upd_ne e, upd_ne e, uN_lt (by omega), uN_lt (by omega)]
    exact ce i (by omega)
set_option maxHeartbeats 1000000 in
theorem send_both {td c pc tm k : Nat} {σk τ1 : SS} {bf pr K sl dy : Nat → Nat} {pe se : Nat → Int32} (h0 : τ1 0 0 = nI td) (hk : k < 6) (hpc : pc ≤ 30) (htm : tm ≤ 60) (hw : Wf td c 0 bf pr K sl dy) (hr : RefE τ1 k c 0 pc tm bf pr K dy pe se) (hc : ClsE σk c 0 pc tm bf pr K sl dy pe se) (hc0 : 0 < c) :
    ∃ (w : Nat) (σ' τ' : SS), ((f_X5_notes τ1 (nI k) (nI 0) (-1) (-1)).bind fun z2 => ((f_X5_looks z2 (nI k)).bind fun z3 => ((f_X5_many (f_X5_open z3)).bind fun z4 => (some (z4, z3))))) = some (nI w, τ') ∧ f_X0_start σk (nI td) = some (nI w, σ') ∧ EI td σ' τ' k ∧ Other τ1 τ' k ∧ τ' 24 = τ1 24 := by
  have h8 := hw.1
  obtain ⟨c10, c12, c13, c9, cr, ce, c11, c15, c16, c4, c3, c14⟩ := hc
  have hw' : Wf td c (0 + 1) bf pr (uN K 0 0) (uN sl 0 0) (uN dy 0 td) := hw.add hc0 (by omega) ⟨fun _ => rfl, fun _ => rfl⟩ (fun h => absurd h (by omega)) (fun h => by omega) (fun h => by omega) (Nat.le_refl _) (fun h => by omega)
  have hr' := NT_ref hr 0 td (-1) (-1)
  have hse' : ∀ i, i < 0 + 1 → (uN K 0 0 i = 1 ∨ uN K 0 0 i = 2 ∨ uN K 0 0 i = 6) → upd se 0 (-1) i = nI (uN sl 0 0 i) := by
    intro i hi h
    obtain rfl : i = 0 := by omega
    rw [uN_eq] at h
    omega
  have eS : sgn (uN K 0 0) (uN sl 0 0) (0 + 1) = 0 := by rw [sgn, uN_eq, if_neg (by omega)]; rfl
  have eT : sta c (uN K 0 0) (uN sl 0 0) (0 + 1) = 1 := by rw [sta, uN_eq, if_pos rfl]
  have eO : opd c bf (uN K 0 0) (uN sl 0 0) (0 + 1) = rdy bf 0 c := by rw [opd, uN_eq, if_pos (Or.inl rfl), eS, opd, Nat.zero_or]
  obtain ⟨τ', l1, l2, l3⟩ := look hk hse' hw' hr' Keep.rf
  rw [eT] at l2
  have h9 : va_up (va_up σk 11 (fun _ => (1 : Int32))) 14 (fun _ => nI td) 9 0 = nI 0 := by rw [up_ne (by decide), up_ne (by decide)]; exact c9
  obtain ⟨a0, a5, a6, a7, a8, a9⟩ := AD_spec h9 (show 0 < 49 by omega) (nI 0) (-1) (-1) (nI td)
  rw [up_ne (by decide), up_ne (by decide)] at a5 a6 a7 a8
  have g : ∀ x, x < 5 ∨ 9 < x → x ≠ 14 → x ≠ 11 → AD (va_up (va_up σk 11 (fun _ => (1 : Int32))) 14 (fun _ => nI td)) 0 (nI 0) (-1) (-1) (nI td) x = σk x := fun x h1 h2 h3 => by rw [a0 x h1, up_ne h2, up_ne h3]
  obtain ⟨σ', o1, o2⟩ := open_both (c := c) (len := 0) (pc := pc) (tm := tm) (pr := pr) (K := uN K 0 0) (sl := uN sl 0 0) (dy := uN dy 0 td) (pe := upd pe 0 (-1)) (se := upd se 0 (-1)) h8 hw.b8 (by rw [uN_eq]; exact Or.inl rfl) (fun j hj => by rw [eS, Nat.zero_testBit] at hj; cases hj) (Or.inl eT) (hw'.op 1 (Nat.le_refl _))
    (by rw [g 10 (by decide) (by decide) (by decide)]; exact c10) (by rw [g 12 (by decide) (by decide) (by decide)]; exact c12) (by rw [g 13 (by decide) (by decide) (by decide)]; exact c13) a9 (fun j hj => by rw [g 0 (by decide) (by decide) (by decide), g 1 (by decide) (by decide) (by decide), g 2 (by decide) (by decide) (by decide)]; exact cr j hj) (cls_ev 0 0 td (-1) (-1) a5 a6 a7 a8 ce)
    (by rw [a0 11 (by decide), up_ne (by decide), up_eq, eT]; rfl) (by rw [g 15 (by decide) (by decide) (by decide), eS]; exact c15) (by rw [g 16 (by decide) (by decide) (by decide), eS]; exact c16.trans (by rw [sta, if_neg (by decide), opd, show dif 0 0 = 0 by decide])) (fun j hj => by rw [g 4 (by decide) (by decide) (by decide), rmd, uN_eq, if_neg (by omega)]; exact c4 j hj) (fun j hj => by rw [opd, Nat.zero_testBit] at hj; cases hj) (by rw [a0 14 (by decide), up_eq, uN_eq])
  rw [uN_eq, eS] at o1
  refine ⟨pcn (dif (dif (rdy bf 0 c) 0) (dif (opd c bf (uN K 0 0) (uN sl 0 0) 0) 0)), σ', τ', ?_, ?_, ⟨c, 0 + 1, pc, tm, bf, pr, uN K 0 0, uN sl 0 0, uN dy 0 td, upd pe 0 (-1), upd se 0 (-1), hk, hpc, htm, hse', hw', hr'.keep l3, o2⟩, (NT_other (by omega)).tr (l3.other k), ?_⟩
  rotate_left
  · unfold f_X0_start
    simp only [lt]
    show (f_X0_openNext (AD (va_up (va_up σk 11 (fun _ => (1 : Int32))) 14 (fun _ => nI td)) 0 (nI 0) (-1) (-1) (nI td)) (nI td)).bind _ = _
    rw [o1]
    rfl
  · rw [l2.t24, NT_lo (by decide) (by decide)]
  · rw [notes_spec hk (by omega) hr.2.2.2.1, h0, Option.bind_some, l1, Option.bind_some, open_told l2 (by decide), if_pos rfl, eS, eO, many_pcn (lt8 (dif_lt (rdy_lt bf 0 c)) h8)]
    show some (nI (pcn (dif (rdy bf 0 c) 0)), τ') = _
    have e : dif (dif (rdy bf 0 c) 0) (dif (opd c bf (uN K 0 0) (uN sl 0 0) 0) 0) = dif (rdy bf 0 c) 0 := by
      apply nat_ext
      intro j
      rw [dif_bit, dif_bit, dif_bit, opd, Nat.zero_testBit]
      cases (rdy bf 0 c).testBit j <;> rfl
    rw [e]
theorem sa_send : SA_send Inv := by
  intro t n σ0 σ τ x1 ht hI
  obtain ⟨td, htd, hD, hE⟩ := id hI
  have n1 : ¬ (1 : Int32) = 0 := by decide
  rcases env_cases hD.1 hD.2.2.2.1 x1 with ⟨e1, e2⟩ | ⟨k, hk, rfl, e1, e2⟩
  · refine ⟨0, va_up τ 24 (fun _ => 1), ?_, Or.inr (Or.inl ⟨?_, hI.keep k24, by rw [up_eq]⟩)⟩
    · unfold f_X5_send
      rw [e1, if_pos rfl]
      simp only [goes1, if_true]
    · unfold f_X4_send; rw [e2]; rfl
  · obtain ⟨c, len, pc, tm, bf, pr, K, sl, dy, pe, se, k6, hpc, htm, hse, hw, hr, hc⟩ := hE k hk
    have h8 := hw.1
    obtain ⟨τ2, i1, i2, i3⟩ := isin k6 hse hw hr (Keep.rf) (v := 0) (by decide)
    have i1 : f_X5_isIn τ (nI k) 0 = some (if sta c K sl len = 0 then 1 else 0, τ2) := i1
    have hst := sta_le c K sl len
    have hi : inb (nI k) 6 := inb9 k6 (by decide)
    have hcl : (nI k).toNatClampNeg = k := cl9 (by omega)
    by_cases hs : sta c K sl len = 0
    · have hl0 := sta_zero hw hs
      subst hl0
      rw [if_pos hs] at i1
      by_cases hc0 : c = 0
      · refine ⟨0, va_up τ2 24 (fun _ => 2), ?_, Or.inr (Or.inr ⟨?_, hI.keep (i2.tr k24), by rw [up_eq]⟩)⟩
        · unfold f_X5_send
          rw [e1, if_neg n1, i1, Option.bind_some, if_neg n1, if_pos hi]
          simp only [hcl, i2 2 (by decide), hr.1]
          rw [hc0, if_pos (show nI 0 ≤ 0 by decide)]
          simp only [goes2, if_true]
        · unfold f_X4_send
          rw [e2, xb_inr, nodraft0 (by rw [hc.2.2.2.2.2.2.1, hs]), xb_inr, hc.1, hc0, if_pos nI_0]
          rfl
      · obtain ⟨w, σ', τ', q1, q2, q3, q4, q5⟩ := send_both (τ1 := va_up τ2 24 (fun _ => 0)) (by rw [up_ne (by decide), i2 0 (by decide)]; exact hD.2.1) k6 hpc htm hw (hr.keep (i2.tr k24)) hc (by omega)
        refine ⟨nI w, τ', ?_, Or.inl ⟨σ0, va_up σ k σ', ?_, inv_put htd hD hE hk q3 (((i2.tr k24).other k).tr q4), by rw [q5, up_eq]⟩⟩
        · unfold f_X5_send
          rw [e1, if_neg n1, i1, Option.bind_some, if_neg n1, if_pos hi]
          simp only [hcl, i2 2 (by decide), hr.1]
          rw [if_neg (show ¬ nI c ≤ 0 from nI_nle (by omega) (by omega))]
          simp only [goes0]
          rw [if_neg n1]
          exact q1
        · unfold f_X4_send
          rw [e2, xb_inr, nodraft0 (by rw [hc.2.2.2.2.2.2.1, hs]), xb_inr, hc.1, if_neg (fun e => hc0 ((nI_zero (by omega)).mp e)), hD.2.2.1, q2, Option.bind_some]
          rfl
    · rw [if_neg hs] at i1
      refine ⟨0, va_up τ2 24 (fun _ => 2), ?_, Or.inr (Or.inr ⟨?_, hI.keep (i2.tr k24), by rw [up_eq]⟩)⟩
      · unfold f_X5_send
        rw [e1, if_neg n1, i1, Option.bind_some, if_pos rfl]
        simp only [goes2, if_true]
      · unfold f_X4_send
        rw [e2, xb_inr, nodraft1 hc.2.2.2.2.2.2.1 hst hs]
        rfl
end
