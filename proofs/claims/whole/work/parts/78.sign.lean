/-! A slot signed -/
section
set_option maxHeartbeats 1000000 in
theorem mark_both {td c len pc tm k kd j : Nat} {σk τ1 : SS} {bf pr K sl dy : Nat → Nat} {pe se : Nat → Int32} (h0 : τ1 0 0 = nI td) (hk : k < 6) (hpc : pc ≤ 30) (htm : tm ≤ 60) (hse : ∀ i, i < len → (K i = 1 ∨ K i = 2 ∨ K i = 6) → se i = nI (sl i)) (hw : Wf td c len bf pr K sl dy) (hr : RefE τ1 k c len pc tm bf pr K dy pe se) (hc : ClsE σk c len pc tm bf pr K sl dy pe se) (hs : sta c K sl len = 1) (hkd : kd = 1 ∨ kd = 2) (hj : (dif (opd c bf K sl len) (sgn K sl len)).testBit j = true) (x : Int32) :
    ∃ (w : Nat) (σ' τ' : SS), ((f_X5_notes τ1 (nI k) (nI kd) x (nI j)).bind fun z3 => ((f_X5_looks z3 (nI k)).bind fun z4 => ((f_X5_many ((f_X5_open z4) &&& ((nI (dif (opd c bf K sl len) (sgn K sl len))) ^^^ (-1 : Int32)))).bind fun z5 => (some (z5, z4))))) = some (nI w, τ') ∧ f_X0_mark σk (nI kd) x (nI j) (nI td) = some (nI w, σ') ∧ EI td σ' τ' k ∧ Other τ1 τ' k ∧ τ' 24 = τ1 24 := by
  have h8 := hw.1
  have hl := Nat.le_refl len
  have hlen := sta_pos hs
  have hc0 : 0 < c := (hw.2.2.2.2.1 hlen).1
  have hroom := hw.room hc0 (Or.inr hs)
  have hK0 : K 0 = 0 := ((hw.2.2.2.1 0 hlen).2.2.1).mp rfl
  obtain ⟨c10, c12, c13, c9, cr, ce, c11, c15, c16, c4, c3, c14⟩ := hc
  rw [dif_bit] at hj
  have hjo : (opd c bf K sl len).testBit j = true := by
    cases h : (opd c bf K sl len).testBit j with
    | true => rfl
    | false => rw [h] at hj; cases hj
  have hjs : (sgn K sl len).testBit j = false := by
    cases h : (sgn K sl len).testBit j with
    | false => rfl
    | true => rw [h] at hj; simp at hj
  have hjr := hjo
  rw [opd_rdy hK0 len hlen, rdy_bit] at hjr
  have hjc : j < c := by
    by_cases h : j < c
    · exact h
    · simp [h] at hjr
  have hjd : dif (bf j) (sgn K sl len) = 0 := by
    by_cases h : dif (bf j) (sgn K sl len) = 0
    · exact h
    · simp [h] at hjr
  have hk0 : ¬ kd = 0 := by omega
  have hk6 : ¬ kd = 6 := by omega
  have hkd3 : kd = 0 ∨ kd = 1 ∨ kd = 2 := Or.inr hkd
  have cg : ∀ i, i < len → uN K len kd i = K i ∧ uN sl len j i = sl i := fun i hi => ⟨uN_lt hi, uN_lt hi⟩
  have hw' : Wf td c (len + 1) bf pr (uN K len kd) (uN sl len j) (uN dy len td) := hw.add hc0 (by omega) ⟨fun e => by omega, fun e => absurd e hk0⟩ (fun _ => hs) (fun _ => ⟨hjc, hjs⟩) (fun _ => hjd) (Nat.le_refl _) (fun h => absurd h hk6)
  have hr' := NT_ref hr kd td x (nI j)
  have hse' : ∀ i, i < len + 1 → (uN K len kd i = 1 ∨ uN K len kd i = 2 ∨ uN K len kd i = 6) → upd se len (nI j) i = nI (uN sl len j i) := by
    intro i hi h
    by_cases e : i = len
    · subst e
      rw [uN_eq, upd_eq]
    · rw [uN_lt (by omega)] at h ⊢
      rw [upd_ne e]
      exact hse i (by omega) h
  have eS0 := sgn_cong cg len hl
  have eO0 := opd_cong (c := c) (bf := bf) cg len hl
  have eS : sgn (uN K len kd) (uN sl len j) (len + 1) = sgn K sl len ||| 2 ^ j := by rw [sgn, uN_eq, uN_eq, if_pos hkd, eS0]
  have hsg' : sgn K sl len ||| 2 ^ j < 2 ^ c := by rw [← eS]; exact hw'.sg (len + 1) (Nat.le_refl _)
  have eT : sta c (uN K len kd) (uN sl len j) (len + 1) = if sgn K sl len ||| 2 ^ j = 2 ^ c - 1 then 2 else 1 := by rw [sta, uN_eq, if_neg hk0, if_pos hkd, eS]
  have hst : sta c (uN K len kd) (uN sl len j) (len + 1) = 1 ∨ sta c (uN K len kd) (uN sl len j) (len + 1) = 2 := by
    rw [eT]
    split
    · exact Or.inr rfl
    · exact Or.inl rfl
  have hst5 := sta_le c (uN K len kd) (uN sl len j) (len + 1)
  have eO : opd c bf (uN K len kd) (uN sl len j) (len + 1) = opd c bf K sl len ||| rdy bf (sgn K sl len ||| 2 ^ j) c := by rw [opd, uN_eq, if_pos hkd3, eS, eO0]
  obtain ⟨τ', l1, l2, l3⟩ := look hk hse' hw' hr' Keep.rf
  -- the class
  have e9 : (va_up (va_up σk 15 (fun _ => nI (sgn K sl len ||| 2 ^ j))) 16 (fun _ => nI (dif (opd c bf K sl len) (sgn K sl len ||| 2 ^ j))) : SS) 9 0 = nI len := by rw [up_ne (by decide), up_ne (by decide)]; exact c9
  obtain ⟨a0, a5, a6, a7, a8, a9⟩ := AD_spec e9 (show len < 49 by omega) (nI kd) x (nI j) (nI td)
  rw [up_ne (by decide), up_ne (by decide)] at a5 a6 a7 a8
  generalize hσ : AD (va_up (va_up σk 15 (fun _ => nI (sgn K sl len ||| 2 ^ j))) 16 (fun _ => nI (dif (opd c bf K sl len) (sgn K sl len ||| 2 ^ j)))) len (nI kd) x (nI j) (nI td) = σ3 at a0 a5 a6 a7 a8 a9
  have g : ∀ x, x < 5 ∨ 9 < x → x ≠ 15 → x ≠ 16 → σ3 x = σk x := fun x h1 h2 h3 => by rw [a0 x h1, up_ne h3, up_ne h2]
  have g15 : σ3 15 0 = nI (sgn K sl len ||| 2 ^ j) := by rw [a0 15 (by decide), up_ne (by decide), up_eq]
  have g16 : σ3 16 0 = nI (dif (opd c bf K sl len) (sgn K sl len ||| 2 ^ j)) := by rw [a0 16 (by decide), up_eq]
  have hob : ∀ σ4 : SS, (∀ x, x ≠ 11 → σ4 x = σ3 x) → σ4 11 0 = nI (sta c (uN K len kd) (uN sl len j) (len + 1)) → ∃ σ', f_X0_openNext σ4 (nI td) = some (nI (pcn (dif (dif (rdy bf (sgn K sl len ||| 2 ^ j) c) (sgn K sl len ||| 2 ^ j)) (dif (opd c bf K sl len) (sgn K sl len ||| 2 ^ j)))), σ') ∧ ClsE σ' c (len + 1) pc tm bf pr (uN K len kd) (uN sl len j) (uN dy len td) (upd pe len x) (upd se len (nI j)) := by
    intro σ4 h4 h11
    obtain ⟨σ', o1, o2⟩ := open_both (σ1 := σ4) (c := c) (len := len) (pc := pc) (tm := tm) (bf := bf) (pr := pr) (K := uN K len kd) (sl := uN sl len j) (dy := uN dy len td) (pe := upd pe len x) (se := upd se len (nI j)) h8 hw.b8 (by rw [uN_eq]; exact hkd3)
      (fun q hq => by
        rw [eS, Nat.testBit_or, two_bit] at hq
        rw [eO0]
        cases hb : (sgn K sl len).testBit q with
        | true => rw [opd_rdy hK0 len hlen]; exact sg_rdy hw len hl q hb
        | false =>
          rw [hb] at hq
          have : j = q := by simpa using hq
          subst this
          exact hjo) hst (hw'.op (len + 1) (Nat.le_refl _))
      (by rw [h4 10 (by decide), g 10 (by decide) (by decide) (by decide)]; exact c10) (by rw [h4 12 (by decide), g 12 (by decide) (by decide) (by decide)]; exact c12) (by rw [h4 13 (by decide), g 13 (by decide) (by decide) (by decide)]; exact c13) (by rw [h4 9 (by decide)]; exact a9) (fun q hq => by rw [h4 0 (by decide), h4 1 (by decide), h4 2 (by decide), g 0 (by decide) (by decide) (by decide), g 1 (by decide) (by decide) (by decide), g 2 (by decide) (by decide) (by decide)]; exact cr q hq)
      (cls_ev (σ := σk) kd j td x (nI j) (by rw [h4 5 (by decide)]; exact a5) (by rw [h4 6 (by decide)]; exact a6) (by rw [h4 7 (by decide)]; exact a7) (by rw [h4 8 (by decide)]; exact a8) ce)
      h11 (by rw [h4 15 (by decide), eS]; exact g15) (by rw [h4 16 (by decide), eS, eO0]; exact g16)
      (fun q hq => by rw [h4 4 (by decide), g 4 (by decide) (by decide) (by decide), rmd, uN_eq, if_neg (fun h => hk6 h.1), rmd_cong cg _ hl]; exact c4 q hq)
      (fun q hq => by rw [eO0] at hq; rw [h4 3 (by decide), g 3 (by decide) (by decide) (by decide), ond_cong cg (fun i hi => uN_lt hi) _ hl]; exact c3 q hq)
      (by rw [h4 14 (by decide), g 14 (by decide) (by decide) (by decide), uN_lt hlen]; exact c14 hlen)
    rw [uN_eq, eS, eO0] at o1
    exact ⟨σ', o1, o2⟩
  have e4 : f_X0_mark σk (nI kd) x (nI j) (nI td) = if σ3 15 0 = f_X0_allSlots σ3 then f_X0_openNext (va_up σ3 11 (fun _ => (2 : Int32))) (nI td) else f_X0_openNext σ3 (nI td) := by
    have hbit : nI (if sta c K sl len = 1 then dif (opd c bf K sl len) (sgn K sl len) else 0) &&& (nI (2 ^ j) ^^^ (-1 : Int32)) = nI (dif (opd c bf K sl len) (sgn K sl len ||| 2 ^ j)) := by
      rw [if_pos hs, i_dif]
      congr 1
      apply nat_ext
      intro q
      rw [dif_bit, dif_bit, dif_bit, Nat.testBit_or]
      cases (opd c bf K sl len).testBit q <;> cases (sgn K sl len).testBit q <;> cases (2 ^ j).testBit q <;> rfl
    unfold f_X0_mark
    simp only [lt, i_one (show j < 32 by omega), up_ne (show (16 : Nat) ≠ 15 by decide), c15, c16, fa_or, hbit]
    have hσ' := hσ
    unfold AD at hσ'
    rw [hσ']
    by_cases h : σ3 15 0 = f_X0_allSlots σ3
    · rw [if_pos h, if_pos h]
      cases f_X0_openNext (va_up σ3 11 (fun _ => (2 : Int32))) (nI td) <;> rfl
    · rw [if_neg h, if_neg h]
      cases f_X0_openNext σ3 (nI td) <;> rfl
  have ecl : ∃ σ', f_X0_mark σk (nI kd) x (nI j) (nI td) = some (nI (pcn (dif (dif (rdy bf (sgn K sl len ||| 2 ^ j) c) (sgn K sl len ||| 2 ^ j)) (dif (opd c bf K sl len) (sgn K sl len ||| 2 ^ j)))), σ') ∧ ClsE σ' c (len + 1) pc tm bf pr (uN K len kd) (uN sl len j) (uN dy len td) (upd pe len x) (upd se len (nI j)) := by
    have c256 := pu_p8 h8
    have hall : f_X0_allSlots σ3 = nI (2 ^ c - 1) := by unfold f_X0_allSlots; rw [g 10 (by decide) (by decide) (by decide), c10, i_all h8]
    rw [e4, g15, hall]
    by_cases he : sgn K sl len ||| 2 ^ j = 2 ^ c - 1
    · rw [if_pos (by rw [he])]
      exact hob _ (fun x hx => up_ne hx) (by rw [up_eq, eT, if_pos he]; rfl)
    · rw [if_neg (fun e => he ((nI_eq (by omega) (by omega)).mp e))]
      exact hob _ (fun x hx => rfl) (by rw [g 11 (by decide) (by decide) (by decide), c11, hs, eT, if_neg he])
  obtain ⟨σ', m1, m2⟩ := ecl
  refine ⟨pcn (dif (dif (rdy bf (sgn K sl len ||| 2 ^ j) c) (sgn K sl len ||| 2 ^ j)) (dif (opd c bf K sl len) (sgn K sl len ||| 2 ^ j))), σ', τ', ?_, m1, ⟨c, len + 1, pc, tm, bf, pr, uN K len kd, uN sl len j, uN dy len td, upd pe len x, upd se len (nI j), hk, hpc, htm, hse', hw', hr'.keep l3, m2⟩, (NT_other (by omega)).tr (l3.other k), ?_⟩
  · rw [notes_spec hk (by omega) hr.2.2.2.1, h0, Option.bind_some, l1, Option.bind_some, open_told l2 hst5, i_dif]
    have hlt : (if sta c (uN K len kd) (uN sl len j) (len + 1) = 1 then dif (opd c bf (uN K len kd) (uN sl len j) (len + 1)) (sgn (uN K len kd) (uN sl len j) (len + 1)) else 0) < 2 ^ c := by
      split
      · exact dif_lt (hw'.op (len + 1) (Nat.le_refl _))
      · exact Nat.two_pow_pos c
    rw [many_pcn (lt8 (dif_lt hlt) h8), Option.bind_some]
    have e : dif (if sta c (uN K len kd) (uN sl len j) (len + 1) = 1 then dif (opd c bf (uN K len kd) (uN sl len j) (len + 1)) (sgn (uN K len kd) (uN sl len j) (len + 1)) else 0) (dif (opd c bf K sl len) (sgn K sl len)) = dif (dif (rdy bf (sgn K sl len ||| 2 ^ j) c) (sgn K sl len ||| 2 ^ j)) (dif (opd c bf K sl len) (sgn K sl len ||| 2 ^ j)) := by
      rw [eO, eS, eT]
      apply nat_ext
      intro q
      by_cases he : sgn K sl len ||| 2 ^ j = 2 ^ c - 1
      · rw [if_pos he, if_neg (by decide), he, dif_bit, dif_bit, dif_bit, dif_bit, all_bit, rdy_bit, Nat.zero_testBit]
        by_cases hq : q < c
        · simp [hq]
        · simp [hq]
      · rw [if_neg he, if_pos rfl, dif_bit, dif_bit, dif_bit, dif_bit, dif_bit, dif_bit, Nat.testBit_or, Nat.testBit_or]
        cases (opd c bf K sl len).testBit q <;> cases (sgn K sl len).testBit q <;> cases (2 ^ j).testBit q <;> cases (rdy bf (sgn K sl len ||| 2 ^ j) c).testBit q <;> rfl
    rw [e]
  · rw [l2.t24, NT_lo (by decide) (by decide)]
theorem open24 {τ : SS} {v : Nat → Int32} : f_X5_open (va_up τ 24 v) = f_X5_open τ := rfl
set_option maxHeartbeats 2000000 in
theorem sa_sign : SA_sign Inv := by
  intro t n σ0 σ τ x1 x2 x3 ht hI
  obtain ⟨td, htd, hD, hE⟩ := id hI
  have n1 : ¬ (1 : Int32) = 0 := by decide
  rcases per_cases x1 with ⟨e1, e2, -⟩ | ⟨p, hp, rfl, e1, e2, -⟩
  · refine ⟨0, va_up τ 24 (fun _ => 1), ?_, Or.inr (Or.inl ⟨?_, hI.keep k24, by rw [up_eq]⟩)⟩
    · unfold f_X5_sign
      rw [e1, if_pos rfl]
      simp only [goes1, if_true]
    · unfold f_X4_sign; rw [e2]; rfl
  · rcases slot_out hD.1 hD.2.2.2.1 (σ := σ) (fun k hk => (hE k hk).cnt) x2 x3 with ⟨g1, g2⟩ | ⟨k, j, c', hk, hj, c8, c2, rfl, rfl, g1, g2, g3⟩
    · refine ⟨0, va_up τ 24 (fun _ => 1), ?_, Or.inr (Or.inl ⟨?_, hI.keep k24, by rw [up_eq]⟩)⟩
      · unfold f_X5_sign
        rw [e1, if_neg n1, g1, Option.bind_some, if_pos rfl]
        simp only [goes1, if_true]
      · unfold f_X4_sign
        rcases g2 with g2 | ⟨k, g2, g3⟩
        · rw [e2, xb_inr, g2]; rfl
        · rw [e2, xb_inr, g2, xb_inr, g3]; rfl
    · obtain ⟨c, len, pc, tm, bf, pr, K, sl, dy, pe, se, k6, hpc, htm, hse, hw, hr, hc⟩ := hE k hk
      obtain rfl : c' = c := cnt_eq c2 hr.1 (by omega) (by have := hw.1; omega)
      have h8 := hw.1
      obtain ⟨τ2, r, q5, q4, hr5, hr2, l2, l3⟩ := why hD (by omega) k6 hse hw hr hc Keep.rf hj (nI p)
      by_cases h2 : r < 2
      · obtain ⟨hs, hb, hrx⟩ := hr2 h2
        have ho : f_X5_open (va_up τ2 24 (fun _ => (0 : Int32))) = nI (dif (opd c' bf K sl len) (sgn K sl len)) := by
          rw [open24, open_told l2 (sta_le _ _ _ _), if_pos hs]
        have hix : inb (nI (8 * k + j)) 48 := inb9 (by omega) (by decide)
        have hcl : (nI (8 * k + j)).toNatClampNeg = 8 * k + j := cl9 (by omega)
        have hpr := (hw.2.2.1 j hj).2
        have h6 : va_up τ2 24 (fun _ => (0 : Int32)) 6 (8 * k + j) = nI (pr j) := by rw [up_ne (by decide), l3 6 (by decide)]; exact (hr.2.2.2.2.1 j hj).1
        have hK2 : Keep τ (va_up τ2 24 (fun _ => (0 : Int32))) := l3.tr k24
        have hz2 : ¬ (2 : Int32) ≤ nI r := nI_ge (b := 2) h2 (by decide)
        by_cases h0 : r = 0
        · subst h0
          have hx : nI p = nI (pr j) := hrx.mp rfl
          obtain ⟨w, σ', τ', b1, b2, b3, b4, b5⟩ := mark_both (kd := 1) (τ1 := va_up τ2 24 (fun _ => (0 : Int32))) (by rw [hK2 0 (by decide)]; exact hD.2.1) k6 hpc htm hse hw (hr.keep hK2) hc hs (Or.inl rfl) hb (nI p)
          refine ⟨nI w, τ', ?_, Or.inl ⟨σ0, va_up σ k σ', ?_, inv_put htd hD hE hk b3 ((hK2.other k).tr b4), by rw [b5, up_eq]⟩⟩
          · unfold f_X5_sign
            rw [e1, if_neg n1, g1, Option.bind_some, if_neg n1, q5, Option.bind_some, if_neg hz2]
            simp only [goes0]
            rw [if_neg n1, ix8, if_pos hix]
            simp only [hcl, h6, ho]
            rw [if_pos hx, if_pos hx]
            exact b1
          · unfold f_X4_sign
            rw [e2, xb_inr, g2, xb_inr, g3, xb_inr, q4, Option.bind_some, if_pos nI_0, if_pos nI_0, hD.2.2.1]
            have b2 : f_X0_mark (σ k) 1 (nI p) (nI j) (nI td) = some (nI w, σ') := b2
            rw [b2]
            rfl
        · have hx : ¬ nI p = nI (pr j) := fun e => h0 (hrx.mpr e)
          obtain rfl : r = 1 := by omega
          have hib : inb (nI (pr j)) 8 := inb9 hpr (by decide)
          have hclp : (nI (pr j)).toNatClampNeg = pr j := cl9 (by omega)
          have hD2 := hD.keep hK2
          have hsd := sgtd hD2 (by omega) hpr
          generalize hT : (va_up (va_up (va_up τ2 24 (fun _ => (0 : Int32))) 16 (upd (va_up τ2 24 (fun _ => (0 : Int32)) 16) (pr j) (σ0 (3 + pr j) 4 + 1))) 17 (upd (va_up τ2 24 (fun _ => (0 : Int32)) 17) (pr j) (nI td)) : SS) = T
          have gT : ∀ x, x ≠ 16 → x ≠ 17 → T x = va_up τ2 24 (fun _ => (0 : Int32)) x := fun x a b => by rw [← hT, up_ne b, up_ne a]
          have gT2 : ∀ x, x < 16 → T x = τ x := fun x hx => by rw [gT x (by omega) (by omega), hK2 x (by omega)]
          have g16 : T 16 = upd (τ 16) (pr j) (σ0 (3 + pr j) 4 + 1) := by rw [← hT, up_ne (by decide), up_eq, hK2 16 (by decide)]
          have g17 : T 17 = upd (τ 17) (pr j) (nI td) := by rw [← hT, up_eq, hK2 17 (by decide)]
          have hsame : ∀ x, 2 ≤ x → x < 12 → T x = τ x := fun x a b => gT2 x (by omega)
          have hrT : RefE T k c' len pc tm bf pr K dy pe se := by
            obtain ⟨r1, r2, r3, r4, r5, r6⟩ := hr
            refine ⟨by rw [gT2 2 (by decide)]; exact r1, by rw [gT2 3 (by decide)]; exact r2, by rw [gT2 4 (by decide)]; exact r3, by rw [gT2 5 (by decide)]; exact r4, fun j hj => ?_, fun i hi => ?_⟩
            · rw [gT2 6 (by decide), gT2 7 (by decide)]; exact r5 j hj
            · rw [gT2 8 (by decide), gT2 9 (by decide), gT2 10 (by decide), gT2 11 (by decide)]; exact r6 i hi
          have hDT : DE td n (va_up σ0 (3 + pr j) (upd (σ0 (3 + pr j)) 4 (σ0 (3 + pr j) 4 + 1))) T := by
            obtain ⟨d1, d2, d3, d4, d5, d6⟩ := hD
            refine ⟨d1, by rw [gT2 0 (by decide)]; exact d2, by rw [up_ne (by omega)]; exact d3, by rw [gT2 1 (by decide)]; exact d4, fun k a b => ?_, fun q hq => ?_⟩
            · rw [gT2 2 (by decide), gT2 3 (by decide), gT2 4 (by decide), gT2 5 (by decide)]; exact d5 k a b
            · rw [gT2 12 (by decide), gT2 13 (by decide), gT2 14 (by decide), gT2 15 (by decide), g16, g17]
              obtain ⟨s1, s2, s3, s4, s5, y, s6, s7, s8⟩ := d6 q hq
              by_cases e : q = pr j
              · subst e
                rw [up_eq, upd_ne (by decide), upd_ne (by decide), upd_ne (by decide), upd_ne (by decide), upd_eq, upd_eq, upd_eq]
                exact ⟨s1, s2, s3, s4, s5, td, Nat.le_refl _, rfl, by rw [if_pos rfl]⟩
              · rw [up_ne (by omega), upd_ne e, upd_ne e]
                exact ⟨s1, s2, s3, s4, s5, y, s6, s7, s8⟩
          obtain ⟨w, σ', τ', b1, b2, b3, b4, b5⟩ := mark_both (kd := 2) (τ1 := T) (by rw [gT2 0 (by decide)]; exact hD.2.1) k6 hpc htm hse hw hrT hc hs (Or.inr rfl) hb (nI p)
          refine ⟨nI w, τ', ?_, Or.inl ⟨va_up σ0 (3 + pr j) (upd (σ0 (3 + pr j)) 4 (σ0 (3 + pr j) 4 + 1)), va_up σ k σ', ?_, inv_put htd hDT (fun k hk => (hE k hk).keep2 hsame) hk b3 b4, by rw [b5, gT 24 (by decide) (by decide), up_eq]⟩⟩
          · unfold f_X5_sign
            rw [e1, if_neg n1, g1, Option.bind_some, if_neg n1, q5, Option.bind_some, if_neg hz2]
            simp only [goes0]
            rw [if_neg n1, ix8, if_pos hix]
            simp only [hcl, h6, ho]
            rw [if_neg hx, hsd, Option.bind_some, if_pos hib]
            simp only [hclp, lt]
            rw [if_pos hib]
            rw [if_neg hx]
            have e0 : va_up (va_up τ2 24 (fun _ => (0 : Int32))) 16 (upd (va_up τ2 24 (fun _ => (0 : Int32)) 16) (pr j) (σ0 (3 + pr j) 4 + 1)) 0 0 = nI td := by rw [up_ne (by decide), hK2 0 (by decide)]; exact hD.2.1
            rw [e0, up_ne (show (17 : Nat) ≠ 16 by decide), hT]
            exact b1
          · unfold f_X4_sign
            have hstd : f_X4_standinOf (nI (pr j)) = some (.inr (pr j)) := by
              unfold f_X4_standinOf
              rw [if_neg (nI_pos (by omega)), if_pos (show nI (pr j) < 8 from nI_lt (b := 8) hpr (by decide)), hclp]
            rw [e2, xb_inr, g2, xb_inr, g3, xb_inr, q4, Option.bind_some, if_neg (show ¬ nI 1 = 0 by decide), if_pos (show nI 1 = 1 from rfl), if_neg (show ¬ nI 1 = 0 by decide), rg9 (by omega) (by decide), (hc.2.2.2.2.1 j hj).1, hstd, xb_inr]
            simp only [lt]
            rw [up_ne (by omega), hD.2.2.1]
            have b2 : f_X0_mark (σ k) 2 (nI p) (nI j) (nI td) = some (nI w, σ') := b2
            rw [b2]
            rfl
      · refine ⟨0, va_up τ2 24 (fun _ => 2), ?_, Or.inr (Or.inr ⟨?_, hI.keep (l3.tr k24), by rw [up_eq]⟩)⟩
        · unfold f_X5_sign
          rw [e1, if_neg n1, g1, Option.bind_some, if_neg n1, q5, Option.bind_some, if_pos (show (2 : Int32) ≤ nI r from nI_le (a := 2) (by omega) (by omega))]
          simp only [goes2, if_true]
        · unfold f_X4_sign
          rw [e2, xb_inr, g2, xb_inr, g3, xb_inr, q4, Option.bind_some, if_neg (fun e => by have := (nI_zero (by omega)).mp e; omega), if_neg (fun e => by have := (nI_eq (b := 1) (by omega) (by decide)).mp e; omega)]
          rfl
end
