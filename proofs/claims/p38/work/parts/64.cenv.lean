/-! An envelope of the class, with what its history says; each of its own steps -/
section
theorem many_pcn {a : Nat} (h : a < 256) : f_L_many (nI a) = some (nI (pcn a)) := (by decide +kernel : ∀ a, a < 256 → f_L_many (nI a) = some (nI (pcn a))) a h
def HX (c len : Nat) (bf pr K sl dy : Nat → Nat) (pe se : Nat → Int32) : Prop :=
  (∀ i, i < len → (K i = 1 ∨ K i = 2 ∨ K i = 3 ∨ K i = 6) → se i = nI (sl i) ∧ sl i < c ∧ (sgn K sl i).testBit (sl i) = false ∧ dif (bf (sl i)) (sgn K sl i) = 0 ∧ ∃ q, q < 8 ∧ pe i = nI q ∧ (K i = 2 ↔ q ≠ pr (sl i))) ∧
  (∀ i, i < len → (K i = 0 ∨ K i = 4 ∨ K i = 5) → pe i = -1 ∧ se i = -1) ∧ ∀ i, i + 1 < len → dy i ≤ dy (i + 1)
def CE (td : Nat) (σ : SS) (c len pc tm : Nat) (bf pr K sl dy : Nat → Nat) (pe se : Nat → Int32) : Prop :=
  pc ≤ 30 ∧ tm ≤ 60 ∧ HX c len bf pr K sl dy pe se ∧ Wf td c len bf pr K sl dy ∧ ClsE σ c len pc tm bf pr K sl dy pe se
theorem HX.se {c len : Nat} {bf pr K sl dy : Nat → Nat} {pe se : Nat → Int32} (h : HX c len bf pr K sl dy pe se) : ∀ i, i < len → (K i = 1 ∨ K i = 2 ∨ K i = 6) → se i = nI (sl i) := fun i hi hk => (h.1 i hi (by omega)).1
theorem HX.add {c len : Nat} {bf pr K sl dy : Nat → Nat} {pe se : Nat → Int32} (h : HX c len bf pr K sl dy pe se) {kd sv dv : Nat} {x y : Int32} (hd : ∀ i, i < len → dy i ≤ dv)
    (h1 : kd = 1 ∨ kd = 2 ∨ kd = 3 ∨ kd = 6 → y = nI sv ∧ sv < c ∧ (sgn K sl len).testBit sv = false ∧ dif (bf sv) (sgn K sl len) = 0 ∧ ∃ q, q < 8 ∧ x = nI q ∧ (kd = 2 ↔ q ≠ pr sv)) (h2 : kd = 0 ∨ kd = 4 ∨ kd = 5 → x = -1 ∧ y = -1) :
    HX c (len + 1) bf pr (uN K len kd) (uN sl len sv) (uN dy len dv) (upd pe len x) (upd se len y) := by
  obtain ⟨a, b, d⟩ := h
  have cg : ∀ i, i < len → uN K len kd i = K i ∧ uN sl len sv i = sl i := fun i hi => ⟨uN_lt hi, uN_lt hi⟩
  refine ⟨fun i hi hk => ?_, fun i hi hk => ?_, fun i hi => ?_⟩
  · rw [sgn_cong cg i (by omega)]
    by_cases e : i = len
    · subst e
      simp only [uN_eq] at hk
      simp only [uN_eq, upd_eq]
      exact h1 hk
    · have e1 : uN K len kd i = K i := uN_lt (by omega)
      have e2 : uN sl len sv i = sl i := uN_lt (by omega)
      rw [e1] at hk
      rw [e1, e2, upd_ne e, upd_ne e]
      exact a i (by omega) hk
  · by_cases e : i = len
    · subst e
      simp only [uN_eq] at hk
      rw [upd_eq, upd_eq]
      exact h2 hk
    · have e1 : uN K len kd i = K i := uN_lt (by omega)
      rw [e1] at hk
      rw [upd_ne e, upd_ne e]
      exact b i (by omega) hk
  · have e1 : uN dy len dv i = dy i := uN_lt (by omega)
    rw [e1]
    by_cases e : i + 1 = len
    · subst e
      rw [uN_eq]
      exact hd i (by omega)
    · rw [uN_lt (by omega)]
      exact d i (by omega)
theorem Wf.dle {td c len : Nat} {bf pr K sl dy : Nat → Nat} (hw : Wf td c len bf pr K sl dy) : ∀ i, i < len → dy i ≤ td := fun i hi => (hw.2.2.2.1 i hi).2.1
/-- a sent envelope has an unsigned slot -/
theorem left_pos {td c len : Nat} {bf pr K sl dy : Nat → Nat} (hw : Wf td c len bf pr K sl dy) (hs : sta c K sl len = 1) : pcn (sgn K sl len) < c := by
  have hlen := sta_pos hs
  have hc0 : 0 < c := (hw.2.2.2.2.1 hlen).1
  have h1 := sta_one hw hc0 len (Nat.le_refl _) hs
  have h2 := pcn_c hw.1 (hw.sg len (Nat.le_refl _))
  have h3 := (pcn_all hw.1 (hw.sg len (Nat.le_refl _)))
  rcases Nat.lt_or_ge (pcn (sgn K sl len)) c with h | h
  · exact h
  · exact absurd (h3.mp (by omega)) h1
set_option maxHeartbeats 1000000 in
theorem finish_ok {td c len pc tm kd sv : Nat} {σk : SS} {bf pr K sl dy : Nat → Nat} {pe se : Nat → Int32} (hE : CE td σk c len pc tm bf pr K sl dy pe se) (hs : sta c K sl len = 1) (hkd : kd = 3 ∨ kd = 4 ∨ kd = 5) (x3 x4 : Int32)
    (h1 : kd = 3 → x4 = nI sv ∧ sv < c ∧ (sgn K sl len).testBit sv = false ∧ dif (bf sv) (sgn K sl len) = 0 ∧ ∃ q, q < 8 ∧ x3 = nI q ∧ q = pr sv) (h2 : kd = 4 ∨ kd = 5 → x3 = -1 ∧ x4 = -1) :
    ∃ σ', f_X0_finish σk (nI kd) (nI kd) x3 x4 (nI td) = (nI (c - pcn (sgn K sl len)), σ') ∧ CE td σ' c (len + 1) pc tm bf pr (uN K len kd) (uN sl len sv) (uN dy len td) (upd pe len x3) (upd se len x4) ∧ σ' 11 0 = nI kd := by
  obtain ⟨hpc, htm, hH, hw, hc⟩ := hE
  have hlen := sta_pos hs
  have hc0 : 0 < c := (hw.2.2.2.2.1 hlen).1
  have hroom := hw.room hc0 (Or.inr hs)
  have h8 := hw.1
  have hsg := hw.sg len (Nat.le_refl _)
  obtain ⟨c10, c12, c13, c9, cr, ce, c11, c15, c16, c4, c3, c14⟩ := hc
  have h15 : va_up (va_up σk 11 (fun _ => nI kd)) 16 (fun _ => (0 : Int32)) 9 0 = nI len := by rw [up_ne (by decide), up_ne (by decide)]; exact c9
  obtain ⟨a0, a5, a6, a7, a8, a9⟩ := AD_spec h15 (show len < 49 by clear h1 h2; omega) (nI kd) x3 x4 (nI td)
  have ef : f_X0_finish σk (nI kd) (nI kd) x3 x4 (nI td) = (nI (c - pcn (sgn K sl len)), AD (va_up (va_up σk 11 (fun _ => nI kd)) 16 (fun _ => (0 : Int32))) len (nI kd) x3 x4 (nI td)) := by
    unfold f_X0_finish
    simp only [lt]
    show (AD (va_up (va_up σk 11 (fun _ => nI kd)) 16 (fun _ => (0 : Int32))) len (nI kd) x3 x4 (nI td) 10 0 - f_J6_bitCount_0f7a4 (AD (va_up (va_up σk 11 (fun _ => nI kd)) 16 (fun _ => (0 : Int32))) len (nI kd) x3 x4 (nI td) 15 0), AD (va_up (va_up σk 11 (fun _ => nI kd)) 16 (fun _ => (0 : Int32))) len (nI kd) x3 x4 (nI td)) = _
    rw [a0 10 (by decide), a0 15 (by decide), up_ne (by decide), up_ne (by decide), up_ne (by decide), up_ne (by decide), c10, c15, bc_pcn (lt8 hsg h8), nI_sub (pcn_c h8 hsg)]
  have hk0 : ¬ kd = 0 := by clear h1 h2; omega
  have hk1 : ¬ (kd = 1 ∨ kd = 2) := by clear h1 h2; omega
  have hk6 : ¬ kd = 6 := by clear h1 h2; omega
  have cg : ∀ i, i < len → uN K len kd i = K i ∧ uN sl len sv i = sl i := fun i hi => ⟨uN_lt hi, uN_lt hi⟩
  have hl := Nat.le_refl len
  have eS : sgn (uN K len kd) (uN sl len sv) (len + 1) = sgn K sl len := by rw [sgn, uN_eq, if_neg hk1, sgn_cong cg _ hl]
  have eT : sta c (uN K len kd) (uN sl len sv) (len + 1) = kd := by
    rw [sta, uN_eq, if_neg hk0, if_neg hk1, if_neg hk6]
    unfold endS
    rcases hkd with rfl | rfl | rfl <;> rfl
  have eO : opd c bf (uN K len kd) (uN sl len sv) (len + 1) = opd c bf K sl len := by rw [opd, uN_eq, if_neg (by clear h1 h2; omega), opd_cong cg _ hl]
  have eN : ∀ j, ond c bf (uN K len kd) (uN sl len sv) (uN dy len td) (len + 1) j = ond c bf K sl dy len j := fun j => by rw [ond, uN_eq, if_neg (by clear h1 h2; omega), ond_cong cg (fun i hi => uN_lt hi) _ hl]
  have eR : ∀ j, rmd (uN K len kd) (uN sl len sv) (len + 1) j = rmd K sl len j := fun j => by rw [rmd, uN_eq, if_neg (fun q => hk6 q.1), rmd_cong cg _ hl]
  have hw' : Wf td c (len + 1) bf pr (uN K len kd) (uN sl len sv) (uN dy len td) := hw.add hc0 (by clear h1 h2; omega) ⟨fun e => by clear h1 h2; omega, fun e => absurd e hk0⟩ (fun _ => hs) (fun h => by clear h1 h2; omega) (fun h => by clear h1 h2; omega) (Nat.le_refl _) (fun h => by clear h1 h2; omega)
  have hH' : HX c (len + 1) bf pr (uN K len kd) (uN sl len sv) (uN dy len td) (upd pe len x3) (upd se len x4) := hH.add hw.dle (fun h => by
    obtain ⟨b1, b2, b3, b4, q, b5, b6, b7⟩ := h1 (by clear h1 h2; omega)
    exact ⟨b1, b2, b3, b4, q, b5, b6, fun e => by clear h1 h2; omega, fun e => absurd b7 e⟩) (fun h => h2 (by clear h1 h2; omega))
  refine ⟨_, ef, ⟨hpc, htm, hH', hw', ?_⟩, by rw [a0 11 (by decide), up_ne (by decide), up_eq]⟩
  refine ⟨?_, ?_, ?_, a9, fun j hj => ?_, fun i hi => ?_, ?_, ?_, ?_, fun j hj => ?_, fun j hj => ?_, fun _ => ?_⟩
  · rw [a0 10 (by decide), up_ne (by decide), up_ne (by decide)]; exact c10
  · rw [a0 12 (by decide), up_ne (by decide), up_ne (by decide)]; exact c12
  · rw [a0 13 (by decide), up_ne (by decide), up_ne (by decide)]; exact c13
  · rw [a0 0 (by decide), a0 1 (by decide), a0 2 (by decide), up_ne (by decide), up_ne (by decide), up_ne (by decide), up_ne (by decide), up_ne (by decide), up_ne (by decide)]; exact cr j hj
  · rw [a5, a6, a7, a8, up_ne (show (5 : Nat) ≠ 16 by decide), up_ne (show (5 : Nat) ≠ 11 by decide), up_ne (show (6 : Nat) ≠ 16 by decide), up_ne (show (6 : Nat) ≠ 11 by decide), up_ne (show (7 : Nat) ≠ 16 by decide), up_ne (show (7 : Nat) ≠ 11 by decide), up_ne (show (8 : Nat) ≠ 16 by decide), up_ne (show (8 : Nat) ≠ 11 by decide)]
    by_cases e : i = len
    · subst e
      rw [upd_eq, upd_eq, upd_eq, upd_eq, upd_eq, upd_eq, uN_eq, uN_eq]
      exact ⟨rfl, rfl, rfl, rfl⟩
    · rw [upd_ne e, upd_ne e, upd_ne e, upd_ne e, upd_ne e, upd_ne e, uN_lt (by clear h1 h2; omega), uN_lt (by clear h1 h2; omega)]
      exact ce i (by clear h1 h2; omega)
  · rw [a0 11 (by decide), up_ne (by decide), up_eq, eT]
  · rw [a0 15 (by decide), up_ne (by decide), up_ne (by decide), c15, eS]
  · rw [a0 16 (by decide), up_eq, eT, if_neg (by clear h1 h2; omega)]; rfl
  · rw [a0 4 (by decide), up_ne (by decide), up_ne (by decide), c4 j hj, eR]
  · rw [eO] at hj
    rw [a0 3 (by decide), up_ne (by decide), up_ne (by decide), c3 j hj, eN]
  · rw [a0 14 (by decide), up_ne (by decide), up_ne (by decide), c14 hlen, uN_lt hlen]
set_option maxHeartbeats 1000000 in
theorem start_ok {td c pc tm : Nat} {σk : SS} {bf pr K sl dy : Nat → Nat} {pe se : Nat → Int32} (hE : CE td σk c 0 pc tm bf pr K sl dy pe se) (hc0 : 0 < c) :
    ∃ (w : Nat) (σ' : SS), f_X0_start σk (nI td) = some (nI w, σ') ∧ 0 < w ∧ w ≤ 8 ∧ CE td σ' c 1 pc tm bf pr (uN K 0 0) (uN sl 0 0) (uN dy 0 td) (upd pe 0 (-1)) (upd se 0 (-1)) ∧ σ' 11 0 = 1 := by
  obtain ⟨hpc, htm, hH, hw, hc⟩ := hE
  have h8 := hw.1
  obtain ⟨c10, c12, c13, c9, cr, ce, c11, c15, c16, c4, c3, c14⟩ := hc
  have hw' : Wf td c (0 + 1) bf pr (uN K 0 0) (uN sl 0 0) (uN dy 0 td) := hw.add hc0 (by omega) ⟨fun _ => rfl, fun _ => rfl⟩ (fun h => absurd h (by omega)) (fun h => by omega) (fun h => by omega) (Nat.le_refl _) (fun h => by omega)
  have hH' : HX c (0 + 1) bf pr (uN K 0 0) (uN sl 0 0) (uN dy 0 td) (upd pe 0 (-1)) (upd se 0 (-1)) := hH.add (fun i hi => absurd hi (by omega)) (fun h => by omega) (fun _ => ⟨rfl, rfl⟩)
  have eS : sgn (uN K 0 0) (uN sl 0 0) (0 + 1) = 0 := by rw [sgn, uN_eq, if_neg (by omega)]; rfl
  have eT : sta c (uN K 0 0) (uN sl 0 0) (0 + 1) = 1 := by rw [sta, uN_eq, if_pos rfl]
  have h9 : va_up (va_up σk 11 (fun _ => (1 : Int32))) 14 (fun _ => nI td) 9 0 = nI 0 := by rw [up_ne (by decide), up_ne (by decide)]; exact c9
  obtain ⟨a0, a5, a6, a7, a8, a9⟩ := AD_spec h9 (show 0 < 49 by omega) (nI 0) (-1) (-1) (nI td)
  rw [up_ne (by decide), up_ne (by decide)] at a5 a6 a7 a8
  have g : ∀ x, x < 5 ∨ 9 < x → x ≠ 14 → x ≠ 11 → AD (va_up (va_up σk 11 (fun _ => (1 : Int32))) 14 (fun _ => nI td)) 0 (nI 0) (-1) (-1) (nI td) x = σk x := fun x h1 h2 h3 => by rw [a0 x h1, up_ne h2, up_ne h3]
  obtain ⟨σ', o1, o2⟩ := open_both (c := c) (len := 0) (pc := pc) (tm := tm) (pr := pr) (K := uN K 0 0) (sl := uN sl 0 0) (dy := uN dy 0 td) (pe := upd pe 0 (-1)) (se := upd se 0 (-1)) h8 hw.b8 (by rw [uN_eq]; exact Or.inl rfl) (fun j hj => by rw [eS, Nat.zero_testBit] at hj; cases hj) (Or.inl eT) (hw'.op 1 (Nat.le_refl _))
    (by rw [g 10 (by decide) (by decide) (by decide)]; exact c10) (by rw [g 12 (by decide) (by decide) (by decide)]; exact c12) (by rw [g 13 (by decide) (by decide) (by decide)]; exact c13) a9 (fun j hj => by rw [g 0 (by decide) (by decide) (by decide), g 1 (by decide) (by decide) (by decide), g 2 (by decide) (by decide) (by decide)]; exact cr j hj) (cls_ev 0 0 td (-1) (-1) a5 a6 a7 a8 ce)
    (by rw [a0 11 (by decide), up_ne (by decide), up_eq, eT]; rfl) (by rw [g 15 (by decide) (by decide) (by decide), eS]; exact c15) (by rw [g 16 (by decide) (by decide) (by decide), eS]; exact c16.trans (by rw [sta, if_neg (by decide), opd, show dif 0 0 = 0 by decide])) (fun j hj => by rw [g 4 (by decide) (by decide) (by decide), rmd, uN_eq, if_neg (by omega)]; exact c4 j hj) (fun j hj => by rw [opd, Nat.zero_testBit] at hj; cases hj) (by rw [a0 14 (by decide), up_eq, uN_eq])
  rw [uN_eq, eS] at o1
  have hlt := dif_lt (b := dif (opd c bf (uN K 0 0) (uN sl 0 0) 0) 0) (dif_lt (b := 0) (rdy_lt bf 0 c))
  have hb0 : (dif (dif (rdy bf 0 c) 0) (dif (opd c bf (uN K 0 0) (uN sl 0 0) 0) 0)).testBit 0 = true := by
    rw [dif_bit, dif_bit, dif_bit, opd, Nat.zero_testBit, rdy_bit]
    have hb := (hw.2.2.1 0 hc0).1
    have : bf 0 = 0 := by simpa using hb
    rw [this]
    simp [hc0, show dif 0 0 = 0 by decide]
  refine ⟨pcn (dif (dif (rdy bf 0 c) 0) (dif (opd c bf (uN K 0 0) (uN sl 0 0) 0) 0)), σ', ?_, ?_, pcn_le _, ⟨hpc, htm, hH', hw', o2⟩, by rw [o2.2.2.2.2.2.2.1, eT]; rfl⟩
  · unfold f_X0_start
    simp only [lt]
    show (f_X0_openNext (AD (va_up (va_up σk 11 (fun _ => (1 : Int32))) 14 (fun _ => nI td)) 0 (nI 0) (-1) (-1) (nI td)) (nI td)).bind _ = _
    rw [o1]
    rfl
  · unfold pcn
    rw [hb0]
    show 0 < 1 + _ + _ + _ + _ + _ + _ + _
    omega
set_option maxHeartbeats 1000000 in
theorem mark_ok {td c len pc tm kd j q : Nat} {σk : SS} {bf pr K sl dy : Nat → Nat} {pe se : Nat → Int32} (hE : CE td σk c len pc tm bf pr K sl dy pe se) (hs : sta c K sl len = 1) (hkd : kd = 1 ∨ kd = 2) (hj : (dif (opd c bf K sl len) (sgn K sl len)).testBit j = true) (hq : q < 8) (hqp : kd = 2 ↔ q ≠ pr j) :
    ∃ (w : Nat) (σ' : SS), f_X0_mark σk (nI kd) (nI q) (nI j) (nI td) = some (nI w, σ') ∧ w ≤ 8 ∧ j < c ∧ CE td σ' c (len + 1) pc tm bf pr (uN K len kd) (uN sl len j) (uN dy len td) (upd pe len (nI q)) (upd se len (nI j)) ∧ sgn (uN K len kd) (uN sl len j) (len + 1) = sgn K sl len ||| 2 ^ j := by
  obtain ⟨hpc, htm, hH, hw, hc⟩ := hE
  have h8 := hw.1
  have hl := Nat.le_refl len
  have hlen := sta_pos hs
  have hc0 : 0 < c := (hw.2.2.2.2.1 hlen).1
  have hroom := hw.room hc0 (Or.inr hs)
  have hK0 : K 0 = 0 := ((hw.2.2.2.1 0 hlen).2.2.1).mp rfl
  obtain ⟨c10, c12, c13, c9, cr, ce, c11, c15, c16, c4, c3, c14⟩ := hc
  rw [dif_bit] at hj
  have hjo : (opd c bf K sl len).testBit j = true := by
    cases h : (opd c bf K sl len).testBit j with
    | true => rfl
    | false => rw [h] at hj; cases hj
  have hjs : (sgn K sl len).testBit j = false := by
    cases h : (sgn K sl len).testBit j with
    | false => rfl
    | true => rw [h] at hj; simp at hj
  have hjr := hjo
  rw [opd_rdy hK0 len hlen, rdy_bit] at hjr
  have hjc : j < c := by
    by_cases h : j < c
    · exact h
    · simp [h] at hjr
  have hjd : dif (bf j) (sgn K sl len) = 0 := by
    by_cases h : dif (bf j) (sgn K sl len) = 0
    · exact h
    · simp [h] at hjr
  have hk0 : ¬ kd = 0 := by omega
  have hk6 : ¬ kd = 6 := by omega
  have hkd3 : kd = 0 ∨ kd = 1 ∨ kd = 2 := Or.inr hkd
  have cg : ∀ i, i < len → uN K len kd i = K i ∧ uN sl len j i = sl i := fun i hi => ⟨uN_lt hi, uN_lt hi⟩
  have hw' : Wf td c (len + 1) bf pr (uN K len kd) (uN sl len j) (uN dy len td) := hw.add hc0 (by omega) ⟨fun e => by omega, fun e => absurd e hk0⟩ (fun _ => hs) (fun _ => ⟨hjc, hjs⟩) (fun _ => hjd) (Nat.le_refl _) (fun h => absurd h hk6)
  have hH' : HX c (len + 1) bf pr (uN K len kd) (uN sl len j) (uN dy len td) (upd pe len (nI q)) (upd se len (nI j)) := hH.add hw.dle (fun _ => ⟨rfl, hjc, hjs, hjd, q, hq, rfl, hqp⟩) (fun h => by omega)
  have eS0 := sgn_cong cg len hl
  have eO0 := opd_cong (c := c) (bf := bf) cg len hl
  have eS : sgn (uN K len kd) (uN sl len j) (len + 1) = sgn K sl len ||| 2 ^ j := by rw [sgn, uN_eq, uN_eq, if_pos hkd, eS0]
  have hsg' : sgn K sl len ||| 2 ^ j < 2 ^ c := by rw [← eS]; exact hw'.sg (len + 1) (Nat.le_refl _)
  have eT : sta c (uN K len kd) (uN sl len j) (len + 1) = if sgn K sl len ||| 2 ^ j = 2 ^ c - 1 then 2 else 1 := by rw [sta, uN_eq, if_neg hk0, if_pos hkd, eS]
  have hst : sta c (uN K len kd) (uN sl len j) (len + 1) = 1 ∨ sta c (uN K len kd) (uN sl len j) (len + 1) = 2 := by
    rw [eT]
    split
    · exact Or.inr rfl
    · exact Or.inl rfl
  have eO : opd c bf (uN K len kd) (uN sl len j) (len + 1) = opd c bf K sl len ||| rdy bf (sgn K sl len ||| 2 ^ j) c := by rw [opd, uN_eq, if_pos hkd3, eS, eO0]
  have e9 : (va_up (va_up σk 15 (fun _ => nI (sgn K sl len ||| 2 ^ j))) 16 (fun _ => nI (dif (opd c bf K sl len) (sgn K sl len ||| 2 ^ j))) : SS) 9 0 = nI len := by rw [up_ne (by decide), up_ne (by decide)]; exact c9
  obtain ⟨a0, a5, a6, a7, a8, a9⟩ := AD_spec e9 (show len < 49 by omega) (nI kd) (nI q) (nI j) (nI td)
  rw [up_ne (by decide), up_ne (by decide)] at a5 a6 a7 a8
  generalize hσ : AD (va_up (va_up σk 15 (fun _ => nI (sgn K sl len ||| 2 ^ j))) 16 (fun _ => nI (dif (opd c bf K sl len) (sgn K sl len ||| 2 ^ j)))) len (nI kd) (nI q) (nI j) (nI td) = σ3 at a0 a5 a6 a7 a8 a9
  have g : ∀ x, x < 5 ∨ 9 < x → x ≠ 15 → x ≠ 16 → σ3 x = σk x := fun x h1 h2 h3 => by rw [a0 x h1, up_ne h3, up_ne h2]
  have g15 : σ3 15 0 = nI (sgn K sl len ||| 2 ^ j) := by rw [a0 15 (by decide), up_ne (by decide), up_eq]
  have g16 : σ3 16 0 = nI (dif (opd c bf K sl len) (sgn K sl len ||| 2 ^ j)) := by rw [a0 16 (by decide), up_eq]
  have hob : ∀ σ4 : SS, (∀ x, x ≠ 11 → σ4 x = σ3 x) → σ4 11 0 = nI (sta c (uN K len kd) (uN sl len j) (len + 1)) → ∃ σ', f_X0_openNext σ4 (nI td) = some (nI (pcn (dif (dif (rdy bf (sgn K sl len ||| 2 ^ j) c) (sgn K sl len ||| 2 ^ j)) (dif (opd c bf K sl len) (sgn K sl len ||| 2 ^ j)))), σ') ∧ ClsE σ' c (len + 1) pc tm bf pr (uN K len kd) (uN sl len j) (uN dy len td) (upd pe len (nI q)) (upd se len (nI j)) := by
    intro σ4 h4 h11
    obtain ⟨σ', o1, o2⟩ := open_both (σ1 := σ4) (c := c) (len := len) (pc := pc) (tm := tm) (bf := bf) (pr := pr) (K := uN K len kd) (sl := uN sl len j) (dy := uN dy len td) (pe := upd pe len (nI q)) (se := upd se len (nI j)) h8 hw.b8 (by rw [uN_eq]; exact hkd3)
      (fun r hr => by
        rw [eS, Nat.testBit_or, two_bit] at hr
        rw [eO0]
        cases hb : (sgn K sl len).testBit r with
        | true => rw [opd_rdy hK0 len hlen]; exact sg_rdy hw len hl r hb
        | false =>
          rw [hb] at hr
          have : j = r := by simpa using hr
          subst this
          exact hjo) hst (hw'.op (len + 1) (Nat.le_refl _))
      (by rw [h4 10 (by decide), g 10 (by decide) (by decide) (by decide)]; exact c10) (by rw [h4 12 (by decide), g 12 (by decide) (by decide) (by decide)]; exact c12) (by rw [h4 13 (by decide), g 13 (by decide) (by decide) (by decide)]; exact c13) (by rw [h4 9 (by decide)]; exact a9) (fun q hq => by rw [h4 0 (by decide), h4 1 (by decide), h4 2 (by decide), g 0 (by decide) (by decide) (by decide), g 1 (by decide) (by decide) (by decide), g 2 (by decide) (by decide) (by decide)]; exact cr q hq)
      (cls_ev (σ := σk) kd j td (nI q) (nI j) (by rw [h4 5 (by decide)]; exact a5) (by rw [h4 6 (by decide)]; exact a6) (by rw [h4 7 (by decide)]; exact a7) (by rw [h4 8 (by decide)]; exact a8) ce)
      h11 (by rw [h4 15 (by decide), eS]; exact g15) (by rw [h4 16 (by decide), eS, eO0]; exact g16)
      (fun q hq => by rw [h4 4 (by decide), g 4 (by decide) (by decide) (by decide), rmd, uN_eq, if_neg (fun h => hk6 h.1), rmd_cong cg _ hl]; exact c4 q hq)
      (fun q hq => by rw [eO0] at hq; rw [h4 3 (by decide), g 3 (by decide) (by decide) (by decide), ond_cong cg (fun i hi => uN_lt hi) _ hl]; exact c3 q hq)
      (by rw [h4 14 (by decide), g 14 (by decide) (by decide) (by decide), uN_lt hlen]; exact c14 hlen)
    rw [uN_eq, eS, eO0] at o1
    exact ⟨σ', o1, o2⟩
  have e4 : f_X0_mark σk (nI kd) (nI q) (nI j) (nI td) = if σ3 15 0 = f_X0_allSlots σ3 then f_X0_openNext (va_up σ3 11 (fun _ => (2 : Int32))) (nI td) else f_X0_openNext σ3 (nI td) := by
    have hbit : nI (if sta c K sl len = 1 then dif (opd c bf K sl len) (sgn K sl len) else 0) &&& (nI (2 ^ j) ^^^ (-1 : Int32)) = nI (dif (opd c bf K sl len) (sgn K sl len ||| 2 ^ j)) := by
      rw [if_pos hs, i_dif]
      congr 1
      apply nat_ext
      intro r
      rw [dif_bit, dif_bit, dif_bit, Nat.testBit_or]
      cases (opd c bf K sl len).testBit r <;> cases (sgn K sl len).testBit r <;> cases (2 ^ j).testBit r <;> rfl
    unfold f_X0_mark
    simp only [lt, i_one (show j < 32 by omega), up_ne (show (16 : Nat) ≠ 15 by decide), c15, c16, fa_or, hbit]
    have hσ' := hσ
    unfold AD at hσ'
    rw [hσ']
    by_cases h : σ3 15 0 = f_X0_allSlots σ3
    · rw [if_pos h, if_pos h]
      cases f_X0_openNext (va_up σ3 11 (fun _ => (2 : Int32))) (nI td) <;> rfl
    · rw [if_neg h, if_neg h]
      cases f_X0_openNext σ3 (nI td) <;> rfl
  have ecl : ∃ σ', f_X0_mark σk (nI kd) (nI q) (nI j) (nI td) = some (nI (pcn (dif (dif (rdy bf (sgn K sl len ||| 2 ^ j) c) (sgn K sl len ||| 2 ^ j)) (dif (opd c bf K sl len) (sgn K sl len ||| 2 ^ j)))), σ') ∧ ClsE σ' c (len + 1) pc tm bf pr (uN K len kd) (uN sl len j) (uN dy len td) (upd pe len (nI q)) (upd se len (nI j)) := by
    have c256 := pu_p8 h8
    have hall : f_X0_allSlots σ3 = nI (2 ^ c - 1) := by unfold f_X0_allSlots; rw [g 10 (by decide) (by decide) (by decide), c10, i_all h8]
    rw [e4, g15, hall]
    by_cases he : sgn K sl len ||| 2 ^ j = 2 ^ c - 1
    · rw [if_pos (by rw [he])]
      exact hob _ (fun x hx => up_ne hx) (by rw [up_eq, eT, if_pos he]; rfl)
    · rw [if_neg (fun e => he ((nI_eq (by omega) (by omega)).mp e))]
      exact hob _ (fun x hx => rfl) (by rw [g 11 (by decide) (by decide) (by decide), c11, hs, eT, if_neg he])
  obtain ⟨σ', m1, m2⟩ := ecl
  exact ⟨_, σ', m1, pcn_le _, hjc, ⟨hpc, htm, hH', hw', m2⟩, eS⟩
theorem append_ok {td c pc tm p b : Nat} {σ : SS} {bf pr K sl dy : Nat → Nat} {pe se : Nat → Int32} (hE : CE td σ c 0 pc tm bf pr K sl dy pe se) (hc : c < 8) (hp : p < 8) (hb : b < 2 ^ c) :
    ∃ σ', f_X0_append σ (nI p) (nI b) = some σ' ∧ CE td σ' (c + 1) 0 pc tm (uN bf c b) (uN pr c p) K sl dy pe se := by
  obtain ⟨hpc, htm, hH, hw, hcl⟩ := hE
  obtain ⟨c10, c12, c13, c9, cr, ce, c11, c15, c16, c4, c3, c14⟩ := hcl
  obtain ⟨z, hz⟩ := append_loop (σ := σ) (b := b) (r := rl bf c) (nI p) (by omega) c10 (fun j hj => (cr j hj).2.2) (fun s => by have := rl_le bf c s; omega) c 0 (by omega) FU (by unfold FU; omega)
  have hz : f_X0_append_5 FU σ (nI p) (nI b) 0 0 = some (nI (mxr (rl bf c) b c), z) := hz
  refine ⟨va_up (va_up (va_up (va_up σ 0 (upd (σ 0) c (nI p))) 1 (upd (σ 1) c (nI b))) 2 (upd (σ 2) c (nI (mxr (rl bf c) b c)))) 10 (fun _ => nI (c + 1)), ?_, ?_⟩
  · unfold f_X0_append
    rw [hz, Option.bind_some]
    simp only [lt, up_ne (show (1 : Nat) ≠ 0 by decide), up_ne (show (2 : Nat) ≠ 0 by decide), up_ne (show (2 : Nat) ≠ 1 by decide), up_ne (show (10 : Nat) ≠ 0 by decide), up_ne (show (10 : Nat) ≠ 1 by decide), up_ne (show (10 : Nat) ≠ 2 by decide), c10, rs9 hc (show 8 < 2 ^ 31 by decide), s1]
  · generalize hσ : (va_up (va_up (va_up (va_up σ 0 (upd (σ 0) c (nI p))) 1 (upd (σ 1) c (nI b))) 2 (upd (σ 2) c (nI (mxr (rl bf c) b c)))) 10 (fun _ => nI (c + 1)) : SS) = σ'
    have g : ∀ x, x ≠ 0 → x ≠ 1 → x ≠ 2 → x ≠ 10 → σ' x = σ x := fun x a1 a2 a3 a4 => by rw [← hσ, up_ne a4, up_ne a3, up_ne a2, up_ne a1]
    have g0 : σ' 0 = upd (σ 0) c (nI p) := by rw [← hσ, up_ne (by decide), up_ne (by decide), up_ne (by decide), up_eq]
    have g1 : σ' 1 = upd (σ 1) c (nI b) := by rw [← hσ, up_ne (by decide), up_ne (by decide), up_eq]
    have g2 : σ' 2 = upd (σ 2) c (nI (mxr (rl bf c) b c)) := by rw [← hσ, up_ne (by decide), up_eq]
    have g10 : σ' 10 0 = nI (c + 1) := by rw [← hσ, up_eq]
    have er : rl (uN bf c b) c = rl bf c := rl_cong c (fun j hj => uN_lt hj)
    refine ⟨hpc, htm, ⟨fun i hi => absurd hi (by omega), fun i hi => absurd hi (by omega), fun i hi => absurd hi (by omega)⟩, ⟨by omega, by omega, fun j hj => ?_, fun i hi => absurd hi (by omega), fun h => absurd h (by omega), fun j => Nat.zero_le _⟩, ⟨g10, ?_, ?_, ?_, fun j hj => ?_, fun i hi => absurd hi (by omega), ?_, ?_, ?_, fun j hj => ?_, fun j hj => ?_, fun h => absurd h (by omega)⟩⟩
    · by_cases e : j = c
      · subst e
        rw [uN_eq, uN_eq]
        exact ⟨hb, hp⟩
      · rw [uN_lt (by omega), uN_lt (by omega)]
        exact hw.2.2.1 j (by omega)
    · rw [g 12 (by decide) (by decide) (by decide) (by decide)]; exact c12
    · rw [g 13 (by decide) (by decide) (by decide) (by decide)]; exact c13
    · rw [g 9 (by decide) (by decide) (by decide) (by decide)]; exact c9
    · rw [g0, g1, g2, rl, er]
      by_cases e : j = c
      · subst e
        rw [upd_eq, upd_eq, upd_eq, uN_eq, uN_eq, if_pos rfl]
        exact ⟨rfl, rfl, rfl⟩
      · rw [upd_ne e, upd_ne e, upd_ne e, uN_lt (by omega), uN_lt (by omega), if_neg e]
        exact cr j (by omega)
    · rw [g 11 (by decide) (by decide) (by decide) (by decide)]; exact c11
    · rw [g 15 (by decide) (by decide) (by decide) (by decide)]; exact c15
    · rw [g 16 (by decide) (by decide) (by decide) (by decide), c16]; rfl
    · rw [g 4 (by decide) (by decide) (by decide) (by decide)]; exact c4 j hj
    · rw [opd, Nat.zero_testBit] at hj
      cases hj
end
