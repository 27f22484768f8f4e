/-! The law's look at people; how many orders there are -/
section
def DS (t : Nat) (σ0 : SS) : Prop := ∀ p, p < 8 → (σ0 (3 + p) 0 = -1 ∨ ∃ r, r < 8 ∧ r ≠ p ∧ σ0 (3 + p) 0 = nI r) ∧ ∃ x, x ≤ t ∧ σ0 (3 + p) 4 = nI x
theorem other_cases {t p : Nat} {σ0 : SS} (h : DS t σ0) (hp : p < 8) (x : Int32) : f_X3_otherOn (ds σ0 p) x = -1 ∨ ∃ r, r < 8 ∧ r ≠ p ∧ f_X3_otherOn (ds σ0 p) x = nI r := by
  have h0 : ds σ0 p 0 0 = σ0 (3 + p) 0 := rfl
  unfold f_X3_otherOn
  split
  · exact Or.inl rfl
  · split
    · exact Or.inl rfl
    · rw [h0]; exact (h p hp).1
theorem nI_add0 (a : Nat) : nI a + (0 : Int32) = nI a := Int32.add_zero _
theorem pe23 {td e c len pc tm p A : Nat} {d : Dk} {bf pr K sl dy : Nat → Nat} {pe se : Nat → Int32} (hd : DK td d) (he : e < d.1) (hE : CE td (d.2.2 e) c len pc tm bf pr K sl dy pe se) (hp : p < 8) (r2 : Int32 → Option Int32) (r12 : Int32 → Int32 → Int32 → Option Int32) :
    ∀ (m j : Nat), j + m = c → ∀ fu, m < fu → f_L_people_23 d r2 r12 fu (nI p) (nI (A + smj (rz d.2.1 d.2.2 p e) j)) (nI e) (nI j) = r12 (nI p) (nI (A + smj (rz d.2.1 d.2.2 p e) c)) (nI (e + 1)) := by
  have h8 := hE.2.2.2.1.1
  intro m
  induction m with
  | zero =>
    intro j hj fu hfu
    obtain ⟨fu, rfl⟩ : ∃ g, fu = g + 1 := ⟨fu - 1, by omega⟩
    obtain rfl : j = c := by omega
    rw [f_L_people_23, (v_slots hd.1 he hE).1, Option.bind_some, if_pos (nI_le (Nat.le_refl _) (by omega)), s1]
  | succ m ih =>
    intro j hj fu hfu
    obtain ⟨fu, rfl⟩ : ∃ g, fu = g + 1 := ⟨fu - 1, by omega⟩
    have hjc : j < c := by omega
    have hle := rsn_le (σ0 := d.2.1) (td := td) (c := c) (bf := bf) (pr := pr) (K := K) (sl := sl) (len := len) (p := p) (j := j)
    have ez := rz_eq hd.2.1 hE hp hjc
    have es : smj (rz d.2.1 d.2.2 p e) (j + 1) = smj (rz d.2.1 d.2.2 p e) j + rz d.2.1 d.2.2 p e j := rfl
    have ih := ih (j + 1) (by omega) fu (by omega)
    rw [f_L_people_23, (v_slots hd.1 he hE).1, Option.bind_some, if_neg (nI_ge hjc (by omega)), (v_why hd.1 he hd.2.1 hE hp hjc).1, Option.bind_some, s1, s1, nI_add0]
    by_cases h : rsn d.2.1 td c bf pr K sl len p j < 2
    · rw [if_neg (show ¬ (2 : Int32) ≤ nI (rsn d.2.1 td c bf pr K sl len p j) from nI_ge (b := 2) h (by decide))]
      rw [if_pos h] at ez
      rw [es, ez] at ih
      exact ih
    · rw [if_pos (show (2 : Int32) ≤ nI (rsn d.2.1 td c bf pr K sl len p j) from nI_le (a := 2) (by omega) (by omega))]
      rw [if_neg h] at ez
      rw [es, ez] at ih
      exact ih
theorem pe12 {td p : Nat} {d : Dk} (hd : DK td d) (hp : p < 8) (r2 : Int32 → Option Int32) :
    ∀ (m e : Nat), e + m = d.1 → ∀ fu, m < fu → f_L_people_12 d r2 fu (nI p) (nI (tsn d.2.1 d.2.2 p e)) (nI e) = f_L_people_65 d r2 (nI p) (nI (tsn d.2.1 d.2.2 p d.1)) := by
  have hn := hd.1
  intro m
  induction m with
  | zero =>
    intro e he fu hfu
    obtain ⟨fu, rfl⟩ : ∃ g, fu = g + 1 := ⟨fu - 1, by omega⟩
    obtain rfl : e = d.1 := by omega
    rw [f_L_people_12, v_envelopes d hn, Option.bind_some, if_pos (nI_le (Nat.le_refl _) (by omega))]
  | succ m ih =>
    intro e he fu hfu
    obtain ⟨fu, rfl⟩ : ∃ g, fu = g + 1 := ⟨fu - 1, by omega⟩
    obtain ⟨c, len, pc, tm, bf, pr, K, sl, dy, pe, se, hc⟩ := hd.2.2 e (by omega)
    have h8 := hc.2.2.2.1.1
    have hz := pe23 (A := tsn d.2.1 d.2.2 p e) hd (show e < d.1 by omega) hc hp r2 (f_L_people_12 d r2 fu) c 0 (by omega) FU (by unfold FU; omega)
    have hz : f_L_people_23 d r2 (f_L_people_12 d r2 fu) FU (nI p) (nI (tsn d.2.1 d.2.2 p e)) (nI e) 0 = f_L_people_12 d r2 fu (nI p) (nI (tsn d.2.1 d.2.2 p e + smj (rz d.2.1 d.2.2 p e) c)) (nI (e + 1)) := hz
    have et : tsn d.2.1 d.2.2 p (e + 1) = tsn d.2.1 d.2.2 p e + smj (rz d.2.1 d.2.2 p e) c := by
      show tsn d.2.1 d.2.2 p e + smj (rz d.2.1 d.2.2 p e) (cz d.2.2 e) = _
      rw [cz_eq hc]
    rw [f_L_people_12, v_envelopes d hn, Option.bind_some, if_neg (nI_ge (by omega) (by omega)), hz, ← et]
    exact ih (e + 1) (by omega) fu (by omega)
theorem pe2 {td t : Nat} {d : Dk} (hd : DK td d) (hS : DS t d.2.1) (ht : t < 2 ^ 30) :
    ∀ (m p : Nat), p + m = 8 → ∀ fu, m < fu → f_L_people_2 d fu (nI p) = some 1 := by
  have hn := hd.1
  intro m
  induction m with
  | zero =>
    intro p hp fu hfu
    obtain ⟨fu, rfl⟩ : ∃ g, fu = g + 1 := ⟨fu - 1, by omega⟩
    obtain rfl : p = 8 := by omega
    rw [f_L_people_2, if_pos (show (8 : Int32) ≤ nI 8 by decide)]
    have e1 : gm_toSign d 8 = some (-1000001) := by
      unfold gm_toSign f_X4_toSign
      rw [if_pos hn, show f_X4_refuseNoPerson 8 = some (.inl IOB) from by decide]
      rfl
    have e2 : gm_delegateToday d (-1) = some (-1000001) := by
      unfold gm_delegateToday f_X4_delegateToday
      rw [if_pos hn, show f_X4_standinOf (-1) = some (.inl IOB) from by decide]
      rfl
    have e3 : gm_signedFor d 8 = some (-1000001) := by
      unfold gm_signedFor f_X4_signedFor
      rw [if_pos hn, show f_X4_standinOf 8 = some (.inl IOB) from by decide]
      rfl
    unfold f_L_people_112
    rw [e1, Option.bind_some, if_pos rfl, e2, Option.bind_some, if_pos rfl, e3, Option.bind_some, if_pos rfl]
  | succ m ih =>
    intro p hp fu hfu
    obtain ⟨fu, rfl⟩ : ∃ g, fu = g + 1 := ⟨fu - 1, by omega⟩
    have hp8 : p < 8 := by omega
    obtain ⟨x, hx, ex⟩ := (hS p hp8).2
    have h12 := pe12 hd hp8 (f_L_people_2 d fu) d.1 0 (by omega) FU (by unfold FU; omega)
    have h12 : f_L_people_12 d (f_L_people_2 d fu) FU (nI p) 0 0 = f_L_people_65 d (f_L_people_2 d fu) (nI p) (nI (tsn d.2.1 d.2.2 p d.1)) := h12
    rw [f_L_people_2, if_neg (show ¬ (8 : Int32) ≤ nI p from nI_ge (b := 8) hp8 (by decide)), h12]
    unfold f_L_people_65
    rw [(v_delT hn hd.2.1 hp8).1, Option.bind_some, v_toSign hd hp8, Option.bind_some, if_pos rfl, (v_sgF hn hp8).1, Option.bind_some, ex, if_neg (nI_pos (by omega)), s1]
    have ih := ih (p + 1) (by omega) fu (by omega)
    rcases other_cases hS hp8 (nI td) with e | ⟨r, hr, hrp, e⟩
    · rw [e, if_neg (by decide), if_neg (by decide), if_neg (fun q => nI_m1 (N := p) (by omega) q.symm)]
      exact ih
    · rw [e, if_neg (show ¬ nI r < -1 from (by decide +kernel : ∀ r, r < 8 → ¬ nI r < -1) r hr), if_neg (show ¬ (7 : Int32) < nI r from (by decide +kernel : ∀ r, r < 8 → ¬ (7 : Int32) < nI r) r hr), if_neg (fun q => hrp ((nI_eq (by omega) (by omega)).mp q))]
      exact ih
theorem people_ok {td t : Nat} {d : Dk} (hd : DK td d) (hS : DS t d.2.1) (ht : t < 2 ^ 30) : f_L_people d = some 1 := by
  unfold f_L_people
  exact pe2 hd hS ht 8 0 (by omega) FU (by unfold FU; omega)
/-! orders, as numbers -/
theorem sum_fr {bf : Nat → Nat} {c fr : Nat} (hc : c ≤ 8) : ∀ m, fr + m ≤ 2 ^ c - 1 → smj (fun x => if fr + m ≤ x then dp bf c fr (fr + m) x * TT bf c x else 0) (2 ^ c) = TT bf c fr
  | 0, h => by
    have hpos := Nat.two_pow_pos c
    rw [smj_point (f := fun _ => 0) (p := fr) (v := TT bf c fr) ?_ (fun x hx => ?_) _ (by omega), smj_0, Nat.zero_add]
    · show (if fr ≤ fr then dp bf c fr fr fr * TT bf c fr else 0) = 0 + TT bf c fr
      rw [if_pos (Nat.le_refl _), dp_pre fr (Nat.le_refl _), dp]
      show (if fr = fr then 1 else 0) * TT bf c fr = _
      rw [if_pos rfl, Nat.one_mul, Nat.zero_add]
    · show (if fr ≤ x then dp bf c fr fr x * TT bf c x else 0) = 0
      rw [dp_pre fr (Nat.le_refl _), dp]
      show (if fr ≤ x then (if x = fr then 1 else 0) * TT bf c x else 0) = 0
      rw [if_neg hx, Nat.zero_mul, ite_self]
  | m + 1, h => by
    have ih := sum_fr (bf := bf) (fr := fr) hc m (by omega)
    generalize hs0 : fr + m = s at ih
    have hs1 : fr + (m + 1) = s + 1 := by omega
    rw [hs1] at h ⊢
    have hpos := Nat.two_pow_pos c
    have hs : s < 2 ^ c := by omega
    have h1 := sum_in (bf := bf) (A := dp bf c fr s) hs c (Nat.le_refl _)
    rw [← TT_step hc hs (by omega)] at h1
    have h2 : smj (fun x => if s ≤ x then dp bf c fr s x * TT bf c x else 0) (2 ^ c) = smj (fun x => if s < x then dp bf c fr s x * TT bf c x else 0) (2 ^ c) + dp bf c fr s s * TT bf c s := by
      refine smj_point (p := s) ?_ (fun x hx => ?_) _ hs
      · show (if s ≤ s then dp bf c fr s s * TT bf c s else 0) = (if s < s then dp bf c fr s s * TT bf c s else 0) + dp bf c fr s s * TT bf c s
        rw [if_pos (Nat.le_refl _), if_neg (Nat.lt_irrefl _), Nat.zero_add]
      · show (if s ≤ x then dp bf c fr s x * TT bf c x else 0) = (if s < x then dp bf c fr s x * TT bf c x else 0)
        by_cases e : s < x
        · rw [if_pos (by omega), if_pos e]
        · rw [if_neg (by omega), if_neg e]
    rw [← ih, h2, ← h1]
    refine smj_cong _ (fun x _ => ?_)
    show (if s + 1 ≤ x then dp bf c fr (s + 1) x * TT bf c x else 0) = (if s < x then stp bf s (dp bf c fr s) c x * TT bf c x else 0)
    rfl
theorem left_eq {bf : Nat → Nat} {c fr : Nat} (hc : c ≤ 8) (hfr : fr < 2 ^ c) : dp bf c fr (2 ^ c - 1) (2 ^ c - 1) = TT bf c fr := by
  have hpos := Nat.two_pow_pos c
  have h := sum_fr (bf := bf) (fr := fr) hc (2 ^ c - 1 - fr) (by omega)
  rw [show fr + (2 ^ c - 1 - fr) = 2 ^ c - 1 by omega] at h
  have h1 : TT bf c (2 ^ c - 1) = 1 := by
    unfold TT
    rw [(pcn_all hc (show 2 ^ c - 1 < 2 ^ c by omega)).mpr rfl, Nat.sub_self, tr]
  have h2 : smj (fun x => if 2 ^ c - 1 ≤ x then dp bf c fr (2 ^ c - 1) x * TT bf c x else 0) (2 ^ c) = smj (fun x => if x = 2 ^ c - 1 then dp bf c fr (2 ^ c - 1) (2 ^ c - 1) else 0) (2 ^ c) := by
    refine smj_cong _ (fun x hx => ?_)
    by_cases e : x = 2 ^ c - 1
    · rw [e, if_pos (Nat.le_refl _), if_pos rfl, h1, Nat.mul_one]
    · rw [if_neg (by omega), if_neg e]
  have h3 : smj (fun x => if x = 2 ^ c - 1 then dp bf c fr (2 ^ c - 1) (2 ^ c - 1) else 0) (2 ^ c) = smj (fun _ => 0) (2 ^ c) + dp bf c fr (2 ^ c - 1) (2 ^ c - 1) := smj_point (p := 2 ^ c - 1) (by rw [if_pos rfl, Nat.zero_add]) (fun x hx => if_neg hx) _ (by omega)
  rw [h2, h3, smj_0, Nat.zero_add] at h
  exact h
def fct : Nat → Nat
  | 0 => 1
  | m + 1 => (m + 1) * fct m
theorem smj_ge {f : Nat → Nat} {k : Nat} : ∀ n, k < n → f k ≤ smj f n
  | 0, h => absurd h (by omega)
  | n + 1, h => by
    rw [smj]
    by_cases e : k = n
    · subst e; omega
    · have := smj_ge (f := f) (k := k) n (by omega); omega
theorem smj_mono {f g : Nat → Nat} : ∀ n, (∀ k, k < n → f k ≤ g k) → smj f n ≤ smj g n
  | 0, _ => Nat.le_refl _
  | n + 1, h => by
    have := smj_mono (f := f) (g := g) n (fun k hk => h k (by omega))
    have := h n (by omega)
    rw [smj, smj]; omega
theorem smj_mul {f : Nat → Nat} {a : Nat} : ∀ n, smj (fun k => f k * a) n = smj f n * a
  | 0 => by rw [smj, smj, Nat.zero_mul]
  | n + 1 => by rw [smj, smj, smj_mul n, Nat.add_mul]
theorem unsigned_n {c s : Nat} (hc : c ≤ 8) (hs : s < 2 ^ c) : smj (fun k => if s.testBit k = false then 1 else 0) c = c - pcn s := (by decide +kernel : ∀ c, c < 9 → ∀ s, s < 256 → s < 2 ^ c → smj (fun k => if s.testBit k = false then 1 else 0) c = c - pcn s) c (by omega) s (lt8 hs hc) hs
theorem TT_bnd {bf : Nat → Nat} {c : Nat} (hc : c ≤ 8) (hb : ∀ j, j < c → bf j < 2 ^ j) : ∀ m s, s < 2 ^ c → c - pcn s = m → TT bf c s ≤ fct m ∧ 1 ≤ TT bf c s ∧ ((∀ j, j < c → bf j = 0) → TT bf c s = fct m)
  | 0, s, hs, hm => by
    have h1 := pcn_c hc hs
    have h2 : TT bf c s = 1 := by unfold TT; rw [hm, tr]
    rw [h2]
    exact ⟨Nat.le_refl _, Nat.le_refl _, fun _ => rfl⟩
  | m + 1, s, hs, hm => by
    have ih := TT_bnd hc hb m
    have hne : s ≠ 2 ^ c - 1 := fun e => by
      have := (pcn_all hc hs).mpr e
      omega
    have hstep : ∀ k, k < c → s.testBit k = false → s ||| 2 ^ k < 2 ^ c ∧ c - pcn (s ||| 2 ^ k) = m := fun k hk hf => by
      refine ⟨or_lt hs (Nat.pow_lt_pow_right (by decide) hk), ?_⟩
      rw [pcn_add (lt8 hs hc) (by omega) hf]
      omega
    have hun := unsigned_n hc hs
    rw [hm] at hun
    have hfm : smj (fun k => (if s.testBit k = false then 1 else 0) * fct m) c = fct (m + 1) := by rw [smj_mul, hun, fct]
    rw [TT_step hc hs hne]
    refine ⟨?_, ?_, fun h0 => ?_⟩
    · rw [← hfm]
      refine smj_mono c (fun k hk => ?_)
      by_cases h : s.testBit k = false ∧ dif (bf k) s = 0
      · rw [if_pos h, if_pos h.1, Nat.one_mul]
        exact (ih _ (hstep k hk h.1).1 (hstep k hk h.1).2).1
      · rw [if_neg h]; exact Nat.zero_le _
    · -- the first slot that is not in s
      have hex : fa_first (fun k => !s.testBit k) c < c := by
        rcases Nat.lt_or_ge (fa_first (fun k => !s.testBit k) c) c with h | h
        · exact h
        · exfalso
          refine hne (nat_ext fun i => ?_)
          rw [all_bit]
          by_cases hi : i < c
          · have := fa_first_no (fun k => !s.testBit k) c i (by omega)
            simp at this
            rw [this, decide_eq_true hi]
          · rw [bit_lt hs (by omega), decide_eq_false hi]
      have h1 := fa_first_yes (fun k => !s.testBit k) c hex
      have h2 := fa_first_no (fun k => !s.testBit k) c
      generalize fa_first (fun k => !s.testBit k) c = k at hex h1 h2
      have hk0 : s.testBit k = false := by simpa using h1
      have hd : dif (bf k) s = 0 := by
        apply nat_ext
        intro i
        rw [dif_bit, Nat.zero_testBit]
        by_cases hi : i < k
        · have := h2 i hi
          simp at this
          rw [this]; simp
        · rw [bit_lt (hb k hex) (by omega)]; rfl
      have h3 := smj_ge (f := fun k => if s.testBit k = false ∧ dif (bf k) s = 0 then TT bf c (s ||| 2 ^ k) else 0) c hex
      have h4 := (ih _ (hstep k hex hk0).1 (hstep k hex hk0).2).2.1
      have h3 : (if s.testBit k = false ∧ dif (bf k) s = 0 then TT bf c (s ||| 2 ^ k) else 0) ≤ smj (fun k => if s.testBit k = false ∧ dif (bf k) s = 0 then TT bf c (s ||| 2 ^ k) else 0) c := h3
      rw [if_pos ⟨hk0, hd⟩] at h3
      omega
    · rw [← hfm]
      refine smj_cong c (fun k hk => ?_)
      have hd : dif (bf k) s = 0 := by
        rw [h0 k hk]
        apply nat_ext
        intro i
        rw [dif_bit, Nat.zero_testBit]; rfl
      by_cases h : s.testBit k = false
      · rw [if_pos ⟨h, hd⟩, if_pos h, Nat.one_mul]
        exact (ih _ (hstep k hk h).1 (hstep k hk h).2).2.2 h0
      · rw [if_neg (fun q => h q.1), if_neg h, Nat.zero_mul]
/-- a signing leaves no more orders than there were -/
theorem TT_sgn {td c len : Nat} {bf pr K sl dy : Nat → Nat} (hw : Wf td c len bf pr K sl dy) : ∀ i, i ≤ len → TT bf c (sgn K sl i) ≤ TT bf c 0
  | 0, _ => Nat.le_refl _
  | i + 1, hi => by
    have ih := TT_sgn hw i (by omega)
    rw [sgn]
    by_cases hk : K i = 1 ∨ K i = 2
    · rw [if_pos hk]
      obtain ⟨-, -, -, -, w5, w6⟩ := hw.2.2.2.1 i (by omega)
      obtain ⟨a1, a2⟩ := w5 (by omega)
      have a3 := w6 hk
      have hs := hw.sg i (by omega)
      have hne : sgn K sl i ≠ 2 ^ c - 1 := fun e => by
        rw [e, all_bit, decide_eq_false_iff_not] at a2
        exact a2 a1
      have h3 := smj_ge (f := fun k => if (sgn K sl i).testBit k = false ∧ dif (bf k) (sgn K sl i) = 0 then TT bf c (sgn K sl i ||| 2 ^ k) else 0) c a1
      rw [← TT_step hw.1 hs hne] at h3
      have h3 : (if (sgn K sl i).testBit (sl i) = false ∧ dif (bf (sl i)) (sgn K sl i) = 0 then TT bf c (sgn K sl i ||| 2 ^ sl i) else 0) ≤ TT bf c (sgn K sl i) := h3
      rw [if_pos ⟨a2, a3⟩] at h3
      omega
    · rw [if_neg hk]; exact ih
/-- all signed is completed -/
theorem all_two {td c len : Nat} {bf pr K sl dy : Nat → Nat} (hw : Wf td c len bf pr K sl dy) (hc : 0 < c) (h : sgn K sl len = 2 ^ c - 1) : sta c K sl len = 2 := by
  have hp : 2 ^ 1 ≤ 2 ^ c := Nat.pow_le_pow_right (by decide) hc
  cases len with
  | zero => rw [sgn] at h; omega
  | succ i =>
    obtain ⟨w1, -, w3, w4, -, -⟩ := hw.2.2.2.1 i (by omega)
    rw [sta]
    by_cases h0 : K i = 0
    · have hi := w3.mpr h0
      subst hi
      rw [sgn, if_neg (by omega), sgn] at h
      omega
    · rw [if_neg h0]
      by_cases h1 : K i = 1 ∨ K i = 2
      · rw [if_pos h1, if_pos h]
      · exfalso
        rw [sgn, if_neg h1] at h
        exact sta_one hw hc i (by omega) (w4 (by omega)) h
end
