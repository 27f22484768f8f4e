/-! The law's calls by a script: what stands between them; drafts -/
section
def BW (td : Nat) (d : Dk) (b w : Nat → Int32) : Prop := ∀ e, e < d.1 → ∃ (c : Nat) (bf pr : Nat → Nat), EC td (d.2.2 e) c bf pr ∧ ∀ j, j < c → b (8 * e + j) = nI (bf j) ∧ w (8 * e + j) = nI (pr j)
def LI (t td : Nat) (d : Dk) (b w : Nat → Int32) : Prop := td ≤ 60 * t ∧ d.1 ≤ 6 ∧ d.2.1 1 0 = nI td ∧ DS t d.2.1 ∧ BW td d b w
def AR (t : Nat) (r : Option (Int32 × Dk × Dk × (Nat → Int32) × (Nat → Int32))) : Prop := ∃ (d' u' : Dk) (b' w' : Nat → Int32) (td' : Nat), r = some (1, d', u', b', w') ∧ LI (t + 1) td' d' b' w' ∧ Twin d' u'
variable {t td e : Nat} {d u : Dk} {b w : Nat → Int32}
theorem LI.dc (h : LI t td d b w) : DC td d := ⟨h.2.1, h.2.2.1, fun e he => by
  obtain ⟨c, bf, pr, h1, -⟩ := h.2.2.2.2 e he
  exact ⟨c, bf, pr, h1⟩⟩
theorem DS.mono {t t' : Nat} {s : SS} (h : DS t s) (h2 : t ≤ t') : DS t' s := fun p hp => by
  obtain ⟨h1, x, hx, e⟩ := h p hp
  exact ⟨h1, x, by omega, e⟩
theorem LI.skip (h : LI t td d b w) : LI (t + 1) td d b w := ⟨by have := h.1; omega, h.2.1, h.2.2.1, h.2.2.2.1.mono (by omega), h.2.2.2.2⟩
theorem AR.same (h : LI t td d b w) (hu : Twin d u) : AR t (some (1, d, u, b, w)) := ⟨d, u, b, w, td, rfl, h.skip, hu⟩
theorem LI.put {c : Nat} {bf pr : Nat → Nat} {σ' s : SS} (h : LI t td d b w) (hs1 : s 1 0 = nI td) (hs : DS (t + 1) s) (h1 : EC td σ' c bf pr) (h2 : ∀ j, j < c → b (8 * e + j) = nI (bf j) ∧ w (8 * e + j) = nI (pr j)) : LI (t + 1) td (d.1, s, va_up d.2.2 e σ') b w := by
  refine ⟨by have := h.1; omega, h.2.1, hs1, hs, fun k hk => ?_⟩
  show ∃ c bf pr, EC td (va_up d.2.2 e σ' k) c bf pr ∧ _
  by_cases q : k = e
  · subst q
    rw [up_eq]
    exact ⟨c, bf, pr, h1, h2⟩
  · rw [up_ne q]
    exact h.2.2.2.2 k hk
theorem Twin.put {s s' σ' : SS} (hu : Twin d u) (hs : ∀ x, x ≠ 2 → s' x = s x) : Twin (d.1, s, va_up d.2.2 e σ') (u.1, s', va_up u.2.2 e σ') := ⟨hu.1, by
  show va_up u.2.2 e σ' = va_up d.2.2 e σ'
  rw [hu.2.1], hs⟩
theorem land_nn (x : Int32) : ¬ (x &&& (2147483647 : Int32)) < 0 := by
  intro h
  have h1 := Int32.lt_iff_toInt_lt.mp h
  have h2 : (0 : Int32).toInt = 0 := by decide
  have h3 : (x &&& (2147483647 : Int32)).toInt = (x &&& (2147483647 : Int32)).toBitVec.toInt := rfl
  have hb : (x &&& (2147483647 : Int32)).toBitVec.msb = false := by
    rw [BitVec.msb_eq_getLsbD_last]
    have := b_and x 2147483647 31
    unfold bt at this
    rw [show (32 - 1 : Nat) = 31 from rfl, this, show (2147483647 : Int32).toBitVec.getLsbD 31 = false by decide, Bool.and_false]
  have h4 := BitVec.toInt_eq_toNat_of_msb hb
  rw [h3, h4, h2] at h1
  omega
theorem low_ok (x : Int32) {n : Nat} (h0 : 0 < n) (hn : n < 2 ^ 31) : ∃ k, k < n ∧ f_L_low x (nI n) = some (nI k) := by
  obtain ⟨m, hm, em⟩ := nI_of (land_nn x)
  refine ⟨m % n, Nat.mod_lt _ h0, ?_⟩
  unfold f_L_low
  rw [if_pos (nI_ne0 h0 hn), em, pk_rem hm h0 hn]
-- drafts
theorem CE.new {td : Nat} : CE td (fun _ _ => 0) 0 0 0 0 (fun _ => 0) (fun _ => 0) (fun _ => 0) (fun _ => 0) (fun _ => 0) (fun _ => 0) (fun _ => 0) := by
  refine ⟨by omega, by omega, ⟨fun i hi => absurd hi (by omega), fun i hi => absurd hi (by omega), fun i hi => absurd hi (by omega)⟩, ⟨by omega, by omega, fun j hj => absurd hj (by omega), fun i hi => absurd hi (by omega), fun h => absurd h (by omega), fun j => Nat.zero_le _⟩, ⟨rfl, rfl, rfl, rfl, fun j hj => absurd hj (by omega), fun i hi => absurd hi (by omega), rfl, rfl, rfl, fun j _ => rfl, fun j hj => ?_, fun h => absurd h (by omega)⟩⟩
  rw [opd, Nat.zero_testBit] at hj
  cases hj
theorem a_draft (h : LI t td d b w) (hu : Twin d u) : AR t ((gn_envelopes d).bind fun z3 => (if (6 : Int32) ≤ z3 then (f_L_acts_116 d u b w (-1000003 : Int32)) else ((gn_envelopes d).bind fun z4 => (f_L_acts_116 d u b w z4)))) := by
  have hn := h.2.1
  rw [v_envelopes d hn, Option.bind_some, Option.bind_some]
  unfold f_L_acts_116
  by_cases h6 : d.1 = 6
  · rw [if_pos (show (6 : Int32) ≤ nI d.1 by rw [h6]; decide), x_draft_no h6, Option.bind_some, if_pos rfl, x_draft_no (by rw [hu.1]; exact h6), Option.bind_some, if_pos rfl]
    exact AR.same h hu
  · have hl : d.1 < 6 := by omega
    rw [if_neg (show ¬ (6 : Int32) ≤ nI d.1 from nI_ge (b := 6) hl (by decide)), x_draft_ok hl, Option.bind_some, if_pos rfl, x_draft_ok (by rw [hu.1]; exact hl), Option.bind_some, if_pos (by rw [hu.1])]
    refine ⟨_, _, _, _, td, rfl, ⟨by have := h.1; omega, (show d.1 + 1 ≤ 6 by omega), h.2.2.1, h.2.2.2.1.mono (by omega), fun k hk => ?_⟩, ⟨by rw [hu.1], by rw [hu.1, hu.2.1], hu.2.2⟩⟩
    show ∃ c bf pr, EC td (va_up d.2.2 d.1 (fun _ _ => 0) k) c bf pr ∧ _
    have hk : k < d.1 + 1 := hk
    by_cases q : k = d.1
    · subst q
      rw [up_eq]
      exact ⟨0, fun _ => 0, fun _ => 0, ⟨0, 0, 0, _, _, _, _, _, CE.new⟩, fun j hj => absurd hj (by omega)⟩
    · rw [up_ne q]
      exact h.2.2.2.2 k (by omega)
-- slots
theorem a244 {p bs : Nat} {s0 : Int32} {d1 u1 : Dk} (h6 : e < 6) (h1 : gm_addSlot d (nI e) (nI p) (nI bs) = some (s0, d1)) (h2 : gm_addSlot u (nI e) (nI p) (nI bs) = some (s0, u1)) (hn : d1.1 ≤ 6) :
    f_L_acts_244 d u b w (nI e) (nI p) (nI bs) s0 = some (1, d1, u1, b, w) := by
  unfold f_L_acts_244 f_L_acts_309
  rw [h1, Option.bind_some, if_pos rfl, h2, Option.bind_some, if_pos rfl, x_addSlot_8 hn h6, Option.bind_some, if_pos rfl, x_addSlot_00 hn, Option.bind_some, v_envelopes d1 hn, Option.bind_some]
  by_cases h : d1.1 = 0
  · rw [if_pos (show nI d1.1 ≤ 0 by rw [h]; decide), if_pos h, if_pos rfl]
  · rw [if_neg (nI_nle (by omega) (by omega)), if_neg h, if_pos rfl]
/-- there is no such envelope -/
theorem a182_no {p bs : Nat} (h : LI t td d b w) (hu : Twin d u) (h6 : e < 6) (he : d.1 ≤ e) (x9 x10 : Int32) : AR t (f_L_acts_182 d u b w (nI e) 0 x9 x10 (nI p) (nI bs)) := by
  have hn := h.2.1
  unfold f_L_acts_182 f_L_acts_213
  rw [if_pos rfl, if_pos (by decide), a244 h6 (x_addSlot_no hn he h6 _ _) (x_addSlot_no (by rw [hu.1]; exact hn) (by rw [hu.1]; exact he) h6 _ _) hn]
  exact AR.same h hu
theorem a182_ok {p bs c len pc tm : Nat} {bf pr K sl dy : Nat → Nat} {pe se : Nat → Int32} (h : LI t td d b w) (hu : Twin d u) (he : e < d.1) (hE : CE td (d.2.2 e) c len pc tm bf pr K sl dy pe se) (hB : ∀ j, j < c → b (8 * e + j) = nI (bf j) ∧ w (8 * e + j) = nI (pr j)) (hp : p < 8) (hb : bs < 2 ^ c) :
    AR t (f_L_acts_182 d u b w (nI e) 1 (nI (sta c K sl len)) (nI c) (nI p) (nI bs)) := by
  have hn := h.2.1
  have hw := hE.2.2.2.1
  have h8 := hw.1
  have hst := sta_le c K sl len
  have hc := hE.2.2.2.2
  have hun : u.1 ≤ 6 := by rw [hu.1]; exact hn
  have heu : e < u.1 := by rw [hu.1]; exact he
  have h6 : e < 6 := by omega
  unfold f_L_acts_182 f_L_acts_213
  rw [if_neg (show ¬ (1 : Int32) = 0 by decide)]
  by_cases hs : sta c K sl len = 0 ∧ c < 8
  · obtain ⟨hs, hc8⟩ := hs
    have hl := sta_zero hw hs
    subst hl
    obtain ⟨σ', a1, a2⟩ := append_ok hE hc8 hp hb
    have in1 : inb (nI (8 * e + c)) 48 := inb9 (by omega) (by decide)
    have hcl : (nI (8 * e + c)).toNatClampNeg = 8 * e + c := cl9 (by omega)
    have g11 : d.2.2 e 11 0 = nI 0 := by rw [hc.2.2.2.2.2.2.1, hs]
    rw [if_pos (show nI (sta c K sl 0) = 0 by rw [hs]; rfl), if_neg (show ¬ nI c = 8 from fun q => by have := (nI_eq (b := 8) (by omega) (by decide)).mp q; omega), if_neg (nI_pos (by omega)), ix8]
    simp only [lt, if_pos in1, hcl]
    rw [a244 (d1 := (d.1, d.2.1, va_up d.2.2 e σ')) (u1 := (u.1, u.2.1, va_up u.2.2 e σ')) h6 (x_addSlot_ok hn he hc.1 hc8 g11 hp hb a1 a2.2.2.2.2.1) (x_addSlot_ok hun heu (by rw [hu.2.1]; exact hc.1) hc8 (by rw [hu.2.1]; exact g11) hp hb (by rw [hu.2.1]; exact a1) a2.2.2.2.2.1) hn]
    refine ⟨_, _, _, _, td, rfl, ?_, hu.put hu.2.2⟩
    -- the law's rows
    refine ⟨by have := h.1; omega, h.2.1, h.2.2.1, h.2.2.2.1.mono (by omega), fun k hk => ?_⟩
    show ∃ c bf pr, EC td (va_up d.2.2 e σ' k) c bf pr ∧ _
    by_cases q : k = e
    · subst q
      rw [up_eq]
      refine ⟨c + 1, _, _, ⟨0, pc, tm, K, sl, dy, pe, se, a2⟩, fun j hj => ?_⟩
      by_cases ej : j = c
      · subst ej
        rw [upd_eq, upd_eq, uN_eq, uN_eq]
        exact ⟨rfl, rfl⟩
      · rw [upd_ne (by omega), upd_ne (by omega), uN_lt (by omega), uN_lt (by omega)]
        exact hB j (by omega)
    · rw [up_ne q]
      obtain ⟨c2, bf2, pr2, ⟨l2, p2, t2, K2, s2, y2, pe2, se2, q1⟩, q2⟩ := h.2.2.2.2 k hk
      have := q1.2.2.2.1.1
      refine ⟨c2, bf2, pr2, ⟨l2, p2, t2, K2, s2, y2, pe2, se2, q1⟩, fun j hj => ?_⟩
      rw [upd_ne (by omega), upd_ne (by omega)]
      exact q2 j hj
  · have g11 : d.2.2 e 11 0 = nI (sta c K sl len) := hc.2.2.2.2.2.2.1
    have hno : ¬ sta c K sl len = 0 ∨ c = 8 := by
      by_cases q : sta c K sl len = 0
      · exact Or.inr (by have : ¬ c < 8 := fun z => hs ⟨q, z⟩; omega)
      · exact Or.inl q
    have hfin := a244 (b := b) (w := w) h6 (x_addSlot_st hn he hc.1 h8 g11 hst hp hb hno) (x_addSlot_st hun heu (by rw [hu.2.1]; exact hc.1) h8 (by rw [hu.2.1]; exact g11) hst hp hb hno) hn
    have hm : (-1000003 : Int32) < 0 := by decide
    by_cases q : sta c K sl len = 0
    · have c8 : c = 8 := hno.resolve_left (fun z => z q)
      rw [if_pos (show nI (sta c K sl len) = 0 by rw [q]; rfl), if_pos (show nI c = 8 by rw [c8]; rfl), if_pos hm, hfin]
      exact AR.same h hu
    · rw [if_neg (show ¬ nI (sta c K sl len) = 0 from fun z => q ((nI_zero (by omega)).mp z)), if_pos hm, hfin]
      exact AR.same h hu
-- times
theorem a582 {pc tm x13 : Int32} {d1 u1 : Dk} {x8 : Int32} (h1 : gm_setTimes d (nI e) pc tm = some (x13, d1)) (h2 : gm_setTimes u (nI e) pc tm = some (x13, u1)) (h3 : gm_setTimes d1 (nI e) 31 0 = some (if x8 = 0 then -1000001 else -1000002, d1)) :
    f_L_acts_582 d u b w (nI e) x8 x13 pc tm = some (1, d1, u1, b, w) := by
  unfold f_L_acts_582 f_L_acts_635
  rw [h1, Option.bind_some, if_pos rfl, h2, Option.bind_some, if_pos rfl, h3, Option.bind_some]
  by_cases h : x8 = 0
  · rw [if_pos h, if_pos h, if_pos rfl]
  · rw [if_neg h, if_neg h, if_pos rfl]
theorem times_ok {c pc tm pc' tm' : Nat} {σ : SS} {bf pr K sl dy : Nat → Nat} {pe se : Nat → Int32} (hE : CE td σ c 0 pc tm bf pr K sl dy pe se) (h1 : pc' ≤ 30) (h2 : tm' ≤ 60) : CE td (va_up (va_up σ 12 (fun _ => nI pc')) 13 (fun _ => nI tm')) c 0 pc' tm' bf pr K sl dy pe se := by
  obtain ⟨hpc, htm, hH, hw, c10, c12, c13, c9, cr, ce, c11, c15, c16, c4, c3, c14⟩ := hE
  have g : ∀ x, x ≠ 12 → x ≠ 13 → (va_up (va_up σ 12 (fun _ => nI pc')) 13 (fun _ => nI tm') : SS) x = σ x := fun x a b => by rw [up_ne b, up_ne a]
  refine ⟨h1, h2, hH, hw, ?_, ?_, ?_, ?_, fun j hj => ?_, fun i hi => ?_, ?_, ?_, ?_, fun j hj => ?_, fun j hj => ?_, fun h => ?_⟩
  · rw [g 10 (by decide) (by decide)]; exact c10
  · rw [up_ne (by decide), up_eq]
  · rw [up_eq]
  · rw [g 9 (by decide) (by decide)]; exact c9
  · rw [g 0 (by decide) (by decide), g 1 (by decide) (by decide), g 2 (by decide) (by decide)]; exact cr j hj
  · exact absurd hi (by omega)
  · rw [g 11 (by decide) (by decide)]; exact c11
  · rw [g 15 (by decide) (by decide)]; exact c15
  · rw [g 16 (by decide) (by decide)]; exact c16
  · rw [g 4 (by decide) (by decide)]; exact c4 j hj
  · rw [g 3 (by decide) (by decide)]; exact c3 j hj
  · exact absurd h (by omega)
theorem a546_no (h : LI t td d b w) (hu : Twin d u) (h6 : e < 6) (he : d.1 ≤ e) (x5 : Int32) : AR t (f_L_acts_546 d u b w x5 (nI e) 0 (-1000001)) := by
  have hn := h.2.1
  have hun : u.1 ≤ 6 := by rw [hu.1]; exact hn
  have heu : u.1 ≤ e := by rw [hu.1]; exact he
  have hfin : ∀ pc tm : Int32, f_L_acts_582 d u b w (nI e) 0 (-1000001) pc tm = some (1, d, u, b, w) := fun pc tm => a582 (x_times_no hn he h6 _ _) (x_times_no hun heu h6 _ _) (by rw [if_pos rfl]; exact x_times_no hn he h6 _ _)
  obtain ⟨k1, -, l1⟩ := low_ok x5 (n := 7) (by decide) (by decide)
  obtain ⟨k2, -, l2⟩ := low_ok (x5 >>> ((4 : Int32) &&& 31)) (n := 3) (by decide) (by decide)
  obtain ⟨k3, -, l3⟩ := low_ok (x5 >>> ((6 : Int32) &&& 31)) (n := 61) (by decide) (by decide)
  have l1 : f_L_low x5 7 = some (nI k1) := l1
  have l2 : f_L_low (x5 >>> ((4 : Int32) &&& 31)) 3 = some (nI k2) := l2
  have l3 : f_L_low (x5 >>> ((6 : Int32) &&& 31)) 61 = some (nI k3) := l3
  unfold f_L_acts_546
  rw [l1, Option.bind_some, l2, Option.bind_some, l3, Option.bind_some, hfin, hfin, ite_self]
  exact AR.same h hu
theorem a546_ok {c len pc tm : Nat} {bf pr K sl dy : Nat → Nat} {pe se : Nat → Int32} (h : LI t td d b w) (hu : Twin d u) (he : e < d.1) (hE : CE td (d.2.2 e) c len pc tm bf pr K sl dy pe se) (hB : ∀ j, j < c → b (8 * e + j) = nI (bf j) ∧ w (8 * e + j) = nI (pr j)) (x5 : Int32) :
    AR t (f_L_acts_546 d u b w x5 (nI e) 1 (if sta c K sl len = 0 then 0 else -1000003)) := by
  have hn := h.2.1
  have hw := hE.2.2.2.1
  have hst := sta_le c K sl len
  have hc := hE.2.2.2.2
  have hun : u.1 ≤ 6 := by rw [hu.1]; exact hn
  have heu : e < u.1 := by rw [hu.1]; exact he
  obtain ⟨k1, b1, l1⟩ := low_ok x5 (n := 7) (by decide) (by decide)
  obtain ⟨k2, -, l2⟩ := low_ok (x5 >>> ((4 : Int32) &&& 31)) (n := 3) (by decide) (by decide)
  obtain ⟨k3, b3, l3⟩ := low_ok (x5 >>> ((6 : Int32) &&& 31)) (n := 61) (by decide) (by decide)
  have l1 : f_L_low x5 7 = some (nI k1) := l1
  have l2 : f_L_low (x5 >>> ((4 : Int32) &&& 31)) 3 = some (nI k2) := l2
  have l3 : f_L_low (x5 >>> ((6 : Int32) &&& 31)) 61 = some (nI k3) := l3
  have g11 : d.2.2 e 11 0 = nI (sta c K sl len) := hc.2.2.2.2.2.2.1
  have n1 : ¬ (1 : Int32) = 0 := by decide
  have hfin : ∀ tm', tm' ≤ 60 → AR t (f_L_acts_582 d u b w (nI e) 1 (if sta c K sl len = 0 then 0 else -1000003) (nI k1) (nI tm')) := by
    intro tm' htm'
    by_cases hs : sta c K sl len = 0
    · have hl := sta_zero hw hs
      subst hl
      rw [if_pos hs]
      rw [hs] at g11
      rw [a582 (x8 := 1) (x_times_ok hn he g11 (show k1 ≤ 30 by omega) htm') (x_times_ok hun heu (by rw [hu.2.1]; exact g11) (show k1 ≤ 30 by omega) htm') (by rw [if_neg n1]; exact x_times_31 (d := (d.1, d.2.1, _)) hn he)]
      refine ⟨_, _, _, _, td, rfl, h.put h.2.2.1 (h.2.2.2.1.mono (by omega)) ⟨0, k1, tm', K, sl, dy, pe, se, times_ok hE (by omega) htm'⟩ hB, ?_⟩
      rw [hu.2.1]
      exact ⟨hu.1, rfl, hu.2.2⟩
    · rw [if_neg hs, a582 (x8 := 1) (x_times_st hn he g11 hst (show k1 ≤ 30 by omega) htm' hs) (x_times_st hun heu (by rw [hu.2.1]; exact g11) hst (show k1 ≤ 30 by omega) htm' hs) (by rw [if_neg n1]; exact x_times_31 hn he)]
      exact AR.same h hu
  unfold f_L_acts_546
  rw [l1, Option.bind_some, l2, Option.bind_some, l3, Option.bind_some]
  split
  · exact hfin 0 (by omega)
  · exact hfin k3 (by omega)
end
