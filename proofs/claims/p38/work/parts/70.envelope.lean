/-! The law's look at the slots of an envelope -/
section
def bs (P : Nat → Bool) : Nat → Nat
  | 0 => 0
  | j + 1 => if P j = true then bs P j ||| 2 ^ j else bs P j
theorem bs_bit (P : Nat → Bool) : ∀ c i, (bs P c).testBit i = (decide (i < c) && P i)
  | 0, i => by simp [bs]
  | c + 1, i => by
    have ih := bs_bit P c i
    rw [bs]
    by_cases h : P c = true
    · rw [if_pos h, Nat.testBit_or, ih, two_bit]
      by_cases hi : c = i
      · subst hi; simp [h]
      · by_cases h2 : i < c
        · simp [hi, h2, show i < c + 1 by omega]
        · simp [hi, h2, show ¬ i < c + 1 by omega]
    · rw [if_neg h, ih]
      by_cases hi : c = i
      · subst hi
        have : P c = false := by simpa using h
        simp [this]
      · by_cases h2 : i < c
        · simp [h2, show i < c + 1 by omega]
        · simp [h2, show ¬ i < c + 1 by omega]
theorem or_0 (a : Nat) : nI a ||| (0 : Int32) = nI a := by rw [show (0 : Int32) = nI 0 from rfl, fa_or, Nat.or_zero]
def rdd (r : Nat → Nat) (B : Nat) : Nat → Nat → Nat
  | acc, 0 => acc
  | acc, i + 1 => rdd r B (if B.testBit i = true ∧ acc ≤ r i then r i + 1 else acc) i
theorem rdd_eq {r : Nat → Nat} {B : Nat} : ∀ i acc, rdd r B acc i = max acc (mxr r B i)
  | 0, acc => by rw [rdd, mxr]; omega
  | i + 1, acc => by
    rw [rdd, rdd_eq i, mxr]
    by_cases hb : B.testBit i = true
    · rw [if_pos hb]
      by_cases h : acc ≤ r i
      · rw [if_pos ⟨hb, h⟩]; omega
      · rw [if_neg (fun q => h q.2)]; omega
    · rw [if_neg hb, if_neg (fun q => hb q.1)]
theorem pcn0 {a : Nat} (h : a < 256) : pcn a = 0 ↔ a = 0 := (by decide +kernel : ∀ a, a < 256 → (pcn a = 0 ↔ a = 0)) a h
set_option maxRecDepth 4000 in
theorem share_s : ∀ c, c < 9 → ∀ a, a < 9 → ¬ c = 0 → Op.cmpValue (FP.fcmp (FP.fdiv (FP.i2f (nI a)) (FP.i2f (nI c))) (FP.fdiv (FP.i2f (nI a)) (FP.i2f (nI c)))) .l = 0 := by decide +kernel
variable {td e c len pc tm : Nat} {d : Dk} {b w : Nat → Int32} {bf pr K sl dy : Nat → Nat} {pe se : Nat → Int32}
theorem opn_lt (hw : Wf td c len bf pr K sl dy) : opn c bf K sl len < 2 ^ c := by
  unfold opn
  split
  · exact dif_lt (hw.op len (Nat.le_refl _))
  · exact Nat.two_pow_pos c
theorem opn_uns {j : Nat} (h : (opn c bf K sl len).testBit j = true) : (sgn K sl len).testBit j = false ∧ sta c K sl len = 1 := by
  unfold opn at h
  by_cases hs : sta c K sl len = 1
  · rw [if_pos hs, dif_bit] at h
    refine ⟨?_, hs⟩
    cases hb : (sgn K sl len).testBit j with
    | false => rfl
    | true => rw [hb] at h; simp at h
  · rw [if_neg hs, Nat.zero_testBit] at h; cases h
theorem sst_2 (j : Nat) : sst c bf K sl len j = 2 ↔ (sgn K sl len).testBit j = true := by
  unfold sst
  constructor
  · intro h
    cases hb : (sgn K sl len).testBit j with
    | true => rfl
    | false =>
      rw [hb, if_neg (by decide)] at h
      split at h
      · omega
      · split at h <;> omega
  · intro h; rw [if_pos h]
theorem sst_1 (j : Nat) : sst c bf K sl len j = 1 ↔ (opn c bf K sl len).testBit j = true := by
  constructor
  · intro h
    unfold sst at h
    split at h
    · omega
    · split at h
      · assumption
      · split at h <;> omega
  · intro h
    unfold sst
    rw [(opn_uns h).1, if_neg (by decide), if_pos h]
theorem sst_le (j : Nat) : sst c bf K sl len j ≤ 3 := by
  unfold sst
  split
  · omega
  · split
    · omega
    · split <;> omega
theorem set_2 (hw : Wf td c len bf pr K sl dy) : bs (fun k => decide (sst c bf K sl len k = 2)) c = sgn K sl len := by
  apply nat_ext
  intro i
  rw [bs_bit]
  by_cases hi : i < c
  · have := sst_2 (c := c) (bf := bf) (K := K) (sl := sl) (len := len) i
    cases hb : (sgn K sl len).testBit i with
    | true => simp [hi, this.mpr hb]
    | false =>
      have hne : ¬ sst c bf K sl len i = 2 := fun q => by have := this.mp q; rw [hb] at this; cases this
      simp [hne]
  · rw [bit_lt (hw.sg len (Nat.le_refl _)) (by omega)]; simp [hi]
theorem set_1 (hw : Wf td c len bf pr K sl dy) : bs (fun k => decide (sst c bf K sl len k = 1)) c = opn c bf K sl len := by
  apply nat_ext
  intro i
  rw [bs_bit]
  by_cases hi : i < c
  · have := sst_1 (c := c) (bf := bf) (K := K) (sl := sl) (len := len) i
    cases hb : (opn c bf K sl len).testBit i with
    | true => simp [hi, this.mpr hb]
    | false =>
      have hne : ¬ sst c bf K sl len i = 1 := fun q => by have := this.mp q; rw [hb] at this; cases this
      simp [hne]
  · rw [bit_lt (opn_lt hw) (by omega)]; simp [hi]
/-- the open slots are those that are unsigned with all before them signed -/
theorem opn_bit {j : Nat} (hw : Wf td c len bf pr K sl dy) (hs : sta c K sl len = 1) (hj : j < c) : (opn c bf K sl len).testBit j = (decide (dif (bf j) (sgn K sl len) = 0) && !(sgn K sl len).testBit j) := by
  rw [opn_rdy hw (Nat.le_refl _), if_pos hs, dif_bit, rdy_bit, decide_eq_true hj, Bool.true_and]
theorem opn_pos (hw : Wf td c len bf pr K sl dy) (hs : sta c K sl len = 1) : opn c bf K sl len ≠ 0 := by
  have hlen := sta_pos hs
  have hc0 : 0 < c := (hw.2.2.2.2.1 hlen).1
  have hne := sta_one hw hc0 len (Nat.le_refl _) hs
  have hsg := hw.sg len (Nat.le_refl _)
  generalize hS : sgn K sl len = s at hne hsg
  have hex : fa_first (fun k => !s.testBit k) c < c := by
    rcases Nat.lt_or_ge (fa_first (fun k => !s.testBit k) c) c with h | h
    · exact h
    · exfalso
      refine hne (nat_ext fun i => ?_)
      rw [all_bit]
      by_cases hi : i < c
      · have := fa_first_no (fun k => !s.testBit k) c i (by omega)
        simp at this
        rw [this, decide_eq_true hi]
      · rw [bit_lt hsg (by omega), decide_eq_false hi]
  have h1 := fa_first_yes (fun k => !s.testBit k) c hex
  have h2 := fa_first_no (fun k => !s.testBit k) c
  generalize fa_first (fun k => !s.testBit k) c = k at hex h1 h2
  have hk0 : s.testBit k = false := by simpa using h1
  have hd : dif (bf k) s = 0 := by
    apply nat_ext
    intro i
    rw [dif_bit, Nat.zero_testBit]
    by_cases hi : i < k
    · have := h2 i hi
      simp at this
      rw [this]; simp
    · rw [bit_lt ((hw.2.2.1 k hex).1) (by omega)]; rfl
  intro h0
  have hb := opn_bit hw hs hex
  rw [h0, Nat.zero_testBit, hS, hk0, hd] at hb
  simp at hb
theorem en598 (hd : DK td d) (he : e < d.1) (hE : CE td (d.2.2 e) c len pc tm bf pr K sl dy pe se) : f_L_envelope_598 d b w (nI e) (nI c) = some 1 := by
  have h8 := hE.2.2.2.1.1
  unfold f_L_envelope_598
  have h0 := v_why_no (p := 0) (j := c) hd.1 he hE (by decide) (Nat.le_refl _) (by omega)
  have h0 : gm_whyNot d 0 (nI e) (nI c) = some (-1000001) := h0
  rw [v_slotState_no hd.1 he hE (Nat.le_refl _) (by omega), Option.bind_some, if_pos rfl, h0, Option.bind_some, if_pos rfl]
theorem en583 (hd : DK td d) (he : e < d.1) (hE : CE td (d.2.2 e) c len pc tm bf pr K sl dy pe se) {s0 : UInt32} (h : Op.cmpValue (FP.fcmp s0 s0) .l = 0) : f_L_envelope_583 d b w (nI e) (nI (sta c K sl len)) (nI c) (nI (opn c bf K sl len)) s0 s0 = some 1 := by
  have hw := hE.2.2.2.1
  have h8 := hw.1
  have hst := sta_le c K sl len
  have hlt := lt8 (opn_lt hw) h8
  unfold f_L_envelope_583
  rw [if_pos h]
  by_cases hs : sta c K sl len = 1
  · have hp := opn_pos hw hs
    rw [hs, if_pos (show nI 1 = (1 : Int32) from rfl), if_neg (fun q => hp ((nI_zero (by omega)).mp q))]
    exact en598 hd he hE
  · rw [if_neg (show ¬ nI (sta c K sl len) = 1 from fun q => hs ((nI_eq (b := 1) (by omega) (by decide)).mp q))]
    exact en598 hd he hE
theorem en517 (hd : DK td d) (he : e < d.1) (hE : CE td (d.2.2 e) c len pc tm bf pr K sl dy pe se) : f_L_envelope_517 d b w (nI e) (nI (sta c K sl len)) (nI c) (nI (sgn K sl len)) (nI (opn c bf K sl len)) = some 1 := by
  have hw := hE.2.2.2.1
  have h8 := hw.1
  have hsg := lt8 (hw.sg len (Nat.le_refl _)) h8
  obtain ⟨g1, g2⟩ := v_share hd.1 he hE
  unfold f_L_envelope_517
  rw [if_neg (nI_pos (by omega)), if_neg (show ¬ (9 : Int32) ≤ nI c from nI_ge (b := 9) (by omega) (by decide)), v_events hd.1 he hE, Option.bind_some, v_opB hd.1 he hE (Nat.le_refl _), Option.bind_some, if_pos rfl, Option.bind_some, v_stB hd.1 he hE (Nat.le_refl _), Option.bind_some, if_pos rfl, g1, Option.bind_some]
  by_cases h0 : c = 0
  · rw [if_pos h0, if_pos (by rw [h0]; rfl)]
    exact en583 hd he hE (by decide +kernel)
  · rw [if_neg h0, if_neg (fun q => h0 ((nI_zero (by omega)).mp q)), many_pcn hsg, Option.bind_some, if_pos (g2 h0)]
    exact en583 hd he hE (share_s c (by omega) (pcn (sgn K sl len)) (by have := pcn_le (sgn K sl len); omega) h0)
theorem en394 {j : Nat} (hd : DK td d) (he : e < d.1) (hE : CE td (d.2.2 e) c len pc tm bf pr K sl dy pe se) (hB : ∀ j, j < c → w (8 * e + j) = nI (pr j)) (hj : j < c) (r : Int32 → Int32 → Int32 → Int32 → Int32 → Int32 → Option Int32) :
    ∀ (m p : Nat), p + m = 8 → ∀ fu, m < fu → f_L_envelope_394 d b w r fu (nI e) (nI (sta c K sl len)) (nI c) (nI (sgn K sl len)) (nI (opn c bf K sl len)) (nI j) (nI (sst c bf K sl len j)) (nI p) = r (nI e) (nI (sta c K sl len)) (nI c) (nI (sgn K sl len)) (nI (opn c bf K sl len)) (nI (j + 1)) := by
  have hw := hE.2.2.2.1
  have h8 := hw.1
  have hn := hd.1
  have hst := sta_le c K sl len
  have hss := sst_le (c := c) (bf := bf) (K := K) (sl := sl) (len := len) j
  have hpr := (hw.2.2.1 j hj).2
  intro m
  induction m with
  | zero =>
    intro p hp fu hfu
    obtain ⟨fu, rfl⟩ : ∃ g, fu = g + 1 := ⟨fu - 1, by omega⟩
    obtain rfl : p = 8 := by omega
    rw [f_L_envelope_394, if_pos (show (8 : Int32) ≤ nI 8 by decide), s1]
  | succ m ih =>
    intro p hp fu hfu
    obtain ⟨fu, rfl⟩ : ∃ g, fu = g + 1 := ⟨fu - 1, by omega⟩
    have ih := ih (p + 1) (by omega) fu (by omega)
    have hp8 : p < 8 := by omega
    rw [f_L_envelope_394, if_neg (show ¬ (8 : Int32) ≤ nI p from nI_ge (b := 8) hp8 (by decide)), (v_why hn he hd.2.1 hE hp8 hj).1, Option.bind_some, s1, ix8]
    have in1 : inb (nI (8 * e + j)) 48 := inb9 (by omega) (by decide)
    have hcl : (nI (8 * e + j)).toNatClampNeg = 8 * e + j := cl9 (by omega)
    simp only [if_pos in1, hcl]
    rw [hB j hj, (v_delT hn hd.2.1 hpr).1]
    by_cases hs : sta c K sl len = 1
    · have es : nI (sta c K sl len) = 1 := by rw [hs]; rfl
      rw [if_pos es]
      by_cases ho : sst c bf K sl len j = 1
      · have hob := (sst_1 j).mp ho
        rw [if_pos (show nI (sst c bf K sl len j) = 1 by rw [ho]; rfl), Option.bind_some]
        have er : rsn d.2.1 td c bf pr K sl len p j = if pr j = p then 0 else if f_X3_otherOn (ds d.2.1 (pr j)) (nI td) = nI p then (if d.2.1 (3 + pr j) 4 < d.2.1 (3 + pr j) 3 then 1 else 5) else 4 := by
          unfold rsn
          rw [if_neg (show ¬ (sta c K sl len ≠ 1) from fun q => q hs), if_neg (by rw [hob]; decide)]
        by_cases hq : pr j = p
        · rw [if_pos (by rw [hq]), er, if_pos hq, if_pos (show nI 0 = (0 : Int32) from rfl)]
          exact ih
        · rw [if_neg (fun q => hq ((nI_eq (by omega) (by omega)).mp q).symm), er, if_neg hq]
          by_cases hx : f_X3_otherOn (ds d.2.1 (pr j)) (nI td) = nI p
          · rw [if_pos hx, if_pos hx]
            by_cases hl : d.2.1 (3 + pr j) 4 < d.2.1 (3 + pr j) 3
            · rw [if_pos hl, if_pos (show nI 1 = (1 : Int32) from rfl)]; exact ih
            · rw [if_neg hl, if_neg (show ¬ nI 5 = (1 : Int32) by decide), if_pos (show nI 5 = (5 : Int32) from rfl)]; exact ih
          · rw [if_neg hx, if_neg hx, if_pos (show nI 4 = (4 : Int32) from rfl)]; exact ih
      · have hob : (opn c bf K sl len).testBit j = false := by
          cases h : (opn c bf K sl len).testBit j with
          | false => rfl
          | true => exact absurd ((sst_1 j).mpr h) ho
        have er : rsn d.2.1 td c bf pr K sl len p j = 3 := by
          unfold rsn
          rw [if_neg (show ¬ (sta c K sl len ≠ 1) from fun q => q hs), if_pos hob]
        rw [if_neg (show ¬ nI (sst c bf K sl len j) = 1 from fun q => ho ((nI_eq (b := 1) (by omega) (by decide)).mp q)), er, if_pos (show nI 3 = (3 : Int32) from rfl)]
        exact ih
    · have er : rsn d.2.1 td c bf pr K sl len p j = 2 := by
        unfold rsn
        rw [if_pos hs]
      rw [if_neg (show ¬ nI (sta c K sl len) = 1 from fun q => hs ((nI_eq (b := 1) (by omega) (by decide)).mp q)), er, if_pos (show nI 2 = (2 : Int32) from rfl)]
      exact ih
set_option maxHeartbeats 1000000 in
theorem en227 {j : Nat} (hd : DK td d) (he : e < d.1) (hE : CE td (d.2.2 e) c len pc tm bf pr K sl dy pe se) (hB : ∀ j, j < c → w (8 * e + j) = nI (pr j)) (hj : j < c) (r : Int32 → Int32 → Int32 → Int32 → Int32 → Int32 → Option Int32) :
    f_L_envelope_227 d b w r (nI e) (nI (sta c K sl len)) (nI c) (nI (sgn K sl len)) (nI (opn c bf K sl len)) (nI j) (nI (sst c bf K sl len j)) (nI (pcn (dif (bf j) (sgn K sl len)))) (nI (rl bf c j)) (nI (dnl bf (bf j) j)) = r (nI e) (nI (sta c K sl len)) (nI c) (nI (sgn K sl len)) (nI (opn c bf K sl len)) (nI (j + 1)) := by
  have hw := hE.2.2.2.1
  have h8 := hw.1
  have hn := hd.1
  have hst := sta_le c K sl len
  have hss := sst_le (c := c) (bf := bf) (K := K) (sl := sl) (len := len) j
  have hbj := (hw.2.2.1 j hj).1
  have hdf : dif (bf j) (sgn K sl len) < 256 := lt8 (dif_lt hbj) (by omega)
  have hp0 := pcn0 hdf
  have hpl := pcn_le (dif (bf j) (sgn K sl len))
  have h343 : f_L_envelope_343 d b w r (nI e) (nI (sta c K sl len)) (nI c) (nI (sgn K sl len)) (nI (opn c bf K sl len)) (nI j) (nI (sst c bf K sl len j)) (nI (pcn (dif (bf j) (sgn K sl len)))) (nI (rl bf c j)) (nI (dnl bf (bf j) j)) 1 = r (nI e) (nI (sta c K sl len)) (nI c) (nI (sgn K sl len)) (nI (opn c bf K sl len)) (nI (j + 1)) := by
    unfold f_L_envelope_343
    rw [if_neg (by decide), v_missing hn he hE hj, Option.bind_some, if_pos rfl, v_round hn he hE hj, Option.bind_some, if_pos rfl, v_ahead hn he hE hj, Option.bind_some, many_pcn (dnl_l hE hj), Option.bind_some, if_pos rfl]
    exact en394 hd he hE hB hj r 8 0 (by omega) FU (by unfold FU; omega)
  have h2n : ∀ n : Nat, n ≤ 5 → ∀ k : Nat, k ≤ 5 → (nI n = nI k ↔ n = k) := fun n h1 k h2 => nI_eq (by omega) (by omega)
  have sg2 : sst c bf K sl len j = 2 → sta c K sl len ≠ 0 → pcn (dif (bf j) (sgn K sl len)) = 0 := by
    intro h _
    have h1 := sg_rdy hw len (Nat.le_refl _) j ((sst_2 j).mp h)
    rw [rdy_bit] at h1
    refine hp0.mpr ?_
    by_cases hz : dif (bf j) (sgn K sl len) = 0
    · exact hz
    · simp [hz] at h1
  unfold f_L_envelope_227
  by_cases e0 : sta c K sl len = 0
  · have hl := sta_zero hw e0
    have hz : sst c bf K sl len j = 0 := by
      have q1 : sgn K sl len = 0 := by rw [hl, sgn]
      have q2 : opn c bf K sl len = 0 := by unfold opn; rw [if_neg (by omega)]
      have ft : ¬ (false = true) := by decide
      unfold sst
      rw [q1, q2, Nat.zero_testBit, if_neg ft, if_neg ft, if_pos (by omega)]
    rw [if_pos (by rw [e0]; rfl), if_pos (by rw [hz]; rfl)]
    exact h343
  · rw [if_neg (show ¬ nI (sta c K sl len) = 0 from fun q => e0 ((h2n _ hst 0 (by omega)).mp q))]
    by_cases e1 : sta c K sl len = 1
    · rw [if_pos (by rw [e1]; rfl)]
      by_cases s2 : sst c bf K sl len j = 2
      · rw [if_pos (by rw [s2]; rfl), if_pos (by rw [sg2 s2 e0]; rfl)]
        exact h343
      · rw [if_neg (show ¬ nI (sst c bf K sl len j) = 2 from fun q => s2 ((h2n _ (by omega) 2 (by omega)).mp q))]
        have hu : (sgn K sl len).testBit j = false := by
          cases h : (sgn K sl len).testBit j with
          | false => rfl
          | true => exact absurd ((sst_2 j).mpr h) s2
        have hob := opn_bit hw e1 hj
        rw [hu] at hob
        unfold f_L_envelope_282
        by_cases hz : dif (bf j) (sgn K sl len) = 0
        · have ho : sst c bf K sl len j = 1 := (sst_1 j).mpr (by rw [hob]; simp [hz])
          rw [if_pos (by rw [hp0.mpr hz]; rfl), if_pos (by rw [ho]; rfl)]
          exact h343
        · have ho : sst c bf K sl len j = 0 := by
            unfold sst
            rw [hu, if_neg (by decide), hob]
            simp [hz, e1]
          rw [if_neg (show ¬ nI (pcn (dif (bf j) (sgn K sl len))) = 0 from fun q => hz (hp0.mp ((nI_zero (by omega)).mp q))), if_pos (by rw [ho]; rfl)]
          exact h343
    · rw [if_neg (show ¬ nI (sta c K sl len) = 1 from fun q => e1 ((h2n _ hst 1 (by omega)).mp q))]
      by_cases e2 : sta c K sl len = 2
      · have hall := sta_two len e2
        have s2 : sst c bf K sl len j = 2 := (sst_2 j).mpr (by rw [hall, all_bit, decide_eq_true hj])
        rw [if_pos (by rw [e2]; rfl), if_pos (by rw [s2]; rfl)]
        exact h343
      · rw [if_neg (show ¬ nI (sta c K sl len) = 2 from fun q => e2 ((h2n _ hst 2 (by omega)).mp q))]
        by_cases s2 : sst c bf K sl len j = 2
        · rw [if_pos (by rw [s2]; rfl), if_pos (by rw [sg2 s2 e0]; rfl)]
          exact h343
        · have hu : (sgn K sl len).testBit j = false := by
            cases h : (sgn K sl len).testBit j with
            | false => rfl
            | true => exact absurd ((sst_2 j).mpr h) s2
          have ho : sst c bf K sl len j = 3 := by
            unfold sst opn
            rw [hu, if_neg (by decide), if_neg e1, Nat.zero_testBit, if_neg (by decide), if_neg (by omega)]
          rw [if_neg (show ¬ nI (sst c bf K sl len j) = 2 from fun q => s2 ((h2n _ (by omega) 2 (by omega)).mp q)), if_pos (by rw [ho]; rfl)]
          exact h343
theorem en141 {j : Nat} (hd : DK td d) (he : e < d.1) (hE : CE td (d.2.2 e) c len pc tm bf pr K sl dy pe se) (hB : ∀ j, j < c → b (8 * e + j) = nI (bf j)) (hj : j < c) (r : Int32 → Int32 → Int32 → Int32 → Int32 → Int32 → Option Int32) (x4 x5 x6 x7 x9 x10 : Int32) :
    ∀ (i acc now : Nat), i ≤ j → acc ≤ 20 → ∀ fu, i < fu → f_L_envelope_141 d b w r fu (nI e) x4 x5 x6 x7 (nI j) x9 x10 (nI acc) (nI now) (nI i + (-1 : Int32)) = f_L_envelope_227 d b w r (nI e) x4 x5 x6 x7 (nI j) x9 x10 (nI (rdd (rl bf c) (bf j) acc i)) (nI (dnl bf now i)) := by
  have hw := hE.2.2.2.1
  have h8 := hw.1
  have hn := hd.1
  intro i
  induction i with
  | zero =>
    intro acc now hi ha fu hfu
    obtain ⟨fu, rfl⟩ : ∃ g, fu = g + 1 := ⟨fu - 1, by omega⟩
    rw [f_L_envelope_141, if_pos (show nI 0 + (-1 : Int32) < 0 by decide), rdd, dnl]
  | succ i ih =>
    intro acc now hi ha fu hfu
    obtain ⟨fu, rfl⟩ : ∃ g, fu = g + 1 := ⟨fu - 1, by omega⟩
    have hic : i < c := by omega
    have hrl := rl_le bf c i
    have in1 : inb (nI (8 * e + j)) 48 := inb9 (by omega) (by decide)
    have in2 : inb (nI (8 * e + i)) 48 := inb9 (by omega) (by decide)
    have h190 : ∀ acc', acc' ≤ 20 → f_L_envelope_190 d b w r (f_L_envelope_141 d b w r fu) (nI e) x4 x5 x6 x7 (nI j) x9 x10 (nI now) (nI i) (nI acc') = f_L_envelope_227 d b w r (nI e) x4 x5 x6 x7 (nI j) x9 x10 (nI (rdd (rl bf c) (bf j) acc' i)) (nI (dnl bf now (i + 1))) := by
      intro acc' ha'
      unfold f_L_envelope_190
      have hcl2 : (nI (8 * e + i)).toNatClampNeg = 8 * e + i := cl9 (by omega)
      rw [i_bit now (show i < 31 by omega), ix8]
      simp only [if_pos in2, hcl2]
      rw [hB i hic, fa_or, or_0, dnl]
      cases hb : now.testBit i with
      | true =>
        rw [if_pos (show nI true.toNat = 1 from rfl), if_pos rfl]
        exact ih acc' _ (by omega) ha' fu (by omega)
      | false =>
        rw [if_neg (show ¬ nI false.toNat = 1 by decide), if_neg (by decide)]
        exact ih acc' _ (by omega) ha' fu (by omega)
    have hcl1 : (nI (8 * e + j)).toNatClampNeg = 8 * e + j := cl9 (by omega)
    rw [pk_m1, f_L_envelope_141, if_neg (nI_pos (by omega)), ix8, if_pos in1, hcl1, hB j hj, i_bit (bf j) (show i < 31 by omega), v_round hn he hE hic, Option.bind_some, Option.bind_some, rdd, s1]
    unfold f_L_envelope_188
    cases hb : (bf j).testBit i with
    | true =>
      rw [if_pos (show nI true.toNat = 1 from rfl)]
      by_cases hr : rl bf c i < acc
      · rw [if_pos (nI_lt hr (by omega)), if_neg (show ¬ (true = true ∧ acc ≤ rl bf c i) from fun q => by omega)]
        exact h190 acc ha
      · rw [if_neg (nI_nlt (by omega) (by omega)), if_pos (show true = true ∧ acc ≤ rl bf c i from ⟨rfl, by omega⟩)]
        exact h190 _ (by omega)
    | false =>
      rw [if_neg (show ¬ nI false.toNat = 1 by decide), if_neg (show ¬ (false = true ∧ acc ≤ rl bf c i) from fun q => by cases q.1)]
      exact h190 acc ha
theorem en86 (hd : DK td d) (he : e < d.1) (hE : CE td (d.2.2 e) c len pc tm bf pr K sl dy pe se) (hB : ∀ j, j < c → b (8 * e + j) = nI (bf j) ∧ w (8 * e + j) = nI (pr j)) :
    ∀ (m j : Nat), j + m = c → ∀ fu, m < fu → f_L_envelope_86 d b w fu (nI e) (nI (sta c K sl len)) (nI c) (nI (sgn K sl len)) (nI (opn c bf K sl len)) (nI j) = some 1 := by
  have hw := hE.2.2.2.1
  have h8 := hw.1
  have hn := hd.1
  intro m
  induction m with
  | zero =>
    intro j hj fu hfu
    obtain ⟨fu, rfl⟩ : ∃ g, fu = g + 1 := ⟨fu - 1, by omega⟩
    obtain rfl : j = c := by omega
    rw [f_L_envelope_86, if_pos (nI_le (Nat.le_refl _) (by omega))]
    exact en517 hd he hE
  | succ m ih =>
    intro j hj fu hfu
    obtain ⟨fu, rfl⟩ : ∃ g, fu = g + 1 := ⟨fu - 1, by omega⟩
    have hjc : j < c := by omega
    have in1 : inb (nI (8 * e + j)) 48 := inb9 (by omega) (by decide)
    have hbj := (hw.2.2.1 j hjc).1
    have hdf : dif (bf j) (sgn K sl len) < 256 := lt8 (dif_lt hbj) (by omega)
    have h1 := en141 (w := w) hd he hE (fun j hj => (hB j hj).1) hjc (f_L_envelope_86 d b w fu) (nI (sta c K sl len)) (nI c) (nI (sgn K sl len)) (nI (opn c bf K sl len)) (nI (sst c bf K sl len j)) (nI (pcn (dif (bf j) (sgn K sl len)))) j 0 (bf j) (Nat.le_refl _) (by omega) FU (by unfold FU; omega)
    have er : rdd (rl bf c) (bf j) 0 j = rl bf c j := by
      rw [rdd_eq, rl_at hjc hbj, mxr_ext (r := rl bf c) (r' := rl bf c) (b := bf j) (i := j) (n := c) (fun s hs => ⟨?_, rfl⟩)]
      · omega
      · have : s < j := by
          rcases Nat.lt_or_ge s j with h | h
          · exact h
          · rw [bit_lt hbj h] at hs; cases hs
        omega
    rw [er] at h1
    have h1 : f_L_envelope_141 d b w (f_L_envelope_86 d b w fu) FU (nI e) (nI (sta c K sl len)) (nI c) (nI (sgn K sl len)) (nI (opn c bf K sl len)) (nI j) (nI (sst c bf K sl len j)) (nI (pcn (dif (bf j) (sgn K sl len)))) 0 (nI (bf j)) (nI j + (-1 : Int32)) = _ := h1
    have hcl1 : (nI (8 * e + j)).toNatClampNeg = 8 * e + j := cl9 (by omega)
    rw [f_L_envelope_86, if_neg (nI_ge hjc (by omega)), (v_slotState hn he hE hjc).1, Option.bind_some, ix8]
    simp only [if_pos in1, hcl1]
    rw [(hB j hjc).1, i_dif, many_pcn hdf, Option.bind_some, sub_m1, h1, en227 hd he hE (fun j hj => (hB j hj).2) hjc]
    exact ih (j + 1) (by omega) fu (by omega)
theorem en23 (hd : DK td d) (he : e < d.1) (hE : CE td (d.2.2 e) c len pc tm bf pr K sl dy pe se) (hB : ∀ j, j < c → b (8 * e + j) = nI (bf j) ∧ w (8 * e + j) = nI (pr j)) :
    ∀ (m j : Nat), j + m = c → ∀ fu, m < fu → f_L_envelope_23 d b w fu (nI e) (nI (sta c K sl len)) (nI c) (nI (bs (fun k => decide (sst c bf K sl len k = 2)) j)) (nI (bs (fun k => decide (sst c bf K sl len k = 1)) j)) (nI j) = some 1 := by
  have hw := hE.2.2.2.1
  have h8 := hw.1
  have hn := hd.1
  intro m
  induction m with
  | zero =>
    intro j hj fu hfu
    obtain ⟨fu, rfl⟩ : ∃ g, fu = g + 1 := ⟨fu - 1, by omega⟩
    obtain rfl : j = c := by omega
    rw [f_L_envelope_23, if_pos (nI_le (Nat.le_refl _) (by omega)), set_2 hw, set_1 hw]
    exact en86 hd he hE hB j 0 (by omega) FU (by unfold FU; omega)
  | succ m ih =>
    intro j hj fu hfu
    obtain ⟨fu, rfl⟩ : ∃ g, fu = g + 1 := ⟨fu - 1, by omega⟩
    have hjc : j < c := by omega
    have hss := sst_le (c := c) (bf := bf) (K := K) (sl := sl) (len := len) j
    have ih := ih (j + 1) (by omega) fu (by omega)
    have h55 : ∀ x6 s0 s1' : Int32, s1' ||| s0 = nI (bs (fun k => decide (sst c bf K sl len k = 2)) (j + 1)) → f_L_envelope_55 d b w (f_L_envelope_23 d b w fu) (nI e) (nI (sta c K sl len)) (nI c) (nI (bs (fun k => decide (sst c bf K sl len k = 1)) j)) (nI j) (nI (sst c bf K sl len j)) s0 s1' = some 1 := by
      intro _ s0 s1' hx
      unfold f_L_envelope_55
      rw [hx, s1, i_one (show j < 32 by omega), fa_or, or_0]
      by_cases h1 : sst c bf K sl len j = 1
      · have e1 : bs (fun k => decide (sst c bf K sl len k = 1)) (j + 1) = bs (fun k => decide (sst c bf K sl len k = 1)) j ||| 2 ^ j := by rw [bs, if_pos (decide_eq_true h1)]
        rw [if_pos (by rw [h1]; rfl), ← e1]
        exact ih
      · have e1 : bs (fun k => decide (sst c bf K sl len k = 1)) (j + 1) = bs (fun k => decide (sst c bf K sl len k = 1)) j := by rw [bs, if_neg (by simpa using h1)]
        rw [if_neg (show ¬ nI (sst c bf K sl len j) = 1 from fun q => h1 ((nI_eq (b := 1) (by omega) (by decide)).mp q)), ← e1]
        exact ih
    rw [f_L_envelope_23, if_neg (nI_ge hjc (by omega)), (v_slotState hn he hE hjc).1, Option.bind_some, i_one (show j < 32 by omega)]
    by_cases h2 : sst c bf K sl len j = 2
    · have e2 : bs (fun k => decide (sst c bf K sl len k = 2)) (j + 1) = bs (fun k => decide (sst c bf K sl len k = 2)) j ||| 2 ^ j := by rw [bs, if_pos (decide_eq_true h2)]
      rw [if_pos (by rw [h2]; rfl)]
      exact h55 0 _ _ (by rw [fa_or, e2])
    · have e2 : bs (fun k => decide (sst c bf K sl len k = 2)) (j + 1) = bs (fun k => decide (sst c bf K sl len k = 2)) j := by rw [bs, if_neg (by simpa using h2)]
      rw [if_neg (show ¬ nI (sst c bf K sl len j) = 2 from fun q => h2 ((nI_eq (b := 2) (by omega) (by decide)).mp q))]
      exact h55 0 _ _ (by rw [or_0, e2])
theorem envelope_ok (hd : DK td d) (he : e < d.1) (hE : CE td (d.2.2 e) c len pc tm bf pr K sl dy pe se) (hB : ∀ j, j < c → b (8 * e + j) = nI (bf j) ∧ w (8 * e + j) = nI (pr j)) : f_L_envelope d b w (nI e) = some 1 := by
  have h8 := hE.2.2.2.1.1
  unfold f_L_envelope
  rw [(v_state hd.1 he hE).1, Option.bind_some, (v_slots hd.1 he hE).1, Option.bind_some]
  exact en23 hd he hE hB c 0 (by omega) FU (by unfold FU; omega)
end
