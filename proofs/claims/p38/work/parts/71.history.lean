/-! The law's look at the history of an envelope -/
section
theorem lmul (k a : Nat) : (OfNat.ofNat k : Int32) * nI a = nI (k * a) := nI_mul k a
theorem sealN_nat {a k P S w : Nat} {y z : Int32} (hy : y + (1 : Int32) = nI P) (hz : z + (1 : Int32) = nI S) : sealN (nI a) (nI k) y z (nI w) = nI (31 * a + 7 * k + 11 * P + 13 * S + 17 * w) := by
  unfold sealN
  rw [hy, hz, show (31 : Int32) * nI a = nI (31 * a) from nI_mul 31 a, show (7 : Int32) * nI k = nI (7 * k) from nI_mul 7 k, show (11 : Int32) * nI P = nI (11 * P) from nI_mul 11 P, show (13 : Int32) * nI S = nI (13 * S) from nI_mul 13 S, show (17 : Int32) * nI w = nI (17 * w) from nI_mul 17 w, nI_add, nI_add, nI_add, nI_add]
theorem seal_x {a k P w : Nat} {y : Int32} (hy : y + (1 : Int32) = nI P) : (((31 : Int32) * nI a) + ((7 : Int32) * nI k)) + ((11 : Int32) * (y + (1 : Int32))) + ((17 : Int32) * nI w) = nI (31 * a + 7 * k + 11 * P + 17 * w) := by
  rw [hy, show (31 : Int32) * nI a = nI (31 * a) from nI_mul 31 a, show (7 : Int32) * nI k = nI (7 * k) from nI_mul 7 k, show (11 : Int32) * nI P = nI (11 * P) from nI_mul 11 P, show (17 : Int32) * nI w = nI (17 * w) from nI_mul 17 w, nI_add, nI_add, nI_add]
theorem rem_M {x : Nat} (h : x < 2 ^ 31) : nI x - nI x / (65521 : Int32) * (65521 : Int32) = nI (x % 65521) := pk_rem (d := 65521) h (by decide) (by decide)
theorem rest_ok {X S : Nat} (hS : S ≤ 8) :
    (0 ≤ nI ((X + 13 * S) % 65521) - nI (X % 65521) ∧ nI ((X + 13 * S) % 65521) - nI (X % 65521) = nI (13 * S)) ∨ (¬ 0 ≤ nI ((X + 13 * S) % 65521) - nI (X % 65521) ∧ (nI ((X + 13 * S) % 65521) - nI (X % 65521)) + (65521 : Int32) = nI (13 * S)) := by
  have hB := Nat.mod_lt X (show 0 < 65521 by decide)
  have hA : (X + 13 * S) % 65521 = (X % 65521 + 13 * S) % 65521 := by rw [Nat.add_mod, Nat.mod_eq_of_lt (show 13 * S < 65521 by omega)]
  generalize hb : X % 65521 = B at hA hB
  rw [hA]
  by_cases h : B + 13 * S < 65521
  · left
    rw [Nat.mod_eq_of_lt h, nI_sub (show B ≤ B + 13 * S by omega), show B + 13 * S - B = 13 * S by omega]
    exact ⟨nI_pos' (by omega), rfl⟩
  · right
    have e : (B + 13 * S) % 65521 = B + 13 * S - 65521 := by
      rw [Nat.mod_eq_sub_mod (by omega), Nat.mod_eq_of_lt (by omega)]
    rw [e]
    have ht := pk_sub_toInt (a := B + 13 * S - 65521) (b := B) (by omega) (by omega)
    refine ⟨fun q => ?_, ?_⟩
    · have q2 := Int32.le_iff_toInt_le.mp q
      have h0 : (0 : Int32).toInt = 0 := by decide
      omega
    · have hx : nI (B + 13 * S - 65521) - nI B + (65521 : Int32) = nI (B + 13 * S - 65521 + 65521) - nI B := by
        rw [← nI_add, show (65521 : Int32) = nI 65521 from rfl, Int32.sub_eq_add_neg, Int32.sub_eq_add_neg, Int32.add_assoc, Int32.add_comm (-nI B), ← Int32.add_assoc]
      rw [hx, nI_sub (by omega), show B + 13 * S - 65521 + 65521 - B = 13 * S by omega]
variable {td e c len pc tm : Nat} {d : Dk} {b w : Nat → Int32} {bf pr K sl dy : Nat → Nat} {pe se : Nat → Int32}
theorem m1_1 : (-1 : Int32) + (1 : Int32) = nI 0 := by decide
theorem ev_cases (hE : CE td (d.2.2 e) c len pc tm bf pr K sl dy pe se) {i : Nat} (hi : i < len) :
    ((K i = 0 ∨ K i = 4 ∨ K i = 5) ∧ pe i = -1 ∧ se i = -1) ∨ ((K i = 1 ∨ K i = 2 ∨ K i = 3 ∨ K i = 6) ∧ se i = nI (sl i) ∧ sl i < c ∧ (sgn K sl i).testBit (sl i) = false ∧ dif (bf (sl i)) (sgn K sl i) = 0 ∧ ∃ q, q < 8 ∧ pe i = nI q ∧ (K i = 2 ↔ q ≠ pr (sl i))) := by
  have h6 := (hE.2.2.2.1.2.2.2.1 i hi).1
  by_cases h : K i = 0 ∨ K i = 4 ∨ K i = 5
  · exact Or.inl ⟨h, hE.2.2.1.2.1 i hi h⟩
  · have h2 : K i = 1 ∨ K i = 2 ∨ K i = 3 ∨ K i = 6 := by omega
    exact Or.inr ⟨h2, hE.2.2.1.1 i hi h2⟩
theorem ev_nums (hE : CE td (d.2.2 e) c len pc tm bf pr K sl dy pe se) {i : Nat} (hi : i < len) : ∃ P S, P ≤ 8 ∧ S ≤ 8 ∧ pe i + (1 : Int32) = nI P ∧ se i + (1 : Int32) = nI S ∧ (((K i = 0 ∨ K i = 4 ∨ K i = 5) ∧ S = 0) ∨ ((K i = 1 ∨ K i = 2 ∨ K i = 3 ∨ K i = 6) ∧ S = sl i + 1)) := by
  have h8 := hE.2.2.2.1.1
  rcases ev_cases hE hi with ⟨h, h1, h2⟩ | ⟨h, h1, h2, -, -, q, h5, h6, -⟩
  · exact ⟨0, 0, by omega, by omega, by rw [h1, m1_1], by rw [h2, m1_1], Or.inl ⟨h, rfl⟩⟩
  · exact ⟨q + 1, sl i + 1, by omega, by omega, by rw [h6, s1], by rw [h1, s1], Or.inr ⟨h, rfl⟩⟩
theorem sealF_nat (htd : td < 2 ^ 20) (hE : CE td (d.2.2 e) c len pc tm bf pr K sl dy pe se) : ∀ s, s ≤ len → ∃ a, a < 65521 ∧ sealF K dy pe se s = nI a
  | 0, _ => ⟨1, by omega, rfl⟩
  | s + 1, hs => by
    obtain ⟨a, ha, e1⟩ := sealF_nat htd hE s (by omega)
    obtain ⟨P, S, hP, hS, e2, e3, -⟩ := ev_nums hE (show s < len by omega)
    have h6 := (hE.2.2.2.1.2.2.2.1 s (by omega)).1
    have hd := hE.2.2.2.1.dle s (by omega)
    refine ⟨_, Nat.mod_lt (31 * a + 7 * K s + 11 * P + 13 * S + 17 * dy s) (by decide), ?_⟩
    rw [sealF, e1, sealN_nat e2 e3, rem_M (by omega)]
/-- the slots that are due -/
def due (c : Nat) (bf : Nat → Nat) (s : Nat) : Nat := dif (rdy bf s c) s
theorem due_bs {s : Nat} (hs : s < 2 ^ c) : bs (fun n => !s.testBit n && decide (dif (bf n) s = 0)) c = due c bf s := by
  apply nat_ext
  intro i
  unfold due
  rw [bs_bit, dif_bit, rdy_bit]
  cases s.testBit i <;> cases decide (dif (bf i) s = 0) <;> cases decide (i < c) <;> rfl
theorem hi540 {i : Nat} (hd : DK td d) (he : e < d.1) (hE : CE td (d.2.2 e) c len pc tm bf pr K sl dy pe se) (hi : i < len) (r : Int32 → Int32 → Int32 → Int32 → Int32 → Int32 → Option Int32) :
    f_L_history_540 d b w r (nI e) (nI len) (nI (sgn K sl (i + 1))) (nI c) 1 (nI i) (nI (K i)) (nI (opn c bf K sl (i + 1))) (nI (due c bf (sgn K sl (i + 1)))) = r (nI e) (nI len) (nI (sgn K sl (i + 1))) (nI c) 1 (nI (i + 1)) := by
  have hw := hE.2.2.2.1
  have h8 := hw.1
  have hn := hd.1
  have hsg := hw.sg (i + 1) (by omega)
  have hst := sta_le c K sl (i + 1)
  obtain ⟨w1, -, w3, w4, -, -⟩ := hw.2.2.2.1 i hi
  have hc0 : 0 < c := (hw.2.2.2.2.1 (by omega)).1
  have h2n : ∀ n : Nat, n ≤ 8 → ∀ k : Nat, k ≤ 8 → (nI n = nI k ↔ n = k) := fun n h1 k h2 => nI_eq (by omega) (by omega)
  have h625 : ∀ x : Int32, f_L_history_625 d b w r (nI e) (nI len) (nI (sgn K sl (i + 1))) (nI c) (nI i) (nI (sta c K sl (i + 1))) x x = r (nI e) (nI len) (nI (sgn K sl (i + 1))) (nI c) 1 (nI (i + 1)) := by
    intro x
    unfold f_L_history_625
    rw [if_pos rfl, s1, v_stB hn he hE (show i + 1 ≤ len by omega), Option.bind_some, if_pos rfl]
  have h1 : ¬ (1 : Int32) = 0 := by decide
  by_cases hk : K i = 3 ∨ K i = 4 ∨ K i = 5
  · have eT : sta c K sl (i + 1) = K i := by
      rw [sta, if_neg (by omega), if_neg (by omega), if_neg (by omega)]
      unfold endS
      rcases hk with q | q | q <;> rw [q] <;> rfl
    have eo : opn c bf K sl (i + 1) = 0 := by unfold opn; rw [if_neg (by omega)]
    rw [eT] at h625
    have h605 : f_L_history_605 d b w r (nI e) (nI len) (nI (sgn K sl (i + 1))) (nI c) 1 (nI i) (nI 0) (nI (due c bf (sgn K sl (i + 1)))) 1 (nI (K i)) = r (nI e) (nI len) (nI (sgn K sl (i + 1))) (nI c) 1 (nI (i + 1)) := by
      unfold f_L_history_605
      rw [if_neg h1, if_neg h1]
      exact h625 0
    unfold f_L_history_540 f_L_history_558
    rw [eo, if_neg (show ¬ nI (K i) ≤ 2 from nI_ge (a := 2) (by omega) (by omega)), if_neg (show ¬ (6 : Int32) ≤ nI (K i) from nI_ge (b := 6) (by omega) (by decide))]
    rcases hk with q | q | q
    · rw [q] at h605 ⊢
      rw [if_pos (show nI 3 = (3 : Int32) from rfl)]; exact h605
    · rw [q] at h605 ⊢
      rw [if_neg (show ¬ nI 4 = (3 : Int32) by decide), if_pos (show nI 4 = (4 : Int32) from rfl)]; exact h605
    · rw [q] at h605 ⊢
      rw [if_neg (show ¬ nI 5 = (3 : Int32) by decide), if_neg (show ¬ nI 5 = (4 : Int32) by decide), if_pos (show nI 5 = (5 : Int32) from rfl)]; exact h605
  · have hpa := pcn_all h8 hsg
    have hpl := pcn_le (sgn K sl (i + 1))
    have eT : sta c K sl (i + 1) = if pcn (sgn K sl (i + 1)) = c then 2 else 1 := by
      by_cases h0 : K i = 0
      · have hi0 := w3.mpr h0
        have es : sgn K sl (i + 1) = 0 := by subst hi0; rw [sgn, if_neg (by omega), sgn]
        rw [es, show pcn 0 = 0 by decide, if_neg (by omega), sta, if_pos h0]
      · by_cases h12 : K i = 1 ∨ K i = 2
        · rw [sta, if_neg h0, if_pos h12]
          by_cases ha : sgn K sl (i + 1) = 2 ^ c - 1
          · rw [if_pos ha, if_pos (hpa.mpr ha)]
          · rw [if_neg ha, if_neg (fun q => ha (hpa.mp q))]
        · have s0 := w4 (by omega)
          have es : sgn K sl (i + 1) = sgn K sl i := by rw [sgn, if_neg h12]
          have hna := sta_one hw hc0 i (by omega) s0
          rw [sta, if_neg h0, if_neg h12, if_pos (by omega), s0, es, if_neg (fun q => hna ((pcn_all h8 (hw.sg i (by omega))).mp q))]
    have eo : opn c bf K sl (i + 1) = due c bf (sgn K sl (i + 1)) := by
      rw [opn_rdy hw (by omega), eT]
      by_cases ha : pcn (sgn K sl (i + 1)) = c
      · rw [if_pos ha, if_neg (by decide)]
        unfold due
        rw [hpa.mp ha]
        exact (dif_all.mpr (rdy_lt bf _ c)).symm
      · rw [if_neg ha, if_pos rfl]; rfl
    have h605 : f_L_history_605 d b w r (nI e) (nI len) (nI (sgn K sl (i + 1))) (nI c) 1 (nI i) (nI (opn c bf K sl (i + 1))) (nI (due c bf (sgn K sl (i + 1)))) 0 (nI (sta c K sl (i + 1))) = r (nI e) (nI len) (nI (sgn K sl (i + 1))) (nI c) 1 (nI (i + 1)) := by
      unfold f_L_history_605
      rw [if_neg h1, if_pos rfl, eo]
      exact h625 _
    have h557 : f_L_history_557 d b w r (nI e) (nI len) (nI (sgn K sl (i + 1))) (nI c) 1 (nI i) (nI (K i)) (nI (opn c bf K sl (i + 1))) (nI (due c bf (sgn K sl (i + 1)))) = r (nI e) (nI len) (nI (sgn K sl (i + 1))) (nI c) 1 (nI (i + 1)) := by
      unfold f_L_history_557 f_L_history_558
      rw [if_neg (show ¬ nI (K i) = 3 from fun q => by have := (h2n _ (by omega) 3 (by omega)).mp q; omega), if_neg (show ¬ nI (K i) = 4 from fun q => by have := (h2n _ (by omega) 4 (by omega)).mp q; omega), if_neg (show ¬ nI (K i) = 5 from fun q => by have := (h2n _ (by omega) 5 (by omega)).mp q; omega), many_pcn (lt8 hsg h8), Option.bind_some]
      by_cases ha : pcn (sgn K sl (i + 1)) = c
      · rw [if_pos ha] at eT
        rw [eT] at h605
        rw [if_pos (by rw [ha])]
        exact h605
      · rw [if_neg ha] at eT
        rw [eT] at h605
        rw [if_neg (fun q => ha ((h2n _ (by omega) _ (by omega)).mp q))]
        exact h605
    unfold f_L_history_540
    by_cases h2 : K i ≤ 2
    · rw [if_pos (show nI (K i) ≤ 2 from nI_le (b := 2) h2 (by decide))]; exact h557
    · rw [if_neg (show ¬ nI (K i) ≤ 2 from nI_ge (a := 2) (by omega) (by omega)), if_pos (show (6 : Int32) ≤ nI (K i) from nI_le (a := 6) (by omega) (by omega))]; exact h557
theorem hi487 {i : Nat} (hd : DK td d) (he : e < d.1) (hE : CE td (d.2.2 e) c len pc tm bf pr K sl dy pe se) (hB : ∀ j, j < c → b (8 * e + j) = nI (bf j)) (hi : i < len) (r : Int32 → Int32 → Int32 → Int32 → Int32 → Int32 → Option Int32) :
    ∀ (m j : Nat), j + m = c → ∀ fu, m < fu → f_L_history_487 d b w r fu (nI e) (nI len) (nI (sgn K sl (i + 1))) (nI c) 1 (nI i) (nI (K i)) (nI (opn c bf K sl (i + 1))) (nI (bs (fun n => !(sgn K sl (i + 1)).testBit n && decide (dif (bf n) (sgn K sl (i + 1)) = 0)) j)) (nI j) = r (nI e) (nI len) (nI (sgn K sl (i + 1))) (nI c) 1 (nI (i + 1)) := by
  have hw := hE.2.2.2.1
  have h8 := hw.1
  have hn := hd.1
  have hsg := hw.sg (i + 1) (by omega)
  intro m
  induction m with
  | zero =>
    intro j hj fu hfu
    obtain ⟨fu, rfl⟩ : ∃ g, fu = g + 1 := ⟨fu - 1, by omega⟩
    obtain rfl : j = c := by omega
    rw [f_L_history_487, if_pos (nI_le (Nat.le_refl _) (by omega)), due_bs hsg]
    exact hi540 hd he hE hi r
  | succ m ih =>
    intro j hj fu hfu
    obtain ⟨fu, rfl⟩ : ∃ g, fu = g + 1 := ⟨fu - 1, by omega⟩
    have hjc : j < c := by omega
    have ih := ih (j + 1) (by omega) fu (by omega)
    have in1 : inb (nI (8 * e + j)) 48 := inb9 (by omega) (by decide)
    have hcl : (nI (8 * e + j)).toNatClampNeg = 8 * e + j := cl9 (by omega)
    have hdl : dif (bf j) (sgn K sl (i + 1)) < 256 := lt8 (dif_lt ((hw.2.2.1 j hjc).1)) (by omega)
    rw [f_L_history_487, if_neg (nI_ge hjc (by omega)), i_bit _ (show j < 31 by omega), ix8]
    simp only [if_pos in1, hcl]
    rw [hB j hjc, i_dif, i_one (show j < 32 by omega), fa_or, s1]
    unfold f_L_history_530
    rw [or_0, s1]
    rw [bs] at ih
    cases hb : (sgn K sl (i + 1)).testBit j with
    | true =>
      rw [hb, if_neg (by simp)] at ih
      rw [if_neg (show ¬ nI true.toNat = 0 by decide)]
      exact ih
    | false =>
      rw [hb] at ih
      rw [if_pos (show nI false.toNat = 0 from rfl)]
      by_cases hz : dif (bf j) (sgn K sl (i + 1)) = 0
      · rw [if_pos (by simp [hz])] at ih
        rw [if_pos (by rw [hz]; rfl)]
        exact ih
      · rw [if_neg (by simp [hz])] at ih
        rw [if_neg (fun q => hz ((nI_zero (by omega)).mp q))]
        exact ih
theorem hi451 {i : Nat} (hd : DK td d) (he : e < d.1) (hE : CE td (d.2.2 e) c len pc tm bf pr K sl dy pe se) (hB : ∀ j, j < c → b (8 * e + j) = nI (bf j)) (hi : i < len) (r : Int32 → Int32 → Int32 → Int32 → Int32 → Int32 → Option Int32) (x13 : Int32) (hx : K i = 1 ∨ K i = 2 → x13 = nI (sl i) ∧ sl i < c) :
    f_L_history_451 d b w r (nI e) (nI len) (nI (sgn K sl i)) (nI c) 1 (nI i) (nI (K i)) x13 (nI (opn c bf K sl (i + 1))) = r (nI e) (nI len) (nI (sgn K sl (i + 1))) (nI c) 1 (nI (i + 1)) := by
  have hw := hE.2.2.2.1
  have h8 := hw.1
  obtain ⟨w1, -, -, -, -, -⟩ := hw.2.2.2.1 i hi
  have h478 := hi487 (w := w) hd he hE hB hi r c 0 (by omega) FU (by unfold FU; omega)
  have h478 : f_L_history_487 d b w r FU (nI e) (nI len) (nI (sgn K sl (i + 1))) (nI c) 1 (nI i) (nI (K i)) (nI (opn c bf K sl (i + 1))) 0 0 = r (nI e) (nI len) (nI (sgn K sl (i + 1))) (nI c) 1 (nI (i + 1)) := h478
  have h2n : ∀ n : Nat, n ≤ 8 → ∀ k : Nat, k ≤ 8 → (nI n = nI k ↔ n = k) := fun n h1 k h2 => nI_eq (by omega) (by omega)
  unfold f_L_history_451 f_L_history_477 f_L_history_478
  rw [if_neg (show ¬ (1 : Int32) = 0 by decide), or_0]
  by_cases h12 : K i = 1 ∨ K i = 2
  · obtain ⟨e1, e2⟩ := hx h12
    have es : nI (sgn K sl i) ||| (1 : Int32) <<< (x13 &&& 31) = nI (sgn K sl (i + 1)) := by rw [e1, i_one (show sl i < 32 by omega), fa_or, sgn, if_pos h12]
    rw [es]
    rcases h12 with q | q
    · rw [if_pos (by rw [q]; rfl)]; exact h478
    · rw [if_neg (by rw [q]; decide), if_pos (by rw [q]; rfl)]; exact h478
  · have es : sgn K sl (i + 1) = sgn K sl i := by rw [sgn, if_neg h12]
    rw [if_neg (show ¬ nI (K i) = 1 from fun q => by have := (h2n _ (by omega) 1 (by omega)).mp q; omega), if_neg (show ¬ nI (K i) = 2 from fun q => by have := (h2n _ (by omega) 2 (by omega)).mp q; omega), ← es]
    exact h478
theorem nI_pred9 (n : Nat) : nI (n + 1) - (1 : Int32) = nI n := by rw [sub_m1, pk_m1]
set_option maxHeartbeats 1000000 in
theorem hi317 {i : Nat} (htd : td < 2 ^ 20) (hd : DK td d) (he : e < d.1) (hE : CE td (d.2.2 e) c len pc tm bf pr K sl dy pe se) (hi : i < len) (r : Int32 → Int32 → Int32 → Int32 → Int32 → Int32 → Option Int32) (x10 x13 x14 x15 x16 : Int32) :
    f_L_history_317 d b w r (nI e) (nI len) (nI (sgn K sl i)) (nI c) (nI i) (nI (K i)) x10 (nI (dy i)) x13 x14 x15 x16 = f_L_history_384 d b w r (nI e) (nI len) (nI (sgn K sl i)) (nI c) (nI i) (nI (K i)) x10 x13 x14 x15 x16 1 := by
  have hw := hE.2.2.2.1
  have h8 := hw.1
  have hn := hd.1
  have hl := hw.2.1
  obtain ⟨w1, w2, w3, w4, -, -⟩ := hw.2.2.2.1 i hi
  have h370 : f_L_history_370 d b w r (nI e) (nI len) (nI (sgn K sl i)) (nI c) (nI i) (nI (K i)) x10 (nI (dy i)) x13 x14 x15 x16 = f_L_history_384 d b w r (nI e) (nI len) (nI (sgn K sl i)) (nI c) (nI i) (nI (K i)) x10 x13 x14 x15 x16 1 := by
    unfold f_L_history_370
    rw [v_today d hn, Option.bind_some, hd.2.1, if_neg (nI_nlt w2 (by omega))]
  have h337 : ∀ x : Int32, f_L_history_337 d b w r (nI e) (nI len) (nI (sgn K sl i)) (nI c) (nI i) (nI (K i)) x10 (nI (dy i)) x13 x14 x15 x16 x x = f_L_history_384 d b w r (nI e) (nI len) (nI (sgn K sl i)) (nI c) (nI i) (nI (K i)) x10 x13 x14 x15 x16 1 := by
    intro x
    unfold f_L_history_337
    rw [if_pos rfl]
    by_cases h0 : i = 0
    · rw [if_pos (by rw [h0]; rfl)]; exact h370
    · obtain ⟨i', rfl⟩ : ∃ g, i = g + 1 := ⟨i - 1, by omega⟩
      have hdd := hE.2.2.1.2.2 i' hi
      rw [if_neg (fun q => h0 ((nI_zero (by omega)).mp q)), v_stB hn he hE (show i' + 1 ≤ len by omega), Option.bind_some, w4 (by omega), if_pos (show nI 1 = (1 : Int32) from rfl), nI_pred9, v_day hn he hE (show i' < len by omega), Option.bind_some, if_neg (nI_nlt hdd (by omega))]
      exact h370
  unfold f_L_history_317 f_L_history_327
  by_cases h0 : i = 0
  · have hk := w3.mp h0
    rw [if_pos (show nI i = 0 by rw [h0]; rfl), if_pos (by rw [hk]; rfl)]
    exact h337 1
  · rw [if_neg (show ¬ nI i = 0 from fun q => h0 ((nI_zero (by omega)).mp q)), if_neg (fun q => h0 (w3.mpr ((nI_zero (by omega)).mp q)))]
    exact h337 0
set_option maxHeartbeats 1000000 in
theorem hi216 {i S : Nat} (htd : td < 2 ^ 20) (hd : DK td d) (he : e < d.1) (hE : CE td (d.2.2 e) c len pc tm bf pr K sl dy pe se) (hB : ∀ j, j < c → b (8 * e + j) = nI (bf j) ∧ w (8 * e + j) = nI (pr j)) (hi : i < len) (r : Int32 → Int32 → Int32 → Int32 → Int32 → Int32 → Option Int32)
    (hS : ((K i = 0 ∨ K i = 4 ∨ K i = 5) ∧ S = 0) ∨ ((K i = 1 ∨ K i = 2 ∨ K i = 3 ∨ K i = 6) ∧ S = sl i + 1)) :
    f_L_history_216 d b w r (nI e) (nI len) (nI (sgn K sl i)) (nI c) (nI i) (nI (K i)) (pe i) (nI (dy i)) (nI (13 * S)) = r (nI e) (nI len) (nI (sgn K sl (i + 1))) (nI c) 1 (nI (i + 1)) := by
  have hw := hE.2.2.2.1
  have h8 := hw.1
  have hn := hd.1
  obtain ⟨w1, w2, w3, w4, -, -⟩ := hw.2.2.2.1 i hi
  have h2n : ∀ n : Nat, n ≤ 8 → ∀ k : Nat, k ≤ 8 → (nI n = nI k ↔ n = k) := fun n h1 k h2 => nI_eq (by omega) (by omega)
  have h1 : ¬ (1 : Int32) = 0 := by decide
  have hB1 : ∀ j, j < c → b (8 * e + j) = nI (bf j) := fun j hj => (hB j hj).1
  rcases ev_cases hE hi with ⟨hk, p1, p2⟩ | ⟨hk, p1, p2, p3, p4, q, p5, p6, p7⟩
  · -- an event without a slot
    have hS0 : S = 0 := by rcases hS with ⟨_, h⟩ | ⟨h, _⟩; exact h; omega
    subst hS0
    have hs : nI (13 * 0) / (13 : Int32) - (1 : Int32) = -1 := by decide
    have h451 := hi451 (w := w) hd he hE hB1 hi r (-1) (fun h => by omega)
    have h384 : f_L_history_384 d b w r (nI e) (nI len) (nI (sgn K sl i)) (nI c) (nI i) (nI (K i)) (-1) (-1) (nI (opn c bf K sl i)) (nI (opn c bf K sl (i + 1))) 1 1 = r (nI e) (nI len) (nI (sgn K sl (i + 1))) (nI c) 1 (nI (i + 1)) := by
      unfold f_L_history_384
      rw [if_neg h1, if_neg h1]
      exact h451
    have h270 : f_L_history_270 d b w r (nI e) (nI len) (nI (sgn K sl i)) (nI c) (nI i) (nI (K i)) (-1) (nI (dy i)) (nI (13 * 0)) (-1) (nI (opn c bf K sl i)) (nI (opn c bf K sl (i + 1))) 1 = r (nI e) (nI len) (nI (sgn K sl (i + 1))) (nI c) 1 (nI (i + 1)) := by
      unfold f_L_history_270
      rw [if_pos (by decide), if_neg (show ¬ nI c ≤ -1 from fun z => by
        have z2 := Int32.le_iff_toInt_le.mp z
        have z3 : (nI c).toInt = c := by show (Int32.ofNat c).toInt = c; exact Int32.toInt_ofNat_of_lt (by omega)
        have z4 : (-1 : Int32).toInt = -1 := by decide
        omega), if_neg h1, if_pos rfl, if_pos rfl, hi317 htd hd he hE hi]
      exact h384
    unfold f_L_history_216
    rw [s1, v_opB hn he hE (show i ≤ len by omega), Option.bind_some, v_opB hn he hE (show i + 1 ≤ len by omega), Option.bind_some, hs, p1]
    rcases hk with z | z | z
    · rw [if_pos (by rw [z]; rfl)]; exact h270
    · rw [if_neg (show ¬ nI (K i) = 0 by rw [z]; decide), if_neg (show ¬ nI (K i) ≤ 3 by rw [z]; decide), if_neg (show ¬ (6 : Int32) ≤ nI (K i) by rw [z]; decide)]; exact h270
    · rw [if_neg (show ¬ nI (K i) = 0 by rw [z]; decide), if_neg (show ¬ nI (K i) ≤ 3 by rw [z]; decide), if_neg (show ¬ (6 : Int32) ≤ nI (K i) by rw [z]; decide)]; exact h270
  · -- an event of a slot
    have hS0 : S = sl i + 1 := by rcases hS with ⟨h, _⟩ | ⟨_, h⟩; omega; exact h
    subst hS0
    have hs : nI (13 * (sl i + 1)) / (13 : Int32) - (1 : Int32) = nI (sl i) := by
      rw [show nI (13 * (sl i + 1)) / (13 : Int32) = nI (13 * (sl i + 1) / 13) from pk_div (d := 13) (by omega) (by decide) (by decide), Nat.mul_div_cancel_left _ (by decide), nI_pred9]
    have hrem : nI (13 * (sl i + 1)) - nI (13 * (sl i + 1)) / (13 : Int32) * (13 : Int32) = 0 := by
      rw [show nI (13 * (sl i + 1)) - nI (13 * (sl i + 1)) / (13 : Int32) * (13 : Int32) = nI (13 * (sl i + 1) % 13) from pk_rem (d := 13) (by omega) (by decide) (by decide), Nat.mul_mod_right]
      rfl
    have h451 := hi451 (w := w) hd he hE hB1 hi r (nI (sl i)) (fun _ => ⟨rfl, p2⟩)
    have hopn : (opn c bf K sl i).testBit (sl i) = true := by
      rw [opn_rdy hw (by omega), w4 (by omega), if_pos rfl, dif_bit, rdy_bit, decide_eq_true p2, p3, decide_eq_true p4]
      rfl
    have in1 : inb (nI (8 * e + sl i)) 48 := inb9 (by omega) (by decide)
    have hcl : (nI (8 * e + sl i)).toNatClampNeg = 8 * e + sl i := cl9 (by omega)
    have hpr := (hw.2.2.1 _ p2).2
    have h384 : f_L_history_384 d b w r (nI e) (nI len) (nI (sgn K sl i)) (nI c) (nI i) (nI (K i)) (nI q) (nI (sl i)) (nI (opn c bf K sl i)) (nI (opn c bf K sl (i + 1))) 0 1 = r (nI e) (nI len) (nI (sgn K sl (i + 1))) (nI c) 1 (nI (i + 1)) := by
      unfold f_L_history_384 f_L_history_449
      rw [if_neg h1, if_pos rfl, i_bit _ (show sl i < 31 by omega), hopn, if_pos (show nI true.toNat = 1 from rfl), ix8]
      simp only [if_pos in1, hcl]
      rw [(hB _ p2).2]
      by_cases h2 : K i = 2
      · rw [if_pos (by rw [h2]; rfl), if_neg (fun z => p7.mp h2 ((h2n _ (by omega) _ (by omega)).mp z))]
        exact h451
      · have hq : q = pr (sl i) := Classical.byContradiction (fun z => h2 (p7.mpr z))
        rw [if_neg (show ¬ nI (K i) = 2 from fun z => h2 ((h2n _ (by omega) 2 (by omega)).mp z)), if_pos (by rw [hq])]
        exact h451
    have h270 : f_L_history_270 d b w r (nI e) (nI len) (nI (sgn K sl i)) (nI c) (nI i) (nI (K i)) (nI q) (nI (dy i)) (nI (13 * (sl i + 1))) (nI (sl i)) (nI (opn c bf K sl i)) (nI (opn c bf K sl (i + 1))) 0 = r (nI e) (nI len) (nI (sgn K sl (i + 1))) (nI c) 1 (nI (i + 1)) := by
      unfold f_L_history_270
      rw [if_pos hrem, if_neg (nI_ge p2 (by omega)), if_pos rfl, if_neg (nI_pos (by omega)), if_neg (nI_pos (by omega)), hi317 htd hd he hE hi]
      exact h384
    have h269 : f_L_history_269 d b w r (nI e) (nI len) (nI (sgn K sl i)) (nI c) (nI i) (nI (K i)) (nI q) (nI (dy i)) (nI (13 * (sl i + 1))) (nI (sl i)) (nI (opn c bf K sl i)) (nI (opn c bf K sl (i + 1))) = r (nI e) (nI len) (nI (sgn K sl (i + 1))) (nI c) 1 (nI (i + 1)) := by
      unfold f_L_history_269
      exact h270
    unfold f_L_history_216
    rw [s1, v_opB hn he hE (show i ≤ len by omega), Option.bind_some, v_opB hn he hE (show i + 1 ≤ len by omega), Option.bind_some, hs, p6, if_neg (show ¬ nI (K i) = 0 from fun z => by have := (h2n _ (by omega) 0 (by omega)).mp z; omega)]
    by_cases h3 : K i ≤ 3
    · rw [if_pos (show nI (K i) ≤ 3 from nI_le (b := 3) h3 (by decide))]; exact h269
    · rw [if_neg (show ¬ nI (K i) ≤ 3 from nI_ge (a := 3) (by omega) (by omega)), if_pos (show (6 : Int32) ≤ nI (K i) from nI_le (a := 6) (by omega) (by omega))]; exact h269
theorem hi117 (htd : td < 2 ^ 20) (hd : DK td d) (he : e < d.1) (hE : CE td (d.2.2 e) c len pc tm bf pr K sl dy pe se) (hB : ∀ j, j < c → b (8 * e + j) = nI (bf j) ∧ w (8 * e + j) = nI (pr j)) :
    ∀ (m i : Nat), i + m = len → ∀ fu, m < fu → f_L_history_117 d b w fu (nI e) (nI len) (nI (sgn K sl i)) (nI c) 1 (nI i) = some 1 := by
  have hw := hE.2.2.2.1
  have h8 := hw.1
  have hn := hd.1
  have hl := hw.2.1
  intro m
  induction m with
  | zero =>
    intro i hi fu hfu
    obtain ⟨fu, rfl⟩ : ∃ g, fu = g + 1 := ⟨fu - 1, by omega⟩
    rw [f_L_history_117, if_pos (nI_le (show len ≤ i by omega) (by omega)), if_pos (Or.inr rfl)]
  | succ m ih =>
    intro i hi fu hfu
    obtain ⟨fu, rfl⟩ : ∃ g, fu = g + 1 := ⟨fu - 1, by omega⟩
    have hil : i < len := by omega
    have ih := ih (i + 1) (by omega) fu (by omega)
    obtain ⟨a, ha, ea⟩ := sealF_nat htd hE i (by omega)
    obtain ⟨P, S, hP, hS, e2, e3, hKS⟩ := ev_nums hE hil
    have h6 := (hw.2.2.2.1 i hil).1
    have hdd := hw.dle i hil
    have es : sealF K dy pe se (i + 1) = nI ((31 * a + 7 * K i + 11 * P + 17 * dy i + 13 * S) % 65521) := by
      rw [sealF, ea, sealN_nat e2 e3, rem_M (by omega)]
      congr 2
      omega
    have h216 := hi216 htd hd he hE hB hil (f_L_history_117 d b w fu) hKS
    rw [f_L_history_117, if_neg (nI_ge hil (by omega)), if_neg (by decide), v_kind hn he hE hil, Option.bind_some, v_person hn he hE hil, Option.bind_some, v_day hn he hE hil, Option.bind_some, s1, v_seal hn he hE (show i + 1 ≤ len by omega), Option.bind_some, v_seal hn he hE (show i ≤ len by omega), Option.bind_some, ea, seal_x e2, rem_M (by omega), es]
    rcases rest_ok (X := 31 * a + 7 * K i + 11 * P + 17 * dy i) hS with ⟨r1, r2⟩ | ⟨r1, r2⟩
    · rw [if_pos r1, r2, h216]; exact ih
    · rw [if_neg r1, r2, h216]; exact ih
theorem out_events {s : Int32} {σ : SS} (hl : len ≤ 49) (h9 : σ 9 0 = nI len) (hx : s < 0 ∨ ¬ s ≤ nI len) : f_X4_refuseTooManyEvents (hs σ) s = some (.inl IOB) := by
  unfold f_X4_refuseTooManyEvents
  by_cases h : s < 0
  · rw [if_pos h]; rfl
  · rw [if_neg h, show hs σ 4 0 = nI len from h9, if_neg (hx.resolve_left h)]; rfl
theorem history_ok (htd : td < 2 ^ 20) (hd : DK td d) (he : e < d.1) (hE : CE td (d.2.2 e) c len pc tm bf pr K sl dy pe se) (hB : ∀ j, j < c → b (8 * e + j) = nI (bf j) ∧ w (8 * e + j) = nI (pr j)) : f_L_history d b w (nI e) = some 1 := by
  have hw := hE.2.2.2.1
  have h8 := hw.1
  have hn := hd.1
  have hl := hw.2.1
  have hc := hE.2.2.2.2
  have h9 := hc.2.2.2.1
  have o1 : f_X4_refuseTooManyEvents (hs (d.2.2 e)) (nI (len + 1)) = some (.inl IOB) := out_events hl h9 (Or.inr (nI_ge (by omega) (by omega)))
  have o2 : f_X4_refuseTooManyEvents (hs (d.2.2 e)) (-1) = some (.inl IOB) := out_events hl h9 (Or.inl (by decide))
  have o3 : f_X4_refuseNoEvent (hs (d.2.2 e)) (nI len) = some (.inl IOB) := by
    unfold f_X4_refuseNoEvent
    rw [if_neg (nI_pos (by omega)), show hs (d.2.2 e) 4 0 = nI len from h9, if_neg (nI_nlt (Nat.le_refl _) (by omega))]
    rfl
  have g1 : gm_seal d (nI e) (nI (len + 1)) = some (-1000001) := by
    unfold gm_seal f_X4_seal
    rw [if_pos hn, env_at he hn, xb_inr, o1]; rfl
  have g2 : gm_seal d (nI e) (-1) = some (-1000001) := by
    unfold gm_seal f_X4_seal
    rw [if_pos hn, env_at he hn, xb_inr, o2]; rfl
  have g3 : gm_kindOf d (nI e) (nI len) = some (-1000001) := by
    unfold gm_kindOf f_X4_kindOf
    rw [if_pos hn, env_at he hn, xb_inr, o3]; rfl
  have g4 : gm_stateBehind d (nI e) (nI (len + 1)) = some (-1000001) := by
    unfold gm_stateBehind f_X4_stateBehind
    rw [if_pos hn, env_at he hn, xb_inr, o1]; rfl
  have g5 : gm_openBehind d (nI e) (-1) = some (-1000001) := by
    unfold gm_openBehind f_X4_openBehind
    rw [if_pos hn, env_at he hn, xb_inr, o2]; rfl
  have a0 := v_stB (s := 0) hn he hE (Nat.zero_le _)
  have a0 : gn_stateBehind d (nI e) 0 = some 0 := a0
  have a1 := v_opB (s := 0) hn he hE (Nat.zero_le _)
  have a1 : gn_openBehind d (nI e) 0 = some (nI (opn c bf K sl 0)) := a1
  have eo : opn c bf K sl 0 = 0 := by unfold opn; rw [sta, if_neg (by decide)]
  rw [eo] at a1
  have a2 := v_seal (s := 0) hn he hE (Nat.zero_le _)
  have a2 : gn_seal d (nI e) 0 = some 1 := a2
  have h117 := hi117 htd hd he hE hB len 0 (by omega) FU (by unfold FU; omega)
  have h117 : f_L_history_117 d b w FU (nI e) (nI len) 0 (nI c) 1 0 = some 1 := h117
  unfold f_L_history
  rw [v_events hn he hE, Option.bind_some, (v_slots hn he hE).1, Option.bind_some, a0, Option.bind_some, if_pos rfl, a1, Option.bind_some, if_pos nI_0, a2, Option.bind_some, if_pos rfl, s1, g1, Option.bind_some, if_pos rfl, g2, Option.bind_some, if_pos rfl, g3, Option.bind_some, if_pos rfl, g4, Option.bind_some, if_pos rfl, g5, Option.bind_some, if_pos rfl]
  exact h117
end
