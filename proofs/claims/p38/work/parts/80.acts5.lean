/-! The law's calls by a script: all of them -/
section
variable {t td e c len pc tm p j k : Nat} {d u : Dk} {b w : Nat → Int32} {bf pr K sl dy : Nat → Nat} {pe se : Nat → Int32}
theorem kd_le {a : Nat} (h : a ≤ k) (hk : k < 20) : nI a ≤ nI k := nI_le h (by omega)
theorem kd_gt {a : Nat} (h : k < a) (ha : a < 20) : ¬ nI a ≤ nI k := nI_ge h (by omega)
theorem kd_ne {a : Nat} (h : k ≠ a) (hk : k < 20) (ha : a < 20) : ¬ nI k = nI a := fun q => h ((nI_eq (by omega) (by omega)).mp q)
theorem low_1 (x : Int32) {n : Nat} {y : Int32} (hy : y = nI n) (h0 : 0 < n) (hn : n < 2 ^ 31) : ∃ k, k < n ∧ f_L_low x y = some (nI k) := by
  rw [hy]
  exact low_ok x h0 hn
theorem and_all (k4 : Nat) (hc : c ≤ 8) : nI k4 &&& (((1 : Int32) <<< (nI c &&& 31)) - (1 : Int32)) = nI (k4 &&& (2 ^ c - 1)) ∧ k4 &&& (2 ^ c - 1) < 2 ^ c := by
  have := Nat.two_pow_pos c
  refine ⟨by rw [i_all hc, fa_and], Nat.lt_of_le_of_lt Nat.and_le_right (by omega)⟩
theorem many_rq {p k3 k4 : Nat} (hp : p < 8) (h3 : k3 < 256) : f_L_many (nI (rq p k3 k4)) = some (nI (pcn (rq p k3 k4))) := many_pcn (rq_lt hp h3)
set_option maxHeartbeats 2000000 in
theorem acts68_no (h : LI t td d b w) (hu : Twin d u) (ht : t < 2 ^ 20) (h6 : e < 6) (he : d.1 ≤ e) (hk : k < 20) (x5 : Int32) : AR t (f_L_acts_68 d u b w x5 (nI k) (nI e) 0 (-1) 0) := by
  obtain ⟨p, hp, l1⟩ := low_1 x5 (y := 8) (n := 8) rfl (by decide) (by decide)
  obtain ⟨j, hj, l2⟩ := low_1 (x5 >>> ((3 : Int32) &&& 31)) (y := 0 + 1) (n := 1) rfl (by decide) (by decide)
  unfold f_L_acts_68
  rw [l1, Option.bind_some, l2, Option.bind_some]
  by_cases k2 : 2 ≤ k
  · rw [if_pos (show (2 : Int32) ≤ nI k from kd_le (a := 2) k2 hk)]
    by_cases k7 : 7 ≤ k
    · rw [if_pos (show (7 : Int32) ≤ nI k from kd_le (a := 7) k7 hk)]
      by_cases e7 : k = 7
      · obtain ⟨k3, b3, l3⟩ := low_1 (x5 >>> ((4 : Int32) &&& 31)) (y := 256) (n := 256) rfl (by decide) (by decide)
        obtain ⟨k4, b4, l4⟩ := low_1 (x5 >>> ((12 : Int32) &&& 31)) (y := 256) (n := 256) rfl (by decide) (by decide)
        rw [if_pos (show nI k = (7 : Int32) by rw [e7]; rfl), l3, Option.bind_some, l4, Option.bind_some, if_pos rfl, rq_eq hp]
        exact a395_no h hu h6 he
      · rw [if_neg (show ¬ nI k = (7 : Int32) from kd_ne (a := 7) e7 hk (by decide))]
        by_cases e8 : k = 8
        · rw [if_pos (show nI k = (8 : Int32) by rw [e8]; rfl), if_pos rfl]
          exact a546_no h hu h6 he x5
        · rw [if_neg (show ¬ nI k = (8 : Int32) from kd_ne (a := 8) e8 hk (by decide))]
          by_cases e9 : k = 9
          · rw [if_pos (show nI k = (9 : Int32) by rw [e9]; rfl)]
            exact s_send_no h hu h6 he (-1) 0
          · rw [if_neg (show ¬ nI k = (9 : Int32) from kd_ne (a := 9) e9 hk (by decide))]
            by_cases k15 : 15 ≤ k
            · rw [if_pos (show (15 : Int32) ≤ nI k from kd_le (a := 15) k15 hk)]
              by_cases e15 : k = 15
              · obtain ⟨k3, b3, l3⟩ := low_1 (x5 >>> ((8 : Int32) &&& 31)) (y := 2) (n := 2) rfl (by decide) (by decide)
                rw [if_pos (show nI k = (15 : Int32) by rw [e15]; rfl), l3, Option.bind_some]
                split
                · exact s_ends_no h hu h6 he hp _ _ _ _
                · exact s_ends_no h hu h6 he hp _ _ _ _
              · rw [if_neg (show ¬ nI k = (15 : Int32) from kd_ne (a := 15) e15 hk (by decide))]
                by_cases k18 : 18 ≤ k
                · rw [if_pos (show (18 : Int32) ≤ nI k from kd_le (a := 18) k18 hk)]
                  by_cases e18 : k = 18
                  · rw [if_pos (show nI k = (18 : Int32) by rw [e18]; rfl)]
                    exact s_revo_ok h hu hp
                  · obtain ⟨k3, b3, l3⟩ := low_1 (x5 >>> ((6 : Int32) &&& 31)) (y := 4) (n := 4) rfl (by decide) (by decide)
                    rw [if_neg (show ¬ nI k = (18 : Int32) from kd_ne (a := 18) e18 hk (by decide)), l3, Option.bind_some]
                    split
                    · exact a1541 (n := 60) h hu ht h6 (by decide) (by decide) x5
                    · exact a1541 (n := 7) h hu ht h6 (by decide) (by decide) x5
                · obtain ⟨q, hq, l3⟩ := low_1 (x5 >>> ((3 : Int32) &&& 31)) (y := 8) (n := 8) rfl (by decide) (by decide)
                  obtain ⟨k5, b5, l5⟩ := low_1 (x5 >>> ((6 : Int32) &&& 31)) (y := 5) (n := 5) rfl (by decide) (by decide)
                  obtain ⟨k6, b6, l6⟩ := low_1 (x5 >>> ((9 : Int32) &&& 31)) (y := 12) (n := 12) rfl (by decide) (by decide)
                  obtain ⟨k8, b8, l8⟩ := low_1 (x5 >>> ((13 : Int32) &&& 31)) (y := 11) (n := 11) rfl (by decide) (by decide)
                  rw [if_neg (show ¬ (18 : Int32) ≤ nI k from kd_gt (a := 18) (by omega) (by decide)), l3, Option.bind_some, v_today d h.2.1, Option.bind_some, l5, Option.bind_some, l6, Option.bind_some, l8, Option.bind_some, ← v_today d h.2.1]
                  exact s_dele_ok h hu hp hq b8
            · rw [if_neg (show ¬ (15 : Int32) ≤ nI k from kd_gt (a := 15) (by omega) (by decide))]
              exact s_sign_no h hu h6 he hp x5 (nI j)
    · obtain ⟨k3, b3, l3⟩ := low_1 (x5 >>> ((5 : Int32) &&& 31)) (y := 3) (n := 3) rfl (by decide) (by decide)
      obtain ⟨k4, b4, l4⟩ := low_1 (x5 >>> ((7 : Int32) &&& 31)) (y := 256) (n := 256) rfl (by decide) (by decide)
      rw [if_neg (show ¬ (7 : Int32) ≤ nI k from kd_gt (a := 7) (by omega) (by decide)), l3, Option.bind_some]
      split
      · exact a182_no (bs := 0) h hu h6 he _ _
      · have a0 := (and_all (c := 0) k4 (by omega)).1
        have a0 : nI k4 &&& (((1 : Int32) <<< ((0 : Int32) &&& 31)) - (1 : Int32)) = nI (k4 &&& (2 ^ 0 - 1)) := a0
        rw [l4, Option.bind_some, a0]
        exact a182_no h hu h6 he _ _
  · rw [if_neg (show ¬ (2 : Int32) ≤ nI k from kd_gt (a := 2) (by omega) (by decide))]
    exact a_draft h hu
set_option maxHeartbeats 2000000 in
theorem acts68_ok (h : LI t td d b w) (hu : Twin d u) (ht : t < 2 ^ 20) (he : e < d.1) (hE : CE td (d.2.2 e) c len pc tm bf pr K sl dy pe se) (hB : ∀ j, j < c → b (8 * e + j) = nI (bf j) ∧ w (8 * e + j) = nI (pr j)) (hk : k < 20) (x5 : Int32) : AR t (f_L_acts_68 d u b w x5 (nI k) (nI e) 1 (nI (sta c K sl len)) (nI c)) := by
  have hn := h.2.1
  have h6 : e < 6 := by omega
  have hw := hE.2.2.2.1
  have h8 := hw.1
  have hst := sta_le c K sl len
  have n1 : ¬ (1 : Int32) = 0 := by decide
  obtain ⟨p, hp, l1⟩ := low_1 x5 (y := 8) (n := 8) rfl (by decide) (by decide)
  obtain ⟨j, hj, l2⟩ := low_1 (x5 >>> ((3 : Int32) &&& 31)) (y := nI c + 1) (n := c + 1) (s1 c) (by omega) (by omega)
  have hj : j ≤ c := by omega
  unfold f_L_acts_68
  rw [l1, Option.bind_some, l2, Option.bind_some]
  by_cases k2 : 2 ≤ k
  · rw [if_pos (show (2 : Int32) ≤ nI k from kd_le (a := 2) k2 hk)]
    by_cases k7 : 7 ≤ k
    · rw [if_pos (show (7 : Int32) ≤ nI k from kd_le (a := 7) k7 hk)]
      by_cases e7 : k = 7
      · obtain ⟨k3, b3, l3⟩ := low_1 (x5 >>> ((4 : Int32) &&& 31)) (y := 256) (n := 256) rfl (by decide) (by decide)
        obtain ⟨k4, b4, l4⟩ := low_1 (x5 >>> ((12 : Int32) &&& 31)) (y := 256) (n := 256) rfl (by decide) (by decide)
        have q1 := rq_lt (k4 := k4) hp b3
        have q0 := rq_pos (p := p) (k3 := k3) (k4 := k4)
        have qm := many_rq (k4 := k4) hp b3
        have qp := pcn_le (rq p k3 k4)
        rw [if_pos (show nI k = (7 : Int32) by rw [e7]; rfl), l3, Option.bind_some, l4, Option.bind_some, if_neg n1, rq_eq hp, qm, Option.bind_some, Option.bind_some, nI_add]
        by_cases hs : sta c K sl len = 0
        · rw [if_pos (show nI (sta c K sl len) = 0 by rw [hs]; rfl)]
          by_cases hq : c + pcn (rq p k3 k4) ≤ 8
          · rw [if_pos (show nI (c + pcn (rq p k3 k4)) ≤ 8 from nI_le (b := 8) hq (by decide))]
            exact a395_ok h hu he hE hB q0 q1 hs hq
          · rw [if_neg (show ¬ nI (c + pcn (rq p k3 k4)) ≤ 8 from nI_ge (a := 8) (by omega) (by omega))]
            exact a395_st h hu he hE q0 q1 (Or.inr (by omega))
        · rw [if_neg (show ¬ nI (sta c K sl len) = 0 from fun z => hs ((nI_zero (by omega)).mp z))]
          exact a395_st h hu he hE q0 q1 (Or.inl hs)
      · rw [if_neg (show ¬ nI k = (7 : Int32) from kd_ne (a := 7) e7 hk (by decide))]
        by_cases e8 : k = 8
        · have g := a546_ok h hu he hE hB x5
          rw [if_pos (show nI k = (8 : Int32) by rw [e8]; rfl), if_neg n1]
          by_cases hs : sta c K sl len = 0
          · rw [if_pos hs] at g
            rw [if_pos (show nI (sta c K sl len) = 0 by rw [hs]; rfl)]
            exact g
          · rw [if_neg hs] at g
            rw [if_neg (show ¬ nI (sta c K sl len) = 0 from fun z => hs ((nI_zero (by omega)).mp z))]
            exact g
        · rw [if_neg (show ¬ nI k = (8 : Int32) from kd_ne (a := 8) e8 hk (by decide))]
          by_cases e9 : k = 9
          · rw [if_pos (show nI k = (9 : Int32) by rw [e9]; rfl)]
            exact s_send_ok h hu he hE hB
          · rw [if_neg (show ¬ nI k = (9 : Int32) from kd_ne (a := 9) e9 hk (by decide))]
            by_cases k15 : 15 ≤ k
            · rw [if_pos (show (15 : Int32) ≤ nI k from kd_le (a := 15) k15 hk)]
              by_cases e15 : k = 15
              · obtain ⟨k3, b3, l3⟩ := low_1 (x5 >>> ((8 : Int32) &&& 31)) (y := 2) (n := 2) rfl (by decide) (by decide)
                rw [if_pos (show nI k = (15 : Int32) by rw [e15]; rfl), l3, Option.bind_some]
                split
                · exact s_ends_ok h hu he hE hB hp hj _ _ (Or.inr rfl)
                · exact s_ends_ok h hu he hE hB hp hj _ _ (Or.inl rfl)
              · rw [if_neg (show ¬ nI k = (15 : Int32) from kd_ne (a := 15) e15 hk (by decide))]
                by_cases k18 : 18 ≤ k
                · rw [if_pos (show (18 : Int32) ≤ nI k from kd_le (a := 18) k18 hk)]
                  by_cases e18 : k = 18
                  · rw [if_pos (show nI k = (18 : Int32) by rw [e18]; rfl)]
                    exact s_revo_ok h hu hp
                  · obtain ⟨k3, b3, l3⟩ := low_1 (x5 >>> ((6 : Int32) &&& 31)) (y := 4) (n := 4) rfl (by decide) (by decide)
                    rw [if_neg (show ¬ nI k = (18 : Int32) from kd_ne (a := 18) e18 hk (by decide)), l3, Option.bind_some]
                    split
                    · exact a1541 (n := 60) h hu ht h6 (by decide) (by decide) x5
                    · exact a1541 (n := 7) h hu ht h6 (by decide) (by decide) x5
                · obtain ⟨q, hq, l3⟩ := low_1 (x5 >>> ((3 : Int32) &&& 31)) (y := 8) (n := 8) rfl (by decide) (by decide)
                  obtain ⟨k5, b5, l5⟩ := low_1 (x5 >>> ((6 : Int32) &&& 31)) (y := 5) (n := 5) rfl (by decide) (by decide)
                  obtain ⟨k6, b6, l6⟩ := low_1 (x5 >>> ((9 : Int32) &&& 31)) (y := 12) (n := 12) rfl (by decide) (by decide)
                  obtain ⟨k8, b8, l8⟩ := low_1 (x5 >>> ((13 : Int32) &&& 31)) (y := 11) (n := 11) rfl (by decide) (by decide)
                  rw [if_neg (show ¬ (18 : Int32) ≤ nI k from kd_gt (a := 18) (by omega) (by decide)), l3, Option.bind_some, v_today d h.2.1, Option.bind_some, l5, Option.bind_some, l6, Option.bind_some, l8, Option.bind_some, ← v_today d h.2.1]
                  exact s_dele_ok h hu hp hq b8
            · rw [if_neg (show ¬ (15 : Int32) ≤ nI k from kd_gt (a := 15) (by omega) (by decide))]
              exact s_sign_ok h hu he hE hB hp hj x5
    · obtain ⟨k3, b3, l3⟩ := low_1 (x5 >>> ((5 : Int32) &&& 31)) (y := 3) (n := 3) rfl (by decide) (by decide)
      obtain ⟨k4, b4, l4⟩ := low_1 (x5 >>> ((7 : Int32) &&& 31)) (y := 256) (n := 256) rfl (by decide) (by decide)
      rw [if_neg (show ¬ (7 : Int32) ≤ nI k from kd_gt (a := 7) (by omega) (by decide)), l3, Option.bind_some]
      split
      · exact a182_ok (bs := 0) h hu he hE hB hp (Nat.two_pow_pos c)
      · obtain ⟨a0, a1⟩ := and_all (c := c) k4 h8
        rw [l4, Option.bind_some, a0]
        exact a182_ok h hu he hE hB hp a1
  · rw [if_neg (show ¬ (2 : Int32) ≤ nI k from kd_gt (a := 2) (by omega) (by decide))]
    exact a_draft h hu
theorem acts_ok (h : LI t td d b w) (hu : Twin d u) (ht : t < 2 ^ 20) (x4 x5 : Int32) : AR t (f_L_acts d u b w x4 x5) := by
  have hn := h.2.1
  obtain ⟨k, hk, l1⟩ := low_1 x4 (y := 20) (n := 20) rfl (by decide) (by decide)
  obtain ⟨e, h6, l2⟩ := low_1 (x4 >>> ((5 : Int32) &&& 31)) (y := 6) (n := 6) rfl (by decide) (by decide)
  unfold f_L_acts
  rw [l1, Option.bind_some, l2, Option.bind_some, v_envelopes d hn, Option.bind_some]
  by_cases he : d.1 ≤ e
  · rw [if_pos (nI_le he (by omega))]
    unfold f_L_acts_34 f_L_acts_51
    rw [if_pos rfl, if_pos rfl]
    exact acts68_no h hu ht h6 he hk x5
  · obtain ⟨c, bf, pr, ⟨len, pc, tm, K, sl, dy, pe, se, hE⟩, hB⟩ := h.2.2.2.2 e (by omega)
    rw [if_neg (nI_ge (by omega) (by omega))]
    unfold f_L_acts_34 f_L_acts_51
    rw [if_neg (by decide), (v_state hn (by omega) hE).2, Option.bind_some, if_neg (by decide), (v_slots hn (by omega) hE).2, Option.bind_some]
    exact acts68_ok h hu ht (by omega) hE hB hk x5
end
