/-! The law's calls by a script: declining, cancelling -/
section
variable {t td e c len pc tm j r : Nat} {d u : Dk} {b w : Nat → Int32} {bf pr K sl dy : Nat → Nat} {pe se : Nat → Int32}
theorem st_is {k : Nat} (hn : d.1 ≤ 6) (he : e < d.1) (h : d.2.2 e 11 0 = nI k) : gm_state d (nI e) = some (nI k) := by
  unfold gm_state f_X4_state
  rw [if_pos hn, env_at he hn, xb_inr, h]
theorem a1173_no {x7 x12 x13 x15 x10 : Int32} (h : LI t td d b w) (hu : Twin d u) (h15 : x15 = -1000001) : AR t (f_L_acts_1173 d u b w x7 0 x10 x12 x13 x15 0 x15) := by
  unfold f_L_acts_1173 f_L_acts_1234 f_L_acts_1236
  rw [if_pos rfl, if_pos rfl, if_pos rfl, if_pos h15]
  exact AR.same h hu
theorem a1078_no {x9 x12 x13 : Int32} (h : LI t td d b w) (hu : Twin d u) (h6 : e < 6) (he : d.1 ≤ e) (hr : r < 8) : AR t (f_L_acts_1078 d u b w (nI e) 0 x9 0 x12 x13 (nI r)) := by
  have hn := h.2.1
  have hun : u.1 ≤ 6 := by rw [hu.1]; exact hn
  have heu : u.1 ≤ e := by rw [hu.1]; exact he
  unfold f_L_acts_1078
  by_cases h13 : x13 = 0
  · rw [if_pos h13, x_decl_no hn he h6 hr, Option.bind_some]
    unfold f_L_acts_1104 f_L_acts_1146 f_L_acts_1147
    rw [if_pos rfl, if_pos h13, x_decl_no hun heu h6 hr, Option.bind_some]
    exact a1173_no h hu rfl
  · rw [if_neg h13, x_canc_no hn he h6, Option.bind_some]
    unfold f_L_acts_1104 f_L_acts_1146 f_L_acts_1147
    rw [if_pos rfl, if_neg h13, x_canc_no hun heu h6, Option.bind_some]
    exact a1173_no h hu rfl
set_option maxHeartbeats 1000000 in
theorem a1078_c (h : LI t td d b w) (hu : Twin d u) (he : e < d.1) (hE : CE td (d.2.2 e) c len pc tm bf pr K sl dy pe se) (hB : ∀ j, j < c → b (8 * e + j) = nI (bf j) ∧ w (8 * e + j) = nI (pr j)) (x12 x14 : Int32) :
    AR t (f_L_acts_1078 d u b w (nI e) 1 (nI (sta c K sl len)) (nI c) x12 1 x14) := by
  have hn := h.2.1
  have hw := hE.2.2.2.1
  have h8 := hw.1
  have hc := hE.2.2.2.2
  have hst := sta_le c K sl len
  have hun : u.1 ≤ 6 := by rw [hu.1]; exact hn
  have heu : e < u.1 := by rw [hu.1]; exact he
  have g11 : d.2.2 e 11 0 = nI (sta c K sl len) := hc.2.2.2.2.2.2.1
  have n1 : ¬ (1 : Int32) = 0 := by decide
  unfold f_L_acts_1078
  rw [if_neg n1]
  by_cases hs : sta c K sl len = 1
  · have hlt := left_pos hw hs
    obtain ⟨σ', m1, m2, m3⟩ := finish_ok (kd := 4) (sv := 0) hE hs (Or.inr (Or.inl rfl)) (-1) (-1) (fun q => by omega) (fun _ => ⟨rfl, rfl⟩)
    have g := st_is (d := (d.1, d.2.1, va_up d.2.2 e σ')) hn he (show va_up d.2.2 e σ' e 11 0 = nI 4 by rw [up_eq]; exact m3)
    rw [hs] at g11
    rw [x_canc_ok hn he h.2.2.1 g11 m1, Option.bind_some]
    unfold f_L_acts_1104 f_L_acts_1147
    rw [if_neg n1, if_pos (by rw [hs]; rfl), if_neg n1, if_neg n1, x_canc_ok hun heu (by rw [hu.2.2 1 (by decide)]; exact h.2.2.1) (by rw [hu.2.1]; exact g11) (by rw [hu.2.1]; exact m1), Option.bind_some]
    unfold f_L_acts_1173 f_L_acts_1204
    rw [if_pos rfl, if_neg n1, if_neg (nI_nle (by omega) (by omega)), g, Option.bind_some, if_neg n1, if_pos (show nI 4 = (4 : Int32) from rfl)]
    exact ⟨_, _, _, _, td, rfl, h.put h.2.2.1 (h.2.2.2.1.mono (by omega)) ⟨_, _, _, _, _, _, _, _, m2⟩ hB, hu.put hu.2.2⟩
  · rw [x_canc_st hn he g11 hst hs, Option.bind_some]
    unfold f_L_acts_1104 f_L_acts_1146 f_L_acts_1147
    rw [if_neg n1, if_neg (show ¬ nI (sta c K sl len) = 1 from fun q => hs ((nI_eq (b := 1) (by omega) (by decide)).mp q)), if_neg n1, x_canc_st hun heu (by rw [hu.2.1]; exact g11) hst hs, Option.bind_some]
    unfold f_L_acts_1173 f_L_acts_1236
    rw [if_pos rfl, if_pos rfl, if_neg n1, if_neg n1, if_pos rfl]
    exact AR.same h hu
set_option maxHeartbeats 1000000 in
theorem a1078_d (h : LI t td d b w) (hu : Twin d u) (he : e < d.1) (hE : CE td (d.2.2 e) c len pc tm bf pr K sl dy pe se) (hB : ∀ j, j < c → b (8 * e + j) = nI (bf j) ∧ w (8 * e + j) = nI (pr j)) (hr : r < 8) (hj : j ≤ c) :
    AR t (f_L_acts_1078 d u b w (nI e) 1 (nI (sta c K sl len)) (nI c) (nI j) 0 (nI r)) := by
  have hn := h.2.1
  have hw := hE.2.2.2.1
  have h8 := hw.1
  have hc := hE.2.2.2.2
  have hst := sta_le c K sl len
  have hun : u.1 ≤ 6 := by rw [hu.1]; exact hn
  have heu : e < u.1 := by rw [hu.1]; exact he
  have c10u : u.2.2 e 10 0 = nI c := by rw [hu.2.1]; exact hc.1
  have n1 : ¬ (1 : Int32) = 0 := by decide
  unfold f_L_acts_1078
  rw [if_pos rfl]
  by_cases hjc : j < c
  · have hle := rsn_le (σ0 := d.2.1) (td := td) (c := c) (bf := bf) (pr := pr) (K := K) (sl := sl) (len := len) (p := r) (j := j)
    have hR := reason_ok h.2.2.1 hE hr hjc
    have hRu : f_X4_reasonFor u.2.1 (u.2.2 e) (nI r) (nI j) = some (nI (rsn d.2.1 td c bf pr K sl len r j)) := by rw [cg_reason hu.2.2, hu.2.1]; exact hR
    have hy := (tw_why hu (nI r) (nI e) (nI j)).trans (v_why hn he h.2.2.1 hE hr hjc).2
    by_cases h0 : rsn d.2.1 td c bf pr K sl len r j = 0
    · obtain ⟨k1, k2, k3⟩ := rsn_01 (σ0 := d.2.1) (td := td) (c := c) (bf := bf) (pr := pr) (K := K) (sl := sl) (len := len) (r := r) (j := j) (by omega)
      have kp := k3.mp h0
      have k4 := opn_bit hw k1 hjc
      rw [k2] at k4
      have k5 := opn_uns k2
      have k6 : dif (bf j) (sgn K sl len) = 0 := by
        by_cases q : dif (bf j) (sgn K sl len) = 0
        · exact q
        · rw [decide_eq_false q, Bool.false_and] at k4; cases k4
      have hlt := left_pos hw k1
      obtain ⟨σ', m1, m2, m3⟩ := finish_ok (kd := 3) (sv := j) hE k1 (Or.inl rfl) (nI r) (nI j) (fun _ => ⟨rfl, hjc, k5.1, k6, r, hr, rfl, kp.symm⟩) (fun q => by omega)
      have g := st_is (d := (d.1, d.2.1, va_up d.2.2 e σ')) hn he (show va_up d.2.2 e σ' e 11 0 = nI 3 by rw [up_eq]; exact m3)
      rw [h0] at hR hRu hy
      rw [x_decl_ok hn he h.2.2.1 hc.1 h8 hr hjc hR m1, Option.bind_some]
      unfold f_L_acts_1104 f_L_acts_1147
      rw [if_neg n1, if_pos (by rw [k1]; rfl), if_pos rfl, if_neg (nI_ge hjc (by omega)), hy, Option.bind_some, if_pos (show nI 0 = (0 : Int32) from rfl), if_pos rfl, x_decl_ok hun heu (by rw [hu.2.2 1 (by decide)]; exact h.2.2.1) c10u h8 hr hjc hRu (by rw [hu.2.1]; exact m1), Option.bind_some]
      unfold f_L_acts_1173 f_L_acts_1204
      rw [if_pos rfl, if_neg n1, if_neg (nI_nle (by omega) (by omega)), g, Option.bind_some, if_pos rfl, if_pos (show nI 3 = (3 : Int32) from rfl)]
      exact ⟨_, _, _, _, td, rfl, h.put h.2.2.1 (h.2.2.2.1.mono (by omega)) ⟨_, _, _, _, _, _, _, _, m2⟩ hB, hu.put hu.2.2⟩
    · have q1 : 1 ≤ rsn d.2.1 td c bf pr K sl len r j := by omega
      have hfin : AR t (f_L_acts_1146 d u b w (nI e) 1 (nI c) (nI j) 0 (nI r) (-1000003)) := by
        unfold f_L_acts_1146 f_L_acts_1147
        rw [if_pos rfl, x_decl_st hun heu c10u h8 hr hjc hRu q1 hle, Option.bind_some]
        unfold f_L_acts_1173 f_L_acts_1236
        rw [if_pos rfl, if_pos rfl, if_neg n1, if_pos rfl, if_neg (nI_ge hjc (by omega)), if_pos rfl]
        exact AR.same h hu
      rw [x_decl_st hn he hc.1 h8 hr hjc hR q1 hle, Option.bind_some]
      unfold f_L_acts_1104
      rw [if_neg n1]
      split
      · rw [if_pos rfl, if_neg (nI_ge hjc (by omega)), hy, Option.bind_some, if_neg (show ¬ nI (rsn d.2.1 td c bf pr K sl len r j) = 0 from fun q => h0 ((nI_zero (by omega)).mp q))]
        exact hfin
      · exact hfin
  · have hcj : c ≤ j := by omega
    have hfin : AR t (f_L_acts_1146 d u b w (nI e) 1 (nI c) (nI j) 0 (nI r) (-1000001)) := by
      unfold f_L_acts_1146 f_L_acts_1147
      rw [if_pos rfl, x_decl_sl hun heu c10u hr hcj (by omega), Option.bind_some]
      unfold f_L_acts_1173 f_L_acts_1234 f_L_acts_1236
      rw [if_pos rfl, if_pos rfl, if_neg n1, if_pos rfl, if_pos (nI_le hcj (by omega)), if_pos rfl]
      exact AR.same h hu
    rw [x_decl_sl hn he hc.1 hr hcj (by omega), Option.bind_some]
    unfold f_L_acts_1104
    rw [if_neg n1]
    split
    · rw [if_pos rfl, if_pos (nI_le hcj (by omega))]
      exact hfin
    · exact hfin
theorem s_ends_no (h : LI t td d b w) (hu : Twin d u) (h6 : e < 6) (he : d.1 ≤ e) (hr : r < 8) (x5 x9 x12 s0 : Int32) : AR t (f_L_acts_1037 d u b w x5 (nI e) 0 x9 0 (nI r) x12 s0) := by
  unfold f_L_acts_1037 f_L_acts_1076
  rw [if_pos rfl]
  exact a1078_no h hu h6 he hr
theorem s_ends_ok (h : LI t td d b w) (hu : Twin d u) (he : e < d.1) (hE : CE td (d.2.2 e) c len pc tm bf pr K sl dy pe se) (hB : ∀ j, j < c → b (8 * e + j) = nI (bf j) ∧ w (8 * e + j) = nI (pr j)) (hr : r < 8) (hj : j ≤ c) (x5 s0 : Int32) (hs : s0 = 0 ∨ s0 = 1) :
    AR t (f_L_acts_1037 d u b w x5 (nI e) 1 (nI (sta c K sl len)) (nI c) (nI r) (nI j) s0) := by
  have hn := h.2.1
  have hw := hE.2.2.2.1
  have h8 := hw.1
  have hfin : ∀ r, r < 8 → AR t (f_L_acts_1078 d u b w (nI e) 1 (nI (sta c K sl len)) (nI c) (nI j) s0 (nI r)) := fun r hr => by
    rcases hs with rfl | rfl
    · exact a1078_d h hu he hE hB hr hj
    · exact a1078_c h hu he hE hB _ _
  unfold f_L_acts_1037 f_L_acts_1076
  rw [if_neg (by decide)]
  by_cases hjc : j < c
  · have in1 : inb (nI (8 * e + j)) 48 := inb9 (by omega) (by decide)
    have hcl : (nI (8 * e + j)).toNatClampNeg = 8 * e + j := cl9 (by omega)
    have hpj := (hw.2.2.1 j hjc).2
    obtain ⟨k3, b3, l3⟩ := low_ok (x5 >>> ((7 : Int32) &&& 31)) (n := 3) (by decide) (by decide)
    have l3 : f_L_low (x5 >>> ((7 : Int32) &&& 31)) 3 = some (nI k3) := l3
    rw [if_neg (nI_ge hjc (by omega)), l3, Option.bind_some]
    simp only [ix8, hcl, if_pos in1, (hB j hjc).2]
    split
    · exact hfin r hr
    · exact hfin (pr j) hpj
  · rw [if_pos (nI_le (show c ≤ j by omega) (by omega))]
    exact hfin r hr
end
