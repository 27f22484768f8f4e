/-! An envelope's end: declined, cancelled, expired -/
section
set_option maxRecDepth 4000 in
theorem pcn_rest {a c : Nat} (hc : c ≤ 8) (h : a < 2 ^ c) : pcn (dif (2 ^ c - 1) a) + pcn a = c := (by decide +kernel : ∀ c, c < 9 → ∀ a, a < 256 → a < 2 ^ c → pcn (dif (2 ^ c - 1) a) + pcn a = c) c (by omega) a (lt8 h hc) h
theorem nI_sub {a b : Nat} (h : b ≤ a) : nI a - nI b = nI (a - b) := by
  have h1 : nI (a - b) + nI b = nI a := by rw [nI_add]; congr 1; omega
  rw [← h1, Int32.add_sub_cancel]
/-- what of the reference's rows isn't this envelope's -/
def Other (τ τ' : SS) (k : Nat) : Prop := (∀ x, x < 2 ∨ (12 ≤ x ∧ x < 18) → τ' x = τ x) ∧ ∀ k2, k2 ≠ k → SameE τ τ' k2
theorem Keep.other {τ τ' : SS} (h : Keep τ τ') (k : Nat) : Other τ τ' k := ⟨fun x hx => h x (by omega), fun k2 _ => h.same k2⟩
theorem Other.tr {a b c : SS} {k : Nat} (h : Other a b k) (g : Other b c k) : Other a c k := ⟨fun x hx => (g.1 x hx).trans (h.1 x hx), fun k2 hk => (h.2 k2 hk).tr (g.2 k2 hk)⟩
theorem NT_other {τ : SS} {k len : Nat} {a b d e : Int32} (hl : len < 49) : Other τ (NT τ k len a b d e) k := ⟨fun x hx => NT_lo (by omega) (by omega), fun k2 hk => NT_same hk hl⟩
theorem inv_put {td t n k : Nat} {σ0 σ' τ τ' : SS} {σ : Nat → SS} (ht : td ≤ 60 * t) (hD : DE td n σ0 τ) (hE : ∀ k, k < n → EI td (σ k) τ k) (hk : k < n) (h : EI td σ' τ' k) (ho : Other τ τ' k) : Inv (t + 1) n σ0 (va_up σ k σ') τ' := by
  refine ⟨td, by omega, hD.same ho.1 (fun k2 a b => ?_), fun k2 hk2 => ?_⟩
  · have h2 := ho.2 k2 (by omega)
    exact ⟨h2.1, h2.2.1, h2.2.2.1, h2.2.2.2.1⟩
  · by_cases e : k2 = k
    · subst e
      rw [up_eq]
      exact h
    · rw [up_ne e]
      exact (hE k2 hk2).same (ho.2 k2 e)
theorem sta_pos {c len : Nat} {K sl : Nat → Nat} (h : sta c K sl len = 1) : 0 < len := by
  rcases Nat.eq_zero_or_pos len with e | e
  · subst e; simp [sta] at h
  · exact e
set_option maxHeartbeats 1000000 in
theorem close_both {td c len pc tm k kd : Nat} {σk τ τ1 : SS} {bf pr K sl dy : Nat → Nat} {pe se : Nat → Int32} (h0 : τ 0 0 = nI td) (hk : k < 6) (hpc : pc ≤ 30) (htm : tm ≤ 60) (hse : ∀ i, i < len → (K i = 1 ∨ K i = 2 ∨ K i = 6) → se i = nI (sl i)) (hw : Wf td c len bf pr K sl dy) (hr : RefE τ k c len pc tm bf pr K dy pe se) (hc : ClsE σk c len pc tm bf pr K sl dy pe se) (h1 : Keep τ τ1) (hs : sta c K sl len = 1) (hkd : kd = 3 ∨ kd = 4 ∨ kd = 5) (x3 x4 : Int32) :
    ∃ τ', f_X5_closes τ1 (nI k) (nI kd) x3 x4 = some ((f_X0_finish σk (nI kd) (nI kd) x3 x4 (nI td)).1, τ') ∧ EI td (f_X0_finish σk (nI kd) (nI kd) x3 x4 (nI td)).2 τ' k ∧ Other τ τ' k ∧ τ' 24 = τ1 24 := by
  obtain ⟨τ2, l1, l2, l3⟩ := look hk hse hw hr h1
  have hlen := sta_pos hs
  have hc0 : 0 < c := (hw.2.2.2.2.1 hlen).1
  have hroom := hw.room hc0 (Or.inr hs)
  have h8 := hw.1
  have hsg := hw.sg len (Nat.le_refl _)
  have hr2 := hr.keep l3
  obtain ⟨c10, c12, c13, c9, cr, ce, c11, c15, c16, c4, c3, c14⟩ := hc
  have h15 : va_up (va_up σk 11 (fun _ => nI kd)) 16 (fun _ => (0 : Int32)) 9 0 = nI len := by rw [up_ne (by decide), up_ne (by decide)]; exact c9
  obtain ⟨a0, a5, a6, a7, a8, a9⟩ := AD_spec h15 (show len < 49 by omega) (nI kd) x3 x4 (nI td)
  have ef : f_X0_finish σk (nI kd) (nI kd) x3 x4 (nI td) = (nI c - nI (pcn (sgn K sl len)), AD (va_up (va_up σk 11 (fun _ => nI kd)) 16 (fun _ => (0 : Int32))) len (nI kd) x3 x4 (nI td)) := by
    unfold f_X0_finish
    simp only [lt]
    show (AD (va_up (va_up σk 11 (fun _ => nI kd)) 16 (fun _ => (0 : Int32))) len (nI kd) x3 x4 (nI td) 10 0 - f_J6_bitCount_0f7a4 (AD (va_up (va_up σk 11 (fun _ => nI kd)) 16 (fun _ => (0 : Int32))) len (nI kd) x3 x4 (nI td) 15 0), AD (va_up (va_up σk 11 (fun _ => nI kd)) 16 (fun _ => (0 : Int32))) len (nI kd) x3 x4 (nI td)) = _
    rw [a0 10 (by decide), a0 15 (by decide), up_ne (by decide), up_ne (by decide), up_ne (by decide), up_ne (by decide), c10, c15, bc_pcn (lt8 hsg h8)]
  have hk0 : ¬ kd = 0 := by omega
  have hk1 : ¬ (kd = 1 ∨ kd = 2) := by omega
  have hk6 : ¬ kd = 6 := by omega
  have cg : ∀ i, i < len → uN K len kd i = K i ∧ uN sl len 0 i = sl i := fun i hi => ⟨uN_lt hi, uN_lt hi⟩
  have hl := Nat.le_refl len
  have eS : sgn (uN K len kd) (uN sl len 0) (len + 1) = sgn K sl len := by rw [sgn, uN_eq, if_neg hk1, sgn_cong cg _ hl]
  have eT : sta c (uN K len kd) (uN sl len 0) (len + 1) = kd := by
    rw [sta, uN_eq, if_neg hk0, if_neg hk1, if_neg hk6]
    unfold endS
    rcases hkd with rfl | rfl | rfl <;> rfl
  have eO : opd c bf (uN K len kd) (uN sl len 0) (len + 1) = opd c bf K sl len := by rw [opd, uN_eq, if_neg (by omega), opd_cong cg _ hl]
  have eN : ∀ j, ond c bf (uN K len kd) (uN sl len 0) (uN dy len td) (len + 1) j = ond c bf K sl dy len j := fun j => by rw [ond, uN_eq, if_neg (by omega), ond_cong cg (fun i hi => uN_lt hi) _ hl]
  have eR : ∀ j, rmd (uN K len kd) (uN sl len 0) (len + 1) j = rmd K sl len j := fun j => by rw [rmd, uN_eq, if_neg (fun q => hk6 q.1), rmd_cong cg _ hl]
  have hw' : Wf td c (len + 1) bf pr (uN K len kd) (uN sl len 0) (uN dy len td) := hw.add hc0 (by omega) ⟨fun e => by omega, fun e => absurd e hk0⟩ (fun _ => hs) (fun h => by omega) (fun h => by omega) (Nat.le_refl _) (fun h => by omega)
  have hn : f_X5_notes τ2 (nI k) (nI kd) x3 x4 = some (NT τ2 k len (nI kd) x3 x4 (nI td)) := by
    rw [notes_spec hk (by omega) hr2.2.2.2.1, l3 0 (by decide), h0]
  refine ⟨NT τ2 k len (nI kd) x3 x4 (nI td), ?_, ?_, (l3.other k).tr (NT_other (by omega)), ?_⟩
  · rw [ef]
    unfold f_X5_closes
    rw [l1, Option.bind_some, hn, Option.bind_some, all_spec (c := c) hk h8 (by rw [NT_lo (by decide) (by decide)]; exact hr2.1), Option.bind_some, NT_lo (by decide) (by decide), l2.2.2.1, i_dif, many_pcn (lt8 (dif_lt (by have := Nat.two_pow_pos c; omega)) h8), Option.bind_some, nI_sub (pcn_c h8 hsg)]
    have := pcn_rest h8 hsg
    congr 3
    omega
  · rw [ef]
    show EI td (AD (va_up (va_up σk 11 (fun _ => nI kd)) 16 (fun _ => (0 : Int32))) len (nI kd) x3 x4 (nI td)) _ k
    refine ⟨c, len + 1, pc, tm, bf, pr, uN K len kd, uN sl len 0, uN dy len td, upd pe len x3, upd se len x4, hk, hpc, htm, fun i hi h => ?_, hw', NT_ref hr2 kd td x3 x4, ?_⟩
    · by_cases e : i = len
      · subst e
        rw [uN_eq] at h
        omega
      · rw [uN_lt (by omega)] at h ⊢
        rw [upd_ne e]
        exact hse i (by omega) h
    · refine ⟨?_, ?_, ?_, a9, fun j hj => ?_, fun i hi => ?_, ?_, ?_, ?_, fun j hj => ?_, fun j hj => ?_, fun _ => ?_⟩
      · rw [a0 10 (by decide), up_ne (by decide), up_ne (by decide)]; exact c10
      · rw [a0 12 (by decide), up_ne (by decide), up_ne (by decide)]; exact c12
      · rw [a0 13 (by decide), up_ne (by decide), up_ne (by decide)]; exact c13
      · rw [a0 0 (by decide), a0 1 (by decide), a0 2 (by decide), up_ne (by decide), up_ne (by decide), up_ne (by decide), up_ne (by decide), up_ne (by decide), up_ne (by decide)]; exact cr j hj
      · rw [a5, a6, a7, a8, up_ne (show (5 : Nat) ≠ 16 by decide), up_ne (show (5 : Nat) ≠ 11 by decide), up_ne (show (6 : Nat) ≠ 16 by decide), up_ne (show (6 : Nat) ≠ 11 by decide), up_ne (show (7 : Nat) ≠ 16 by decide), up_ne (show (7 : Nat) ≠ 11 by decide), up_ne (show (8 : Nat) ≠ 16 by decide), up_ne (show (8 : Nat) ≠ 11 by decide)]
        by_cases e : i = len
        · subst e
          rw [upd_eq, upd_eq, upd_eq, upd_eq, upd_eq, upd_eq, uN_eq, uN_eq]
          exact ⟨rfl, rfl, rfl, rfl⟩
        · rw [upd_ne e, upd_ne e, upd_ne e, upd_ne e, upd_ne e, upd_ne e, uN_lt (by omega), uN_lt (by omega)]
          exact ce i (by omega)
      · rw [a0 11 (by decide), up_ne (by decide), up_eq, eT]
      · rw [a0 15 (by decide), up_ne (by decide), up_ne (by decide), c15, eS]
      · rw [a0 16 (by decide), up_eq, eT, if_neg (by omega)]; rfl
      · rw [a0 4 (by decide), up_ne (by decide), up_ne (by decide), c4 j hj, eR]
      · rw [eO] at hj
        rw [a0 3 (by decide), up_ne (by decide), up_ne (by decide), c3 j hj, eN]
      · rw [a0 14 (by decide), up_ne (by decide), up_ne (by decide), c14 hlen, uN_lt hlen]
  · have := l2.t24
    rw [NT_lo (by decide) (by decide), this]
end
