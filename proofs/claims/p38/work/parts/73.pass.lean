/-! Days pass: at once, and one by one -/
section
def EC (td : Nat) (σ : SS) (c : Nat) (bf pr : Nat → Nat) : Prop := ∃ (len pc tm : Nat) (K sl dy : Nat → Nat) (pe se : Nat → Int32), CE td σ c len pc tm bf pr K sl dy pe se
def mE (td : Nat) (σ : SS) : SS := match f_X0_meetDay σ (nI (td + 1)) with
  | some z => z.2
  | none => σ
def mW (td : Nat) (σ : SS) : Nat := match f_X0_meetDay σ (nI (td + 1)) with
  | some z => z.1.toNatClampNeg
  | none => 0
theorem m_of {td w : Nat} {σ σ' : SS} (h : f_X0_meetDay σ (nI (td + 1)) = some (nI w, σ')) (hw : w ≤ 8) : mE td σ = σ' ∧ mW td σ = w := by
  unfold mE mW
  rw [h]
  exact ⟨rfl, cl9 (by omega)⟩
theorem EC.meet {td c : Nat} {σ : SS} {bf pr : Nat → Nat} (h : EC td σ c bf pr) (htd : td < 2 ^ 30) : f_X0_meetDay σ (nI (td + 1)) = some (nI (mW td σ), mE td σ) ∧ mW td σ ≤ 8 ∧ EC (td + 1) (mE td σ) c bf pr := by
  obtain ⟨len, pc, tm, K, sl, dy, pe, se, hE⟩ := h
  obtain ⟨w, σ', h1, h2, h3⟩ := meet_ok hE htd
  obtain ⟨e1, e2⟩ := m_of h1 h2
  rw [e1, e2]
  refine ⟨h1, h2, ?_⟩
  rcases h3 with ⟨-, e, -⟩ | ⟨len', K', sl', dy', pe', se', -, hC, -⟩
  · rw [e]; exact ⟨len, pc, tm, K, sl, dy, pe, se, hE.mono (by omega)⟩
  · exact ⟨len', pc, tm, K', sl', dy', pe', se', hC⟩
def dz (s : SS) : SS := fun x => if 3 ≤ x ∧ x < 11 then upd (s x) 4 0 else s x
theorem day12e {n : Nat} {σ : Nat → SS} : ∀ (m i : Nat) (s : SS), i + m = 8 → ∀ fu, m < fu → ∃ z, f_X4_passOneDay_12 fu n s σ (nI i) = some (fun x => if 3 + i ≤ x ∧ x < 11 then upd (s x) 4 0 else s x, σ, z) := by
  intro m
  induction m with
  | zero =>
    intro i s hi fu hfu
    obtain ⟨fu, rfl⟩ : ∃ g, fu = g + 1 := ⟨fu - 1, by omega⟩
    obtain rfl : i = 8 := by omega
    refine ⟨nI 8, ?_⟩
    rw [f_X4_passOneDay_12, if_pos (by decide)]
    have e : (fun x => if 3 + 8 ≤ x ∧ x < 11 then upd (s x) 4 0 else s x) = s := by
      funext x
      rw [if_neg (by omega)]
    rw [e]
  | succ m ih =>
    intro i s hi fu hfu
    obtain ⟨fu, rfl⟩ : ∃ g, fu = g + 1 := ⟨fu - 1, by omega⟩
    have hi8 : i < 8 := by omega
    obtain ⟨z, hz⟩ := ih (i + 1) (va_up s (3 + i) (upd (s (3 + i)) 4 (0 : Int32))) (by omega) fu (by omega)
    refine ⟨z, ?_⟩
    rw [f_X4_passOneDay_12, if_neg (show ¬ (8 : Int32) ≤ nI i from nI_ge (b := 8) hi8 (by decide)), std_at hi8, xn_inr, s1]
    simp only [lt]
    rw [hz]
    have e : (fun x => if 3 + (i + 1) ≤ x ∧ x < 11 then upd (va_up s (3 + i) (upd (s (3 + i)) 4 (0 : Int32)) x) 4 0 else va_up s (3 + i) (upd (s (3 + i)) 4 (0 : Int32)) x) = (fun x => if 3 + i ≤ x ∧ x < 11 then upd (s x) 4 0 else s x) := by
      funext x
      by_cases h : x = 3 + i
      · subst h
        rw [if_neg (by omega), up_eq, if_pos (by omega)]
      · rw [up_ne h]
        by_cases h2 : 3 + (i + 1) ≤ x ∧ x < 11
        · rw [if_pos h2, if_pos (by omega)]
        · rw [if_neg h2, if_neg (by omega)]
    rw [e]
def OD (td : Nat) (d : Dk) : Dk := (d.1, dz (va_up d.2.1 1 (fun _ => nI (td + 1))), fun e => if e < d.1 then mE td (d.2.2 e) else d.2.2 e)
def wsum (td : Nat) (d : Dk) : Nat := smj (fun e => mW td (d.2.2 e)) d.1
theorem days37 {td n : Nat} {s : SS} {σ : Nat → SS} (htd : td < 2 ^ 30) (hn : n ≤ 6) (h1 : s 1 0 = nI (td + 1)) (hE : ∀ e, e < n → ∃ c bf pr, EC td (σ e) c bf pr) :
    ∀ (m i A : Nat), i + m = n → ∀ fu, m < fu → ∃ z, f_X4_passOneDay_37 fu n s (fun e => if e < i then mE td (σ e) else σ e) (nI (A + smj (fun e => mW td (σ e)) i)) (nI i) = some (s, fun e => if e < n then mE td (σ e) else σ e, nI (A + smj (fun e => mW td (σ e)) n), z) := by
  intro m
  induction m with
  | zero =>
    intro i A hi fu hfu
    obtain ⟨fu, rfl⟩ : ∃ g, fu = g + 1 := ⟨fu - 1, by omega⟩
    obtain rfl : i = n := by omega
    exact ⟨nI i, by rw [f_X4_passOneDay_37, if_pos (nI_le (Nat.le_refl _) (by omega))]⟩
  | succ m ih =>
    intro i A hi fu hfu
    obtain ⟨fu, rfl⟩ : ∃ g, fu = g + 1 := ⟨fu - 1, by omega⟩
    obtain ⟨c, bf, pr, hc⟩ := hE i (by omega)
    obtain ⟨m1, m2, -⟩ := hc.meet htd
    obtain ⟨z, hz⟩ := ih (i + 1) A (by omega) fu (by omega)
    refine ⟨z, ?_⟩
    rw [f_X4_passOneDay_37, if_neg (nI_ge (by omega) (by omega)), env_at (show i < n by omega) hn, xn_inr]
    show ((f_X0_meetDay (if i < i then mE td (σ i) else σ i) (s 1 0)).bind _) = _
    rw [if_neg (Nat.lt_irrefl i), h1, m1, Option.bind_some, s1]
    simp only [lt]
    have e : va_up (fun e => if e < i then mE td (σ e) else σ e) i (mE td (σ i)) = (fun e => if e < i + 1 then mE td (σ e) else σ e) := by
      funext k
      by_cases h : k = i
      · subst h; rw [up_eq, if_pos (by omega)]
      · rw [up_ne h]
        by_cases h2 : k < i
        · rw [if_pos h2, if_pos (by omega)]
        · rw [if_neg h2, if_neg (by omega)]
    rw [e, nI_add, show A + smj (fun e => mW td (σ e)) i + mW td (σ i) = A + smj (fun e => mW td (σ e)) (i + 1) by rw [smj, Nat.add_assoc]]
    exact hz
def DC (td : Nat) (d : Dk) : Prop := d.1 ≤ 6 ∧ d.2.1 1 0 = nI td ∧ ∀ e, e < d.1 → ∃ c bf pr, EC td (d.2.2 e) c bf pr
theorem DC.dk {td : Nat} {d : Dk} (h : DC td d) : DK td d := ⟨h.1, h.2.1, fun e he => by
  obtain ⟨c, bf, pr, len, pc, tm, K, sl, dy, pe, se, hc⟩ := h.2.2 e he
  exact ⟨c, len, pc, tm, bf, pr, K, sl, dy, pe, se, hc⟩⟩
theorem OD_dc {td : Nat} {d : Dk} (h : DC td d) (htd : td < 2 ^ 30) : DC (td + 1) (OD td d) := by
  obtain ⟨h1, h2, h3⟩ := h
  refine ⟨h1, ?_, fun e he => ?_⟩
  · show dz (va_up d.2.1 1 (fun _ => nI (td + 1))) 1 0 = _
    unfold dz
    rw [if_neg (by omega), up_eq]
  · obtain ⟨c, bf, pr, hc⟩ := h3 e he
    refine ⟨c, bf, pr, ?_⟩
    show EC (td + 1) (if e < d.1 then mE td (d.2.2 e) else d.2.2 e) c bf pr
    rw [if_pos (show e < d.1 from he)]
    exact (hc.meet htd).2.2
theorem one_ok {td : Nat} {d : Dk} (h : DC td d) (htd : td < 2 ^ 30) : f_X4_passOneDay d.1 d.2.1 d.2.2 = some (nI (wsum td d), (OD td d).2.1, (OD td d).2.2) := by
  obtain ⟨h1, h2, h3⟩ := h
  obtain ⟨z, hz⟩ := day12e (n := d.1) (σ := d.2.2) 8 0 (va_up d.2.1 1 (fun _ => nI (td + 1))) (by omega) FU (by unfold FU; omega)
  have hz : f_X4_passOneDay_12 FU d.1 (va_up d.2.1 1 (fun _ => nI (td + 1))) d.2.2 0 = some (dz (va_up d.2.1 1 (fun _ => nI (td + 1))), d.2.2, z) := hz
  have hd1 : dz (va_up d.2.1 1 (fun _ => nI (td + 1))) 1 0 = nI (td + 1) := by unfold dz; rw [if_neg (by omega), up_eq]
  obtain ⟨z2, hz2⟩ := days37 htd h1 hd1 h3 d.1 0 0 (by omega) FU (by unfold FU; omega)
  have e0 : (fun e => if e < 0 then mE td (d.2.2 e) else d.2.2 e) = d.2.2 := by
    funext e; rw [if_neg (by omega)]
  rw [e0, Nat.zero_add, Nat.zero_add] at hz2
  have hz2 : f_X4_passOneDay_37 FU d.1 (dz (va_up d.2.1 1 (fun _ => nI (td + 1)))) d.2.2 0 0 = some (dz (va_up d.2.1 1 (fun _ => nI (td + 1))), fun e => if e < d.1 then mE td (d.2.2 e) else d.2.2 e, nI (wsum td d), z2) := hz2
  unfold f_X4_passOneDay
  simp only [lt, h2, s1]
  rw [hz, Option.bind_some]
  show (f_X4_passOneDay_37 FU d.1 (dz (va_up d.2.1 1 (fun _ => nI (td + 1)))) d.2.2 0 0).bind _ = _
  rw [hz2]
  rfl
def ODn : Nat → Nat → Dk → Dk
  | 0, _, d => d
  | m + 1, td, d => ODn m (td + 1) (OD td d)
def Wn : Nat → Nat → Dk → Nat
  | 0, _, _ => 0
  | m + 1, td, d => wsum td d + Wn m (td + 1) (OD td d)
theorem ODn_dc : ∀ (m td : Nat) (d : Dk), DC td d → td + m < 2 ^ 30 → DC (td + m) (ODn m td d)
  | 0, td, d, h, _ => h
  | m + 1, td, d, h, htd => by
    have := ODn_dc m (td + 1) (OD td d) (OD_dc h (by omega)) (by omega)
    rw [show td + (m + 1) = td + 1 + m by omega]
    exact this
theorem ODn_n : ∀ (m td : Nat) (d : Dk), (ODn m td d).1 = d.1
  | 0, _, _ => rfl
  | m + 1, td, d => by rw [ODn, ODn_n m]; rfl
theorem pass25 {k : Nat} (hk : k ≤ 60) : ∀ (m i td A : Nat) (d : Dk), i + m = k → DC td d → td + m < 2 ^ 30 → ∀ fu, m < fu → ∃ z, f_X4_pass_25 fu d.1 d.2.1 d.2.2 (nI k) (nI A) (nI i) = some ((ODn m td d).2.1, (ODn m td d).2.2, nI (A + Wn m td d), z) := by
  intro m
  induction m with
  | zero =>
    intro i td A d hi hd htd fu hfu
    obtain ⟨fu, rfl⟩ : ∃ g, fu = g + 1 := ⟨fu - 1, by omega⟩
    obtain rfl : i = k := by omega
    exact ⟨nI i, by rw [f_X4_pass_25, if_pos (nI_le (Nat.le_refl _) (by omega))]; rfl⟩
  | succ m ih =>
    intro i td A d hi hd htd fu hfu
    obtain ⟨fu, rfl⟩ : ∃ g, fu = g + 1 := ⟨fu - 1, by omega⟩
    obtain ⟨z, hz⟩ := ih (i + 1) (td + 1) (A + wsum td d) (OD td d) (by omega) (OD_dc hd (by omega)) (by omega) fu (by omega)
    refine ⟨z, ?_⟩
    rw [f_X4_pass_25, if_neg (nI_ge (by omega) (by omega)), one_ok hd (by omega), Option.bind_some, s1, nI_add, ODn, Wn, ← Nat.add_assoc]
    exact hz
theorem pass_ok {k td : Nat} {d : Dk} (hk1 : 1 ≤ k) (hk : k ≤ 60) (hd : DC td d) (htd : td + k < 2 ^ 30) : gn_pass d (nI k) = some (nI (Wn k td d), ODn k td d) := by
  obtain ⟨z, hz⟩ := pass25 hk k 0 td 0 d (by omega) hd htd FU (by unfold FU; omega)
  rw [Nat.zero_add] at hz
  have hz : f_X4_pass_25 FU d.1 d.2.1 d.2.2 (nI k) 0 0 = some ((ODn k td d).2.1, (ODn k td d).2.2, nI (Wn k td d), z) := hz
  unfold gn_pass f_X4_pass
  rw [if_pos hd.1, if_neg (show ¬ nI k < 1 from nI_nlt (b := 1) hk1 (by omega)), if_pos (show nI k ≤ 60 from nI_le (b := 60) hk (by decide)), hz, Option.bind_some]
  show some (nI (Wn k td d), d.1, (ODn k td d).2.1, (ODn k td d).2.2) = _
  rw [← ODn_n k td d]
theorem pass_0 {d : Dk} (hn : d.1 ≤ 6) : gm_pass d 0 = some (-1000002, d) := by
  unfold gm_pass f_X4_pass
  rw [if_pos hn, if_pos (by decide)]
  show some (cE IAE, d) = _
  rw [cE_IAE]
theorem pass_61 {d : Dk} (hn : d.1 ≤ 6) : gm_pass d 61 = some (-1000002, d) := by
  unfold gm_pass f_X4_pass
  rw [if_pos hn, if_neg (by decide), if_neg (by decide)]
  show some (cE IAE, d) = _
  rw [cE_IAE]
theorem Twin.od {d u : Dk} (h : Twin d u) (td : Nat) : Twin (OD td d) (OD td u) ∧ wsum td u = wsum td d := by
  refine ⟨⟨h.1, ?_, fun x hx => ?_⟩, ?_⟩
  · show (fun e => if e < u.1 then mE td (u.2.2 e) else u.2.2 e) = _
    rw [h.1, h.2.1]; rfl
  · show dz (va_up u.2.1 1 (fun _ => nI (td + 1))) x = dz (va_up d.2.1 1 (fun _ => nI (td + 1))) x
    have e : va_up u.2.1 1 (fun _ => nI (td + 1)) x = va_up d.2.1 1 (fun _ => nI (td + 1)) x := by
      by_cases h1 : x = 1
      · subst h1; rw [up_eq, up_eq]
      · rw [up_ne h1, up_ne h1, h.2.2 x hx]
    unfold dz
    rw [e]
  · unfold wsum
    rw [h.1, h.2.1]
theorem Twin.dc {td : Nat} {d u : Dk} (h : Twin d u) (hd : DC td d) : DC td u := by
  obtain ⟨h1, h2, h3⟩ := hd
  refine ⟨by rw [h.1]; exact h1, by rw [h.2.2 1 (by decide)]; exact h2, fun e he => ?_⟩
  rw [h.2.1]
  exact h3 e (by rw [← h.1]; exact he)
theorem wsum_le {td : Nat} {d : Dk} (hd : DC td d) (htd : td < 2 ^ 30) : wsum td d ≤ 48 := by
  have h1 : ∀ n, n ≤ d.1 → smj (fun e => mW td (d.2.2 e)) n ≤ 8 * n := by
    intro n
    induction n with
    | zero => intro _; exact Nat.le_refl _
    | succ n ih =>
      intro hn
      obtain ⟨c, bf, pr, hc⟩ := hd.2.2 n (by omega)
      have := (hc.meet htd).2.1
      have := ih (by omega)
      rw [smj]
      omega
  have := h1 d.1 (Nat.le_refl _)
  have := hd.1
  unfold wsum
  omega
theorem meet_idle {td c len pc tm : Nat} {σ : SS} {bf pr K sl dy : Nat → Nat} {pe se : Nat → Int32} (hE : CE td σ c len pc tm bf pr K sl dy pe se) (h : ¬ sta c K sl len = 1) : mE td σ = σ := by
  have hst := sta_le c K sl len
  have h1 : f_X0_meetDay σ (nI (td + 1)) = some (nI 0, σ) := by
    unfold f_X0_meetDay
    rw [hE.2.2.2.2.2.2.2.2.2.2.1, if_neg (show ¬ nI (sta c K sl len) = 1 from fun q => h ((nI_eq (b := 1) (by omega) (by decide)).mp q))]
    rfl
  exact (m_of h1 (by omega)).1
/-- what is known of the watched envelope on a day -/
def Watch (v0 : Int32) (σ₀ : SS) (had td : Nat) (σ : SS) : Prop :=
  (σ = σ₀ ∧ ∃ (c pc tm : Nat) (bf pr K sl dy : Nat → Nat) (pe se : Nat → Int32), CE td σ c had pc tm bf pr K sl dy pe se ∧ NXT td c pc (opn c bf K sl had) (fun j => ond c bf K sl dy had j) (fun j => rmd K sl had j) v0) ∨
  (∃ (c pc tm : Nat) (bf pr K sl dy : Nat → Nat) (pe se : Nat → Int32), CE td σ c (had + 1) pc tm bf pr K sl dy pe se ∧ sta c K sl (had + 1) = 5) ∨
  ∃ N, v0 = nI N ∧ N ≤ td ∧ ∃ (c len pc tm : Nat) (bf pr K sl dy : Nat → Nat) (pe se : Nat → Int32), CE td σ c len pc tm bf pr K sl dy pe se ∧ (N = td → had < len)
theorem NXT.ge {td c pc O : Nat} {ON RM : Nat → Nat} {v : Int32} (h : NXT td c pc O ON RM v) (hpc : pc ≤ 30) : v = -1 ∨ ∃ N, v = nI N ∧ td < N ∧ N ≤ td + 30 := by
  rcases h with h | ⟨N, hv, ⟨j, hj, hc, he⟩, -⟩
  · exact Or.inl h.1
  · have := nx_gt (td := td) (ON := ON) (j := j) hc.1
    exact Or.inr ⟨N, hv, by omega, by omega⟩
/-- a day goes by; what the watched envelope then shows -/
theorem Watch.day {v0 : Int32} {σ₀ σ : SS} {had td : Nat} (h : Watch v0 σ₀ had td σ) (htd : td < 2 ^ 29) (hv : v0 = -1 ∨ ∃ N, v0 = nI N ∧ N < 2 ^ 30) :
    Watch v0 σ₀ had (td + 1) (mE td σ) ∧ ∃ (c len pc tm : Nat) (bf pr K sl dy : Nat → Nat) (pe se : Nat → Int32), CE (td + 1) (mE td σ) c len pc tm bf pr K sl dy pe se ∧
      ((len = had ∧ ∀ N, v0 = nI N → N < 2 ^ 30 → td + 1 < N) ∨ (len = had + 1 ∧ sta c K sl len = 5) ∨ ∃ N, v0 = nI N ∧ N ≤ td + 1 ∧ (N = td + 1 → had < len)) := by
  rcases h with ⟨rfl, c, pc, tm, bf, pr, K, sl, dy, pe, se, hE, hN⟩ | ⟨c, pc, tm, bf, pr, K, sl, dy, pe, se, hE, h5⟩ | ⟨N, hv0, hNt, c, len, pc, tm, bf, pr, K, sl, dy, pe, se, hE, -⟩
  · obtain ⟨w, σ', m1, m2, m3⟩ := meet_ok hE (by omega)
    obtain ⟨e1, -⟩ := m_of m1 m2
    rw [e1]
    rcases m3 with ⟨-, e2, hno⟩ | ⟨len', K', sl', dy', pe', se', hlt, hC, hx⟩
    · have hN' := hN.step (fun j hj => (hE.on j hj).1) hno
      have hE' := hE.mono (show td ≤ td + 1 by omega)
      rw [e2]
      refine ⟨Or.inl ⟨rfl, c, pc, tm, bf, pr, K, sl, dy, pe, se, hE', hN'⟩, c, had, pc, tm, bf, pr, K, sl, dy, pe, se, hE', Or.inl ⟨rfl, fun N hvN hNb => ?_⟩⟩
      rcases hN'.ge hE.1 with q | ⟨N', q, q1, q2⟩
      · rw [q] at hvN
        exact absurd hvN.symm (nI_m1 (by omega))
      · rw [hvN] at q
        have := (nI_eq (by omega) (by omega)).mp q
        omega
    · rcases hx with ⟨hl, hs⟩ | ⟨j, hj, hcan, hnx⟩
      · subst hl
        exact ⟨Or.inr (Or.inl ⟨c, pc, tm, bf, pr, K', sl', dy', pe', se', hC, hs⟩), c, had + 1, pc, tm, bf, pr, K', sl', dy', pe', se', hC, Or.inr (Or.inl ⟨rfl, hs⟩)⟩
      · rcases hN with ⟨-, hno⟩ | ⟨N, hvN, -, hmin⟩
        · exact absurd hcan (hno j hj)
        · have := hmin j hj hcan
          rw [hnx] at this
          exact ⟨Or.inr (Or.inr ⟨N, hvN, this, c, len', pc, tm, bf, pr, K', sl', dy', pe', se', hC, fun _ => hlt⟩), c, len', pc, tm, bf, pr, K', sl', dy', pe', se', hC, Or.inr (Or.inr ⟨N, hvN, this, fun _ => hlt⟩)⟩
  · rw [meet_idle hE (by omega)]
    have hE' := hE.mono (show td ≤ td + 1 by omega)
    exact ⟨Or.inr (Or.inl ⟨c, pc, tm, bf, pr, K, sl, dy, pe, se, hE', h5⟩), c, had + 1, pc, tm, bf, pr, K, sl, dy, pe, se, hE', Or.inr (Or.inl ⟨rfl, h5⟩)⟩
  · obtain ⟨-, -, len', pc', tm', K', sl', dy', pe', se', hE'⟩ := EC.meet ⟨len, pc, tm, K, sl, dy, pe, se, hE⟩ (show td < 2 ^ 30 by omega)
    exact ⟨Or.inr (Or.inr ⟨N, hv0, by omega, c, len', pc', tm', bf, pr, K', sl', dy', pe', se', hE', fun q => by omega⟩), c, len', pc', tm', bf, pr, K', sl', dy', pe', se', hE', Or.inr (Or.inr ⟨N, hv0, by omega, fun q => by omega⟩)⟩
end
