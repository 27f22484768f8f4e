/-! The law lets days pass, at once on one desk, one by one on the other -/
section
theorem nI_i (a : Nat) (b : Nat) : (nI a + nI b) + (1 : Int32) = nI (a + b + 1) := by rw [nI_add, s1]
theorem pa280 {td k t0 : Nat} {d u : Dk} (hk1 : 1 ≤ k) (hk : k ≤ 60) (hd : DC td d) (htd : td + k < 2 ^ 30) : f_L_passes_280 d u (nI k) (nI (Wn k td d)) 1 = some (1, ODn k td d, u) := by
  have h2 := ODn_dc k td d hd htd
  unfold f_L_passes_280
  rw [v_today d hd.1, Option.bind_some, if_neg (by decide), pass_ok hk1 hk hd htd, Option.bind_some, if_pos rfl, v_today _ h2.1, Option.bind_some, h2.2.1, hd.2.1, nI_add, if_pos rfl, pass_0 h2.1, Option.bind_some, if_pos rfl, pass_61 h2.1, Option.bind_some, if_pos rfl]
/-- what the watched number of an envelope can be, none there -/
def PW (d : Dk) (e : Nat) (v0 : Int32) (had : Nat) (td : Nat) (σ₀ : SS) (v : Dk) : Prop :=
  (d.1 ≤ e ∧ v0 = -1000001) ∨ (e < d.1 ∧ (v0 = -1 ∨ ∃ N, v0 = nI N ∧ N < 2 ^ 30) ∧ Watch v0 σ₀ had td (v.2.2 e))
theorem pa_step {td e i k A : Nat} {d u v : Dk} {v0 : Int32} {had : Nat} {σ₀ : SS} (hn : v.1 = d.1) (h6 : e < 6) (htd : td < 2 ^ 29) (hv : DC td v) (hu : Twin v u) (hP : PW d e v0 had td σ₀ v) (hh : had ≤ 49) (r : Dk → Dk → Int32 → Int32 → Int32 → Int32 → Int32 → Int32 → Int32 → Option (Int32 × Dk × Dk)) :
    f_L_passes_137 r d (OD td u) (nI k) (nI e) v0 (nI had) (nI A) (nI i) 1 = r d (OD td u) (nI k) (nI e) v0 (nI had) (nI A) 1 (nI (i + 1)) ∧ PW d e v0 had (td + 1) σ₀ (OD td v) := by
  have hvn := hv.1
  have ho := (hu.od td).1
  have hvd := OD_dc hv (show td < 2 ^ 30 by omega)
  have hud := ho.dc hvd
  have hun := hud.1
  rcases hP with ⟨hne, rfl⟩ | ⟨hen, hv0, hW⟩
  · refine ⟨?_, Or.inl ⟨hne, rfl⟩⟩
    unfold f_L_passes_137 f_L_passes_224
    rw [if_neg (by decide), if_pos (by decide), if_neg (by decide), if_pos rfl, s1]
  · obtain ⟨hW', c, len, pc, tm, bf, pr, K, sl, dy, pe, se, hE, hx⟩ := hW.day htd hv0
    have hev : e < v.1 := by omega
    have hE2 : CE (td + 1) ((OD td u).2.2 e) c len pc tm bf pr K sl dy pe se := by
      rw [ho.2.1]
      show CE (td + 1) (if e < v.1 then mE td (v.2.2 e) else v.2.2 e) c len pc tm bf pr K sl dy pe se
      rw [if_pos hev]
      exact hE
    have heu : e < (OD td u).1 := by rw [ho.1]; exact hev
    have hl := hE.2.2.2.1.2.1
    have hst := sta_le c K sl len
    have gev := v_events hun heu hE2
    have gst := (v_state hun heu hE2).1
    have gto := v_today (OD td u) hun
    rw [hud.2.1] at gto
    refine ⟨?_, Or.inr ⟨hen, hv0, ?_⟩⟩
    rotate_left
    · show Watch v0 σ₀ had (td + 1) (if e < v.1 then mE td (v.2.2 e) else v.2.2 e)
      rw [if_pos hev]
      exact hW'
    · unfold f_L_passes_137
      rw [if_neg (by decide)]
      rcases hv0 with hv0 | ⟨N, hv0, hNb⟩
      · subst hv0
        rw [if_pos (by decide)]
        unfold f_L_passes_224
        rw [if_neg (by decide), if_neg (by decide), gev, Option.bind_some, Option.bind_some, s1, s1]
        rcases hx with ⟨hx, -⟩ | ⟨hx, h5⟩ | ⟨N, hN, hNt, -⟩
        · rw [hx, if_pos rfl]
        · rw [hx, if_neg (fun q => by have := (nI_eq (by omega) (by omega)).mp q; omega), if_pos rfl, gst, Option.bind_some, h5, if_pos (show nI 5 = (5 : Int32) from rfl)]
        · exact absurd hN.symm (nI_m1 (by omega))
      · subst hv0
        rw [if_neg (nI_pos (by omega)), gev, Option.bind_some, gto, Option.bind_some, Option.bind_some, s1, s1]
        by_cases hle : N ≤ td + 1
        · rw [if_pos (nI_le hle (by omega))]
          by_cases hlt : N < td + 1
          · rw [if_pos (nI_lt hlt (by omega))]
          · rw [if_neg (nI_nlt (by omega) (by omega))]
            have hgt : had < len := by
              rcases hx with ⟨-, h⟩ | ⟨h, -⟩ | ⟨N', h, hN', h2⟩
              · have := h N rfl hNb; omega
              · omega
              · have hb := (nI_eq (a := N) (b := N') (by omega) (by omega)).mp h
                exact h2 (by omega)
            rw [if_neg (nI_ge hgt (by omega))]
        · rw [if_neg (nI_ge (by omega) (by omega))]
          rcases hx with ⟨hx, -⟩ | ⟨hx, h5⟩ | ⟨N', h, h2, -⟩
          · rw [hx, if_pos rfl]
          · rw [hx, if_neg (fun q => by have := (nI_eq (by omega) (by omega)).mp q; omega), if_pos rfl, gst, Option.bind_some, h5, if_pos (show nI 5 = (5 : Int32) from rfl)]
          · exfalso
            have := (nI_eq (a := N) (b := N') (by omega) (by omega)).mp h
            omega
theorem pa86 {k e had t0 : Nat} {d : Dk} {v0 : Int32} {σ₀ : SS} (hk1 : 1 ≤ k) (hk : k ≤ 60) (h6 : e < 6) (hh : had ≤ 49) (hd : DC t0 d) (ht0 : t0 + k < 2 ^ 29) :
    ∀ (m i A : Nat) (v u : Dk), i + m = k → DC (t0 + i) v → v.1 = d.1 → Twin v u → PW d e v0 had (t0 + i) σ₀ v → ODn m (t0 + i) v = ODn k t0 d → A + Wn m (t0 + i) v = Wn k t0 d → ∀ fu, m < fu → ∃ u', f_L_passes_86 fu d u (nI k) (nI e) v0 (nI had) (nI A) 1 (nI i) = some (1, ODn k t0 d, u') ∧ Twin (ODn k t0 d) u' := by
  intro m
  induction m with
  | zero =>
    intro i A v u hi hv hn hu hP hO hW fu hfu
    obtain ⟨fu, rfl⟩ : ∃ g, fu = g + 1 := ⟨fu - 1, by omega⟩
    have hA : A = Wn k t0 d := hW
    refine ⟨u, ?_, ?_⟩
    · rw [f_L_passes_86, if_pos (nI_le (show k ≤ i by omega) (by omega)), hA]
      exact pa280 (t0 := t0) hk1 hk hd (by omega)
    · rw [← hO]; exact hu
  | succ m ih =>
    intro i A v u hi hv hn hu hP hO hW fu hfu
    obtain ⟨fu, rfl⟩ : ∃ g, fu = g + 1 := ⟨fu - 1, by omega⟩
    have hud := hu.dc hv
    obtain ⟨ho, hw⟩ := hu.od (t0 + i)
    have hle := wsum_le hv (show t0 + i < 2 ^ 30 by omega)
    have hp1 := pass_ok (k := 1) (by omega) (by omega) hud (by omega)
    have hp1 : gn_pass u 1 = some (nI (wsum (t0 + i) u + 0), OD (t0 + i) u) := hp1
    have hud2 := ho.dc (OD_dc hv (by omega))
    obtain ⟨s2, s3⟩ := pa_step (k := k) (i := i) (A := A + wsum (t0 + i) v) hn h6 (by omega) hv hu hP hh (f_L_passes_86 fu)
    obtain ⟨u', r1, r2⟩ := ih (i + 1) (A + wsum (t0 + i) v) (OD (t0 + i) v) (OD (t0 + i) u) (by omega) (OD_dc (td := t0 + i) hv (by omega)) hn ho s3 hO (by rw [← hW, Wn, Nat.add_assoc]; rfl) fu (by omega)
    refine ⟨u', ?_, r2⟩
    rw [f_L_passes_86, if_neg (nI_ge (by omega) (by omega)), if_neg (by decide), hp1, Option.bind_some, hw, Nat.add_zero, if_neg (nI_pos (by omega)), v_today _ hud2.1, Option.bind_some, v_today d hd.1, Option.bind_some, hud2.2.1, hd.2.1, nI_i, if_pos rfl, nI_add, s2]
    exact r1
theorem passes_ok {k e td : Nat} {d u : Dk} (hk1 : 1 ≤ k) (hk : k ≤ 60) (h6 : e < 6) (hd : DC td d) (hu : Twin d u) (htd : td + k < 2 ^ 29) :
    ∃ u', f_L_passes d u (nI k) (nI e) = some (1, ODn k td d, u') ∧ Twin (ODn k td d) u' := by
  have hn := hd.1
  unfold f_L_passes f_L_passes_18
  rw [v_envelopes d hn, Option.bind_some, Option.bind_some]
  by_cases he : d.1 ≤ e
  · have g : gm_nextReminder d (nI e) = some (-1000001) := by
      unfold gm_nextReminder f_X4_nextReminder
      rw [if_pos hn, env_no he (by omega)]; rfl
    obtain ⟨u', r1, r2⟩ := pa86 (had := 0) (v0 := -1000001) (σ₀ := fun _ _ => 0) hk1 hk h6 (by omega) hd htd k 0 0 d u (by omega) hd rfl hu (Or.inl ⟨he, rfl⟩) rfl (by rw [Nat.zero_add]; rfl) FU (by unfold FU; omega)
    have r1 : f_L_passes_86 FU d u (nI k) (nI e) (-1000001) 0 0 1 0 = some (1, ODn k td d, u') := r1
    refine ⟨u', ?_, r2⟩
    rw [if_pos (nI_le he (by omega)), if_pos (nI_le he (by omega))]
    unfold f_L_passes_37 f_L_passes_81
    rw [g, Option.bind_some, if_pos rfl, tw_nextm hu, g, Option.bind_some, if_pos rfl, if_pos (by decide)]
    exact r1
  · obtain ⟨c, bf, pr, len, pc, tm, K, sl, dy, pe, se, hE⟩ := hd.2.2 e (by omega)
    have hen : e < d.1 := by omega
    obtain ⟨v0, g1, g2, hN⟩ := v_next (show td < 2 ^ 30 by omega) hn hen hd.2.1 hE
    have hl := hE.2.2.2.1.2.1
    have hge := hN.ge hE.1
    obtain ⟨u', r1, r2⟩ := pa86 (had := len) (v0 := v0) (σ₀ := d.2.2 e) hk1 hk h6 hl hd htd k 0 0 d u (by omega) hd rfl hu (Or.inr ⟨hen, by
      rcases hge with h | ⟨N, h, h2, h3⟩
      · exact Or.inl h
      · exact Or.inr ⟨N, h, by omega⟩, Or.inl ⟨rfl, c, pc, tm, bf, pr, K, sl, dy, pe, se, hE, hN⟩⟩) rfl (by rw [Nat.zero_add]; rfl) FU (by unfold FU; omega)
    have r1 : f_L_passes_86 FU d u (nI k) (nI e) v0 (nI len) 0 1 0 = some (1, ODn k td d, u') := r1
    refine ⟨u', ?_, r2⟩
    rw [if_neg (nI_ge hen (by omega)), g1, Option.bind_some, Option.bind_some, if_neg (nI_ge hen (by omega)), v_events hn hen hE, Option.bind_some]
    unfold f_L_passes_37 f_L_passes_81
    rw [g2, Option.bind_some, if_pos rfl, tw_nextm hu, g2, Option.bind_some, if_pos rfl, v_today d hn, Option.bind_some, hd.2.1]
    rcases hge with h | ⟨N, h, h2, h3⟩
    · rw [if_pos (by rw [h]; decide)]
      exact r1
    · rw [if_neg (by rw [h]; exact nI_pos (by omega)), if_neg (by rw [h]; exact nI_ge h2 (by omega))]
      exact r1
end
