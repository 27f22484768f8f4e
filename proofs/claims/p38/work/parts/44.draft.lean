/-! draft: a new envelope behind the others -/
section
variable {p : Program} {l : Launch} {e : Env} {R : Room} {s : State} {m : MethodId} {args : Array Value} {below : List Frame} {meth : Method} {c : Code} {H : Heap} {locs : List Loc} {cells slots : Nat} {Q : State → Prop}
variable {D : va_G} {cA : Nat → ClassId} {A : Nat → Prop}
theorem range_map (l : va_W) (x : Nat × va_E) : (List.range l.length).map (fun i => (l ++ [x])[i]?) = l.map some := by
  apply List.ext_getElem
  · simp
  · intro i h1 h2
    simp at h1
    simp [List.getElem?_append_left h1]
theorem nd_of : ∀ l : List Nat, l.Nodup → va_nd l = true
  | [], _ => rfl
  | a :: l, h => by
    have h1 := List.nodup_cons.mp h
    simp only [va_nd, Bool.and_eq_true, decide_eq_true_eq]
    exact ⟨h1.1, nd_of l h1.2⟩
/-- the desk's cells behind the first two -/
def fT (q0 : Nat → Nat) (cA : Nat → ClassId) (σ0 : Nat → Nat → Int32) : va_W := (fW 0 q0 (fun _ _ => 0) cA σ0).drop 2
/-- the desk in the midst of a draft -/
def dfW (v : Int32) (f : Nat → Option Nat) (q0 : Nat → Nat) (cA : Nat → ClassId) (σ0 : Nat → Nat → Int32) (es : va_W) : va_W :=
  (q0 0, .inr (4, [.ref (q0 1), .ref (q0 2), .ref (q0 3), .int v, .int (σ0 1 0)])) :: (q0 1, .inl (cA 1, 6, .inr (.inr (.inr (.inr f))))) :: (fT q0 cA σ0 ++ es)
theorem sW_dfW (n : Nat) (q0 : Nat → Nat) (q : Nat → Nat → Nat) (cA : Nat → ClassId) (σ0 : Nat → Nat → Int32) (σ : Nat → Nat → Nat → Int32) : sW n q0 q cA σ0 σ = dfW (nI n) (fun i => if i < n then some (q i 0) else none) q0 cA σ0 (eL n q cA σ) := rfl
theorem eL_next (n : Nat) (q : Nat → Nat → Nat) (qe : Nat → Nat) (cA : Nat → ClassId) (σ : Nat → Nat → Nat → Int32) (τ : Nat → Nat → Int32) : eL (n + 1) (va_up q n qe) cA (va_up σ n τ) = eL n q cA σ ++ eW qe cA τ := by
  unfold eL
  rw [List.range_succ, List.flatMap_append]
  congr 1
  · refine flatMap_eqs fun x hx => ?_
    have hne : x ≠ n := Nat.ne_of_lt (List.mem_range.mp hx)
    show eW (va_up q n qe x) cA (va_up σ n τ x) = _
    rw [show va_up q n qe x = q x from if_neg hne, show va_up σ n τ x = σ x from if_neg hne]
  · show eW (va_up q n qe n) cA (va_up σ n τ n) ++ [] = _
    rw [show va_up q n qe n = qe from if_pos rfl, show va_up σ n τ n = τ from if_pos rfl, List.append_nil]
theorem desk_next (n : Nat) (q : Nat → Nat → Nat) (qe : Nat → Nat) : (fun i => if i < n + 1 then some (va_up q n qe i 0) else none) = va_up (fun i => if i < n then some (q i 0) else none) n (some (qe 0)) := by
  funext i
  by_cases h : i = n
  · subst h; simp [va_up]
  · by_cases h2 : i < n
    · simp [va_up, h, h2, show i < n + 1 by omega]
    · simp [va_up, h, h2, show ¬ i < n + 1 by omega]
def PostD (n : Nat) (q0 : Nat → Nat) (q : Nat → Nat → Nat) (D : va_G) (cA : Nat → ClassId) (σ0 : Nat → Nat → Int32) (σ : Nat → Nat → Nat → Int32) (ws : va_W) (sz : Nat) : Array Value → State → Outcome → State → Prop := fun _ st oc t =>
  oc = .returned (some (.int (nI n))) ∧ ∃ qe : Nat → Nat, va_P D vwCl (sW (n + 1) q0 (va_up q n qe) cA σ0 (va_up σ n (fun _ _ => 0))) t.heap ∧ va_D (va_A ws sz) (sW (n + 1) q0 (va_up q n qe) cA σ0 (va_up σ n (fun _ _ => 0))) ∧ va_F (va_A ws sz) st t
abbrev rm_X4_draft : Room := { frames := 4, cells := 20, slots := 263, locals := 84 }
abbrev rmT_X4_draft : Room := { frames := 6, cells := 1, slots := 6, locals := 82 }
set_option maxHeartbeats 1000000 in
set_option maxRecDepth 100000 in
theorem k_X4_draft {n : Nat} (hn : n < 6) {q0 : Nat → Nat} {q : Nat → Nat → Nat} (σ0 : Nat → Nat → Int32) (σ : Nat → Nat → Nat → Int32) : ∀ (l : Launch) (sz : Nat), Met l yX4_draft (mws yX4_draft cX4_draft 1 (some .int)) rm_X4_draft (PreC D cA sz (sW n q0 q cA σ0 σ) [.ref (q0 0)]) (PostD n q0 q D cA σ0 σ (sW n q0 q cA σ0 σ) sz) 20 263 (va_A (sW n q0 q cA σ0 σ) sz) := by
  intro l sz
  refine Met.ofW (cc := cX4_draft) (maxL := 1) (ret := some .int) (by decide) rfl ?_
  intro p e s m args below meth c s₁ B hml hv
  obtain ⟨rfl, hsz, hP, hK0, hD0⟩ := hv
  subst hsz
  have hts0 := atoms_spec (ws := mws yX4_draft cX4_draft 1 (some .int)) B.pre
  have hown : s.vm.findClass yX4_draft.cls = some m.cls := findClass_of_methodNamed B.named
  have hl := lv_entry [.ref (q0 0)] (n := 1) (Nat.le_of_ble_eq_true rfl)
  rw [lg_entry_eq]
  generalize (lg_sl [.ref (q0 0)] ++ List.replicate (1 - (lg_sl [.ref (q0 0)]).length) Slot.unset).toArray = ls at hl ⊢
  have C : Cx p s m _ meth c cX4_draft 1 RX4 D cA := ⟨B.exec, B.bytes, hml, hown, fun w hw => hts0 w (List.mem_cons_of_mem _ hw), hK0, B.notSynchronized⟩
  obtain ⟨hx, hb, -, -, hts, hK, hlk⟩ := id C
  have hr := B.returns
  have h : St D (va_A (sW n q0 q cA σ0 σ) s.heap.size) s.heap (sW n q0 q cA σ0 σ) s.heap [] := ⟨hP, hD0.self, va_S.rf, fun q h => Or.inr h⟩
  replace hl : lv_has ls 1 [(0, .ref (q0 0))] := hl
  refine lv_aload_n (pc := 0) hx hb dX4_draft_0 rfl (lv_at hl 0 rfl) ?_
  refine g_get (pc := 1) (v := .int (nI n)) C h.1 0 (sW_c0 ..) fl_X4_31 rfl dX4_draft_1 ?_
  refine lv_aload_n (pc := 4) hx hb dX4_draft_4 rfl (lv_at hl 0 rfl) ?_
  refine g_get (pc := 5) (v := .ref (q0 1)) C h.1 0 (sW_c0 ..) fl_X4_11 rfl dX4_draft_5 ?_
  refine va_alen (pc := 8) (v := nI 6) hx hb hK.1 h.1 1 1 (sW_c1 ..) rfl rfl dX4_draft_8 ?_
  refine lv_icmp_lt (pc := 9) (tgt := 22) hx hb dX4_draft_9 (by decide) (fun _ => ?_) (fun c9 => absurd (nI_lt hn (by omega)) c9)
  refine lv_aload_n (pc := 22) hx hb dX4_draft_22 rfl (lv_at hl 0 rfl) ?_
  refine g_get (pc := 23) (v := .ref (q0 1)) C h.1 0 (sW_c0 ..) fl_X4_11 rfl dX4_draft_23 ?_
  refine lv_aload_n (pc := 26) hx hb dX4_draft_26 rfl (lv_at hl 0 rfl) ?_
  refine g_get (pc := 27) (v := .int (nI n)) C h.1 0 (sW_c0 ..) fl_X4_31 rfl dX4_draft_27 ?_
  refine g_new (pc := 30) (ci := 0) (N := 13) (fs := [.null, .null, .null, .null, .null, .null, .int 0, .int 0, .int 0, .int 0, .int 0, .int 0, .int 0]) C h inW0 tyX0 tyX0_ok lw_X4_9 iw_X0 rfl (fun j hj => by rcases (show j = 0 ∨ j = 1 ∨ j = 2 ∨ j = 3 ∨ j = 4 ∨ j = 5 ∨ j = 6 ∨ j = 7 ∨ j = 8 ∨ j = 9 ∨ j = 10 ∨ j = 11 ∨ j = 12 by omega) with rfl | rfl | rfl | rfl | rfl | rfl | rfl | rfl | rfl | rfl | rfl | rfl | rfl <;> rfl) (Nat.le_of_ble_eq_true rfl) (Nat.le_of_ble_eq_true rfl) dX4_draft_30 (fun a1 H h => ?_)
  refine lv_dup (pc := 33) hx hb dX4_draft_33 rfl ?_
  refine call_NN (pc := 34) (As := []) (rest := [.ref a1, .int (nI n), .ref (q0 1)]) (wr := sW n q0 q cA σ0 σ) C h (k_X0_init (a := a1)) hK.2.2.1 cnn_X0 rfl ⟨by decide +kernel, by decide +kernel, by decide +kernel⟩ [(sW n q0 q cA σ0 σ).length] (List.range (sW n q0 q cA σ0 σ).length) (by simp) rfl (range_map _ _) (nd_of _ List.nodup_range) (fun i hi => by
    have h1 := List.mem_range.mp hi
    intro h2
    rw [List.mem_singleton] at h2
    omega) rfl rfl hl.1 (Nat.le_of_ble_eq_true rfl) dX4_draft_34 ⟨Nat.le_of_ble_eq_true rfl, Nat.le_of_ble_eq_true rfl⟩ rfl rfl ⟨Nat.le_of_ble_eq_true rfl, Nat.le_of_ble_eq_true rfl⟩ (fun qe H locs hq hN => ?_)
  subst hq
  have hN : St D (va_A (sW n q0 q cA σ0 σ) s.heap.size) s.heap (sW n q0 q cA σ0 σ ++ eW qe cA (fun _ _ => 0)) H locs := hN
  have ew : sW n q0 q cA σ0 σ ++ eW qe cA (fun _ _ => 0) = dfW (nI n) (fun i => if i < n then some (q i 0) else none) q0 cA σ0 (eL n q cA σ ++ eW qe cA (fun _ _ => 0)) := by
    rw [sW_dfW]
    unfold dfW
    rw [List.cons_append, List.cons_append, List.append_assoc]
  have hv9 : (dfW (nI n) (fun i => if i < n then some (q i 0) else none) q0 cA σ0 (eL n q cA σ ++ eW qe cA (fun _ _ => 0)))[(sW n q0 q cA σ0 σ).length]? = some (qe 0, .inr (0, [.ref (qe 1), .ref (qe 2), .ref (qe 3), .ref (qe 4), .ref (qe 5), .ref (qe 11), .int 0, .int 0, .int 0, .int 0, .int 0, .int 0, .int 0])) := by
    rw [← ew, List.getElem?_append_right (Nat.le_refl _), Nat.sub_self]
    rfl
  have h2 := hN
  rw [ew] at h2
  refine W.eq (g2 := F0 m 37 ls [.ref (qe 0), .int (nI n), .ref (q0 1)]) rfl ?_
  refine g_astq (pc := 37) (ws' := dfW (nI n) (va_up (fun i => if i < n then some (q i 0) else none) (nI n).toNatClampNeg (some (qe 0))) q0 cA σ0 (eL n q cA σ ++ eW qe cA (fun _ _ => 0))) C h2 1 1 (sW n q0 q cA σ0 σ).length 0 rfl rfl hv9 rfl (vp_in_nI hn (by omega)) rfl dX4_draft_37 (fun H locs h3 => ?_)
  refine lv_aload_n (pc := 38) hx hb dX4_draft_38 rfl (lv_at hl 0 rfl) ?_
  refine lv_dup (pc := 39) hx hb dX4_draft_39 rfl ?_
  refine g_get (pc := 40) (v := .int (nI n)) C h3.1 0 rfl fl_X4_31 rfl dX4_draft_40 ?_
  refine lv_iconst (pc := 43) (v := 1) hx hb dX4_draft_43 (by decide) ?_
  refine lv_iadd (pc := 44) hx hb dX4_draft_44 ?_
  refine g_puti (pc := 45) (v := nI n + 1) (ws' := dfW (nI n + 1) (va_up (fun i => if i < n then some (q i 0) else none) (nI n).toNatClampNeg (some (qe 0))) q0 cA σ0 (eL n q cA σ ++ eW qe cA (fun _ _ => 0))) C h3 0 rfl fp_X4_31 (Nat.le_of_ble_eq_true rfl) rfl dX4_draft_45 (fun H locs h4 => ?_)
  refine lv_aload_n (pc := 48) hx hb dX4_draft_48 rfl (lv_at hl 0 rfl) ?_
  refine g_get (pc := 49) (v := .int (nI n + 1)) C h4.1 0 rfl fl_X4_31 rfl dX4_draft_49 ?_
  refine lv_iconst (pc := 52) (v := 1) hx hb dX4_draft_52 (by decide) ?_
  refine lv_isub (pc := 53) hx hb dX4_draft_53 ?_
  have en : nI n + 1 - 1 = nI n := by rw [nI_1, nI_pred]
  rw [en]
  have e5 : dfW (nI n + 1) (va_up (fun i => if i < n then some (q i 0) else none) (nI n).toNatClampNeg (some (qe 0))) q0 cA σ0 (eL n q cA σ ++ eW qe cA (fun _ _ => 0)) = sW (n + 1) q0 (va_up q n qe) cA σ0 (va_up σ n (fun _ _ => 0)) := by
    rw [sW_dfW, desk_next, eL_next, nI_1, nI_clamp (by omega)]
  rw [e5] at h4
  exact W.iret (pc := 54) hx hb hr (fun t ht hW => ⟨rfl, qe, by rw [ht]; exact h4.1, h4.2.1, h4.2.2.1.F ht⟩) h4.2.2.1.2.2 dX4_draft_54 (hlocks := hlk)
set_option maxHeartbeats 400000 in
set_option maxRecDepth 100000 in
theorem kT_X4_draft {n : Nat} (hn : n = 6) {q0 : Nat → Nat} {q : Nat → Nat → Nat} (σ0 : Nat → Nat → Int32) (σ : Nat → Nat → Nat → Int32) : CtT yX4_draft cX4_draft 1 (some .int) rmT_X4_draft [.ref (q0 0)] D cA (sW n q0 q cA σ0 σ) "java/lang/IllegalStateException" := by
  refine ctT_of (by decide) (Nat.le_of_ble_eq_true rfl) ?_
  intro p l e s m below meth c ls hl0 C hex hX h hl
  have C : Cx p s m _ meth c cX4_draft 1 RX4 D cA := C
  obtain ⟨hx, hb, hml, hown, hts, hK, hlk⟩ := id C
  replace hl : lv_has ls 1 [(0, .ref (q0 0))] := hl
  refine lv_aload_n (pc := 0) hx hb dX4_draft_0 rfl (lv_at hl 0 rfl) ?_
  refine g_get (pc := 1) (v := .int (nI n)) C h.1 0 (sW_c0 ..) fl_X4_31 rfl dX4_draft_1 ?_
  refine lv_aload_n (pc := 4) hx hb dX4_draft_4 rfl (lv_at hl 0 rfl) ?_
  refine g_get (pc := 5) (v := .ref (q0 1)) C h.1 0 (sW_c0 ..) fl_X4_11 rfl dX4_draft_5 ?_
  refine va_alen (pc := 8) (v := nI 6) hx hb hK.1 h.1 1 1 (sW_c1 ..) rfl rfl dX4_draft_8 ?_
  refine lv_icmp_lt (pc := 9) (tgt := 22) hx hb dX4_draft_9 (by decide) (fun c9 => absurd c9 (nI_nlt (by omega) (by omega))) (fun c9 => ?_)
  exact g_throw (pc := 12) (rest := []) C hl0 hex hX h tw_IllegalStateException (is := 37) (text := "there are 6 envelopes") (by decide +kernel) hl.1 dX4_draft_12 dX4_draft_15 dX4_draft_16 dX4_draft_18 dX4_draft_21 (Nat.le_of_ble_eq_true rfl) (Nat.le_of_ble_eq_true rfl) (Nat.le_of_ble_eq_true rfl) (Nat.le_of_ble_eq_true rfl) (Nat.le_of_ble_eq_true rfl) (Nat.le_of_ble_eq_true rfl)
end
