section
variable {p : Program} {l : Launch} {e : Env} {R : Room} {s : State} {m : MethodId} {args : Array Value} {below : List Frame} {meth : Method} {c : Code} {H : Heap} {locs : List Loc} {cells slots : Nat} {Q : State → Prop}
variable {cc : ByteArray} {nL : Nat} {own : String} {D : va_G} {cA : Nat → ClassId} {A : Nat → Prop} {ws ws' wc wr : va_W} {pc : Nat} {ls : Array Slot} {rest : List Value} {a : Nat} {H0 : Heap}
variable {y : MethodName} {cy : ByteArray} {maxL n mc ms idx : Nat} {rm : Room} {As st0 : List Value} {b : Nat} {Av : Array Value} {W' : (Nat → Nat) → va_W}
theorem call_A (C : Cx p s m args meth c cc nL own D cA) (hao : AOG s) (h : St D A s.heap ws H locs) (K : CtA y cy maxL rm (.ref b :: As) D cA wc W' b mc ms) (F : Cond.methodLink own idx y ∈ WS ∧ Cond.instanceMethod y ∈ WS ∧ Cond.initialized y.cls ∈ WS ∧ Cond.code y cy maxL none ∈ WS) (hy1 : y.name = "<init>") (hd : y.cls ≠ "java/lang/invoke/MethodHandle" ∧ y.cls ≠ "java/lang/invoke/VarHandle" ∧ (parseMethodDescriptor y.desc).map (fun d => d.parameters.length) = some n)
    (isC isR : List Nat) (hC : isC.map (fun i => ws[i]?) = wc.map some) (hnd : va_nd isC = true) (hR' : isR.map (fun i => ws[i]?) = wr.map some) (hn' : va_nd isR = true) (hdis : ∀ i ∈ isR, i ∉ isC) (hn : As.length = n) (hst : st0 = As.reverse ++ .ref b :: rest) (hsz : ls.size = nL) (hW : (rest.map fun v => v.category).sum ≤ 8) (hdg : decode cc pc = .ok (.invokespecial idx, 3))
    (hR : rm.frames + 1 ≤ R.frames ∧ 8 + (maxL + 11) + rm.locals ≤ R.locals) (hrc : rm.cells = mc) (hrs : rm.slots = ms) (hfit : cells + mc ≤ R.cells ∧ slots + ms ≤ R.slots)
    (kk : ∀ (q : Nat → Nat) (H1 : Heap) (locs1 : List Loc), q 0 = b → St D A s.heap (wr ++ W' q) H1 locs1 → W p l e R s m args below meth c H1 locs1 (cells + mc) (slots + ms) Q (F0 m (pc + 3) ls rest)) : W p l e R s m args below meth c H locs cells slots Q (F0 m pc ls st0) :=
  run_N (va_runI (As := As) (rest := rest) ⟨C.1, C.2.1, C.2.2.1, C.2.2.2.1, C.2.2.2.2.1⟩ (K l H.size) (cwI n C.2.2.2.2.1 (ws_goodIn (mws_in F.2.2.2)) rfl hrc hrs (C.2.2.2.2.1 _ F.2.2.1) (C.2.2.2.2.1 _ F.1) (C.2.2.2.2.1 _ F.2.1) hy1 hd hR) ⟨PreA.blind, fun U hU hW => ⟨rfl, (pre_ok (As := .ref b :: As) C (sub_P h.1 hC) ((sub_D h.2.1 hC hnd).weaken (fun _ _ _ _ => trivial)) U hU hW).2, va_AO.moved hW.alike hao.1, va_AO.moved hW.alike hao.2⟩⟩ rfl hn hsz hst (lv_room hW) hdg hfit) h isC isR hC hR' hn' hdis kk
end
section
variable {p : Program} {e : Env} {s : State} {m : MethodId} {below : List Frame} {meth : Method} {c : Code}
set_option maxHeartbeats 1000000 in
set_option maxRecDepth 100000 in
theorem law_start {Inv : IT} (hn6 : ∀ t n σ0 σ τ, Inv t n σ0 σ τ → n ≤ 6) (skip : ∀ t n σ0 σ τ, Inv t n σ0 σ τ → Inv (t + 1) n σ0 σ τ) (S : SAll Inv) (h0 : Inv 0 0 σ00 (fun _ _ _ => 0) σm0) (l : Launch) (hflags : l.flags = flags0) {b L : Nat} {xs : Nat → Int32} (hL : L ≤ 3072) (C0 : lw_At p s m meth c b L xs) : W p l e room_1 s m #[Value.ref b] below meth c s.heap [] 0 0 (lw_Z below #[Value.ref b] s) (entryFrame m ([Value.ref b] : List Value).toArray 8) := by
  obtain ⟨hx, hb, hr, hml, hown, hts, hscr, hbl, hlk, hgv⟩ := C0
  have hf : ∀ w ∈ flatN, w.before #[.ref b] s = true := flat_of_before _ hgv
  obtain ⟨D, cA, hK⟩ := ent_K hts
  have hl0 : l.stackTraces = false := by unfold Launch.stackTraces; rw [hflags]; decide
  have C : Cx p s m #[.ref b] meth c cL_law 8 RL D cA := ⟨hx, hb, hml, hown, fun w hw => hts w (List.mem_filter.mp hw).1, hK, hlk⟩
  have X : LX p l s m #[.ref b] meth c D cA b L xs := ⟨C, hl0, ⟨ent_S hts hf, ent_T9 hts, ent_Z hts hf⟩, ent_N hf, hscr, hbl⟩
  have hao := ent_AO hts
  have h : St D (nA s) s.heap [] s.heap [] := ⟨fun k q h => by simp at h, ⟨fun i j p q h => by simp at h, fun k q h => by simp at h⟩, va_S.rf, fun q h => h⟩
  have hl := lv_entry ([.ref b]) (n := 8) (Nat.le_of_ble_eq_true rfl)
  rw [lg_entry_eq]
  generalize (lg_sl ([.ref b]) ++ List.replicate (8 - (lg_sl ([.ref b])).length) Slot.unset).toArray = ls at hl ⊢
  replace hl : lv_has ls 8 [(0, .ref b)] := hl
  have hb : c.code = cL_law := hb
  refine g_new (pc := 0) (ci := 4) (N := 5) (fs := [.null, .null, .null, .int 0, .int 0]) C h inW4 tyX4 tyX4_ok lw_L_8 iw_X4 rfl (fun j hj => by rcases (show j = 0 ∨ j = 1 ∨ j = 2 ∨ j = 3 ∨ j = 4 by omega) with rfl | rfl | rfl | rfl | rfl <;> rfl) (Nat.le_of_ble_eq_true rfl) (Nat.le_of_ble_eq_true rfl) dL_law_0 (fun a4 H h => ?_)
  refine lv_dup (pc := 3) hx hb dL_law_3 rfl ?_
  refine call_A (pc := 4) (As := []) (rest := [.ref a4]) (wr := []) C hao h (k_X4_init (a := a4) (qE := fun _ _ => 0)) cn_L_121 rfl ⟨by decide +kernel, by decide +kernel, by decide +kernel⟩ [0] [] rfl rfl rfl rfl (fun i hi => by simp at hi) rfl rfl hl.1 (Nat.le_of_ble_eq_true rfl) dL_law_4 ⟨Nat.le_of_ble_eq_true rfl, Nat.le_of_ble_eq_true rfl⟩ rfl rfl ⟨Nat.le_of_ble_eq_true rfl, Nat.le_of_ble_eq_true rfl⟩ (fun q0 H locs hq0 hN => ?_)
  subst hq0
  have h : St D (nA s) s.heap (fW 0 q0 (fun _ _ => 0) cA σ00) H locs := hN
  clear hN
  refine lv_astore_n (pc := 7) (lv' := [(1, .ref (q0 0)), (0, .ref b)]) hx hb dL_law_7 rfl hl (by decide) rfl (fun ls hl => ?_)
  refine g_new (pc := 8) (ci := 5) (N := 25) (fs := [.int 0, .int 0, .null, .null, .null, .null, .null, .null, .null, .null, .null, .null, .null, .null, .null, .null, .null, .null, .int 0, .int 0, .int 0, .null, .null, .null, .int 0]) C h inW5 tyX5 tyX5_ok lw_L_122 iw_X5 rfl (fun j hj => by rcases (show j = 0 ∨ j = 1 ∨ j = 2 ∨ j = 3 ∨ j = 4 ∨ j = 5 ∨ j = 6 ∨ j = 7 ∨ j = 8 ∨ j = 9 ∨ j = 10 ∨ j = 11 ∨ j = 12 ∨ j = 13 ∨ j = 14 ∨ j = 15 ∨ j = 16 ∨ j = 17 ∨ j = 18 ∨ j = 19 ∨ j = 20 ∨ j = 21 ∨ j = 22 ∨ j = 23 ∨ j = 24 by omega) with rfl | rfl | rfl | rfl | rfl | rfl | rfl | rfl | rfl | rfl | rfl | rfl | rfl | rfl | rfl | rfl | rfl | rfl | rfl | rfl | rfl | rfl | rfl | rfl | rfl <;> rfl) (Nat.le_of_ble_eq_true rfl) (Nat.le_of_ble_eq_true rfl) dL_law_8 (fun a5 H h => ?_)
  refine lv_dup (pc := 11) hx hb dL_law_11 rfl ?_
  refine call_N (pc := 12) (As := []) (rest := [.ref a5]) (wr := fW 0 q0 (fun _ _ => 0) cA σ00) C h (k_X5_init (a := a5)) cn_L_124 rfl ⟨by decide +kernel, by decide +kernel, by decide +kernel⟩ [13] (List.range 13) rfl rfl rfl rfl (by decide) rfl rfl hl.1 (Nat.le_of_ble_eq_true rfl) dL_law_12 ⟨Nat.le_of_ble_eq_true rfl, Nat.le_of_ble_eq_true rfl⟩ rfl rfl ⟨Nat.le_of_ble_eq_true rfl, Nat.le_of_ble_eq_true rfl⟩ (fun qm H locs hqm hN => ?_)
  subst hqm
  have h : St D (nA s) s.heap (fW 0 q0 (fun _ _ => 0) cA σ00 ++ mW qm cA σm0) H locs := hN
  clear hN
  refine lv_astore_n (pc := 15) (lv' := [(2, .ref (qm 0)), (1, .ref (q0 0)), (0, .ref b)]) hx hb dL_law_15 rfl hl (by decide) rfl (fun ls hl => ?_)
  refine lv_iconst (pc := 16) (v := 1) hx hb dL_law_16 (by decide) ?_
  refine g_newl (pc := 17) (N' := 1) C h (by decide) (by decide) (by decide) (Nat.le_of_ble_eq_true rfl) (Nat.le_of_ble_eq_true rfl) dL_law_17 (fun o H h => ?_)
  refine lv_astore_n (pc := 19) (lv' := [(3, .ref o), (2, .ref (qm 0)), (1, .ref (q0 0)), (0, .ref b)]) hx hb dL_law_19 rfl hl (by decide) rfl (fun ls hl => ?_)
  refine lv_iconst (pc := 20) (v := 1) hx hb dL_law_20 (by decide) ?_
  refine g_newd (pc := 21) (N' := 1) C h (by decide) (by decide) (by decide) (Nat.le_of_ble_eq_true rfl) (Nat.le_of_ble_eq_true rfl) dL_law_21 (fun o2 H h => ?_)
  refine lv_astore (pc := 23) (lv' := [(4, .ref o2), (3, .ref o), (2, .ref (qm 0)), (1, .ref (q0 0)), (0, .ref b)]) hx hb dL_law_23 hl (by decide) rfl (fun ls hl => ?_)
  refine lv_iconst (pc := 25) (v := 0) hx hb dL_law_25 (by decide) ?_
  refine lv_istore (pc := 26) (lv' := [(5, .int 0), (4, .ref o2), (3, .ref o), (2, .ref (qm 0)), (1, .ref (q0 0)), (0, .ref b)]) hx hb dL_law_26 hl (by decide) rfl (fun ls hl => ?_)
  have hperm : (fW 0 q0 (fun _ _ => 0) cA σ00 ++ mW qm cA σm0 ++ ([(o, .inl (cA 3, 1, .inr (.inl (fun _ => 0))))] : va_W) ++ ([(o2, .inl (cA 4, 1, .inr (.inr (.inr (.inl (fun _ => 0))))))] : va_W)).Perm (wL 0 q0 (fun _ _ => 0) qm cA σ00 (fun _ _ _ => 0) σm0 o o2 (fun _ => 0) (fun _ => 0)) := by
    rw [List.append_assoc]
    exact List.perm_append_comm
  have h := St_perm hperm h
  exact W.widen (by decide) (by decide) (law_loop hn6 skip S X hr hL 512 0 (by omega) (by omega) 0 (fun _ _ => 0) σ00 (fun _ _ _ => 0) σm0 (fun _ => 0) (fun _ => 0) H _ h0 h ls (lv_sub hl [5, 4, 3, 2, 1, 0] rfl))
end
