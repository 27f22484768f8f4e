section
variable {p : Program} {l : Launch} {e : Env} {R : Room} {s : State} {m : MethodId} {args : Array Value} {below : List Frame} {meth : Method} {c : Code} {H : Heap} {locs : List Loc} {cells slots : Nat} {Q : State → Prop}
variable {cc : ByteArray} {nL : Nat} {own : String} {D : va_G} {cA : Nat → ClassId} {A : Nat → Prop} {ws ws' wc wr : va_W} {pc : Nat} {ls : Array Slot} {rest : List Value} {a : Nat} {H0 : Heap}
variable {y : MethodName} {cy : ByteArray} {maxL n mc ms idx : Nat} {rm : Room} {As st0 : List Value} {b : Nat} {Av : Array Value} {W' : (Nat → Nat) → va_W}
theorem call_A (C : Cx p s m args meth c cc nL own D cA) (hao : AOG s) (h : St D A s.heap ws H locs) (K : CtA y cy maxL rm (.ref b :: As) D cA wc W' b mc ms) (F : Cond.methodLink own idx y ∈ WS ∧ Cond.instanceMethod y ∈ WS ∧ Cond.initialized y.cls ∈ WS ∧ Cond.code y cy maxL none ∈ WS) (hy1 : y.name = "<init>") (hd : y.cls ≠ "java/lang/invoke/MethodHandle" ∧ y.cls ≠ "java/lang/invoke/VarHandle" ∧ (parseMethodDescriptor y.desc).map (fun d => d.parameters.length) = some n)
    (isC isR : List Nat) (hC : isC.map (fun i => ws[i]?) = wc.map some) (hnd : va_nd isC = true) (hR' : isR.map (fun i => ws[i]?) = wr.map some) (hn' : va_nd isR = true) (hdis : ∀ i ∈ isR, i ∉ isC) (hn : As.length = n) (hst : st0 = As.reverse ++ .ref b :: rest) (hsz : ls.size = nL) (hW : (rest.map fun v => v.category).sum ≤ 8) (hdg : decode cc pc = .ok (.invokespecial idx, 3))
    (hR : rm.frames + 1 ≤ R.frames ∧ 8 + (maxL + 11) + rm.locals ≤ R.locals) (hrc : rm.cells = mc) (hrs : rm.slots = ms) (hfit : cells + mc ≤ R.cells ∧ slots + ms ≤ R.slots)
    (kk : ∀ (q : Nat → Nat) (H1 : Heap) (locs1 : List Loc), q 0 = b → St D A s.heap (wr ++ W' q) H1 locs1 → W p l e R s m args below meth c H1 locs1 (cells + mc) (slots + ms) Q (F0 m (pc + 3) ls rest)) : W p l e R s m args below meth c H locs cells slots Q (F0 m pc ls st0) :=
  run_N (va_runI (As := As) (rest := rest) ⟨C.1, C.2.1, C.2.2.1, C.2.2.2.1, C.2.2.2.2.1⟩ (K l H.size) (cwI n C.2.2.2.2.1 (ws_goodIn (mws_in F.2.2.2)) rfl hrc hrs (C.2.2.2.2.1 _ F.2.2.1) (C.2.2.2.2.1 _ F.1) (C.2.2.2.2.1 _ F.2.1) hy1 hd hR) ⟨PreA.blind, fun U hU hW => ⟨rfl, (pre_ok (As := .ref b :: As) C (sub_P h.1 hC) ((sub_D h.2.1 hC hnd).weaken (fun _ _ _ _ => trivial)) U hU hW).2, va_AO.moved hW.alike hao.1, va_AO.moved hW.alike hao.2⟩⟩ rfl hn hsz hst (lv_room hW) hdg hfit) h isC isR hC hR' hn' hdis kk
end
def D0 : Dk := (0, σ00, fun _ _ _ => 0)
def B0 : Nat → Int32 := fun _ => 0
section
variable {p : Program} {e : Env} {s : State} {m : MethodId} {below : List Frame} {meth : Method} {c : Code}
set_option maxHeartbeats 1000000 in
set_option maxRecDepth 100000 in
theorem law_start (hT : gm_toSign D0 7 = some 0) (hS : gm_state D0 0 = some (-1000001)) (hmain : ∀ (xs : Nat → Int32) (L : Nat), f_L_law_70 xs L 71 D0 D0 B0 B0 1 0 = some 1) (l : Launch) (hflags : l.flags = flags0) {b L : Nat} {xs : Nat → Int32} (hL : L ≤ 260) (C0 : lw_At p s m meth c b L xs) : W p l e room_1 s m #[Value.ref b] below meth c s.heap [] 0 0 (lw_Z below #[Value.ref b] s) (entryFrame m ([Value.ref b] : List Value).toArray 12) := by
  obtain ⟨hx, hb, hr, hml, hown, hts, hscr, hbl, hlk, hgv⟩ := C0
  have hf : ∀ w ∈ flatN, w.before #[.ref b] s = true := flat_of_before _ hgv
  obtain ⟨D, cA, hK⟩ := ent_K hts
  have hl0 : l.stackTraces = false := by unfold Launch.stackTraces; rw [hflags]; decide
  have C : Cx p s m #[.ref b] meth c cL_law 12 RL D cA := ⟨hx, hb, hml, hown, fun w hw => hts w (List.mem_filter.mp hw).1, hK, hlk⟩
  have X : LCx p l s m #[.ref b] meth c cL_law 12 D cA (fun q => s.heap.size ≤ q) := ⟨C, hl0, ⟨ent_S hts hf, ent_T9 hts, ent_Z hts hf⟩, ent_N hf⟩
  have hao := ent_AO hts
  have hbA : ¬ (fun q => s.heap.size ≤ q) b := Nat.not_le.mpr hbl
  have h : St D (fun q => s.heap.size ≤ q) s.heap [] s.heap [] := ⟨fun k q h => by simp at h, ⟨fun i j p q h => by simp at h, fun k q h => by simp at h⟩, va_S.rf, fun q h => h⟩
  have hl := lv_entry ([.ref b]) (n := 12) (Nat.le_of_ble_eq_true rfl)
  rw [lg_entry_eq]
  generalize (lg_sl ([.ref b]) ++ List.replicate (12 - (lg_sl ([.ref b])).length) Slot.unset).toArray = ls at hl ⊢
  replace hl : lv_has ls 12 [(0, .ref b)] := hl
  have hb : c.code = cL_law := hb
  refine g_new (pc := 0) (ci := 4) (N := 5) (fs := [.null, .null, .null, .int 0, .int 0]) C h inW4 tyX4 tyX4_ok lw_L_11 iw_X4 rfl (fun j hj => by rcases (show j = 0 ∨ j = 1 ∨ j = 2 ∨ j = 3 ∨ j = 4 by omega) with rfl | rfl | rfl | rfl | rfl <;> rfl) (Nat.le_of_ble_eq_true rfl) (Nat.le_of_ble_eq_true rfl) dL_law_0 (fun a4 H h => ?_)
  refine lv_dup (pc := 3) hx hb dL_law_3 rfl ?_
  refine call_A (pc := 4) (As := []) (rest := [.ref a4]) (wr := []) C hao h (k_X4_init (a := a4) (qE := fun _ _ => 0)) cn_L_221 rfl ⟨by decide +kernel, by decide +kernel, by decide +kernel⟩ [0] [] rfl rfl rfl rfl (fun i hi => by simp at hi) rfl rfl hl.1 (Nat.le_of_ble_eq_true rfl) dL_law_4 ⟨(Nat.le_of_ble_eq_true rfl), (Nat.le_of_ble_eq_true rfl)⟩ rfl rfl ⟨(Nat.le_of_ble_eq_true rfl), (Nat.le_of_ble_eq_true rfl)⟩ (fun q0 H locs hq0 hN => ?_)
  subst hq0
  have h : St D (fun q => s.heap.size ≤ q) s.heap (fW 0 q0 (fun _ _ => 0) cA σ00) H locs := hN
  clear hN
  refine lv_astore_n (pc := 7) (lv' := [(1, .ref (q0 0)), (0, .ref b)]) hx hb dL_law_7 rfl hl (by decide) rfl (fun ls hl => ?_)
  refine g_new (pc := 8) (ci := 4) (N := 5) (fs := [.null, .null, .null, .int 0, .int 0]) C h inW4 tyX4 tyX4_ok lw_L_11 iw_X4 rfl (fun j hj => by rcases (show j = 0 ∨ j = 1 ∨ j = 2 ∨ j = 3 ∨ j = 4 by omega) with rfl | rfl | rfl | rfl | rfl <;> rfl) (Nat.le_of_ble_eq_true rfl) (Nat.le_of_ble_eq_true rfl) dL_law_8 (fun a5 H h => ?_)
  refine lv_dup (pc := 11) hx hb dL_law_11 rfl ?_
  refine call_A (pc := 12) (As := []) (rest := [.ref a5]) (wr := fW 0 q0 (fun _ _ => 0) cA σ00) C hao h (k_X4_init (a := a5) (qE := fun _ _ => 0)) cn_L_221 rfl ⟨by decide +kernel, by decide +kernel, by decide +kernel⟩ [13] (List.range 13) rfl rfl rfl rfl (by decide) rfl rfl hl.1 (Nat.le_of_ble_eq_true rfl) dL_law_12 ⟨(Nat.le_of_ble_eq_true rfl), (Nat.le_of_ble_eq_true rfl)⟩ rfl rfl ⟨(Nat.le_of_ble_eq_true rfl), (Nat.le_of_ble_eq_true rfl)⟩ (fun t0 H locs ht0 hN => ?_)
  subst ht0
  have h : St D (fun q => s.heap.size ≤ q) s.heap (fW 0 q0 (fun _ _ => 0) cA σ00 ++ fW 0 t0 (fun _ _ => 0) cA σ00) H locs := hN
  clear hN
  refine lv_astore_n (pc := 15) (lv' := [(2, .ref (t0 0)), (1, .ref (q0 0)), (0, .ref b)]) hx hb dL_law_15 rfl hl (by decide) rfl (fun ls hl => ?_)
  refine lv_bipush (pc := 16) (v := 48) hx hb dL_law_16 (by decide) ?_
  refine g_newi (pc := 18) (N' := 48) C h (by decide) (by decide) (by decide) (Nat.le_of_ble_eq_true rfl) (Nat.le_of_ble_eq_true rfl) dL_law_18 (fun ab H h => ?_)
  refine lv_astore_n (pc := 20) (lv' := [(3, .ref ab), (2, .ref (t0 0)), (1, .ref (q0 0)), (0, .ref b)]) hx hb dL_law_20 rfl hl (by decide) rfl (fun ls hl => ?_)
  refine lv_bipush (pc := 21) (v := 48) hx hb dL_law_21 (by decide) ?_
  refine g_newi (pc := 23) (N' := 48) C h (by decide) (by decide) (by decide) (Nat.le_of_ble_eq_true rfl) (Nat.le_of_ble_eq_true rfl) dL_law_23 (fun aw H h => ?_)
  refine lv_astore (pc := 25) (lv' := [(4, .ref aw), (3, .ref ab), (2, .ref (t0 0)), (1, .ref (q0 0)), (0, .ref b)]) hx hb dL_law_25 hl (by decide) rfl (fun ls hl => ?_)
  have hperm : (fW 0 q0 (fun _ _ => 0) cA σ00 ++ fW 0 t0 (fun _ _ => 0) cA σ00 ++ ([(ab, .inl (cA 0, 48, .inl (fun _ => 0)))] : va_W) ++ ([(aw, .inl (cA 0, 48, .inl (fun _ => 0)))] : va_W)).Perm (aW q0 (fun _ _ => 0) cA D0 t0 (fun _ _ => 0) D0 ab aw B0 B0) := by
    rw [List.append_assoc]
    exact List.perm_append_comm
  have h := St_perm hperm h
  refine lv_aload_n (pc := 27) hx hb dL_law_27 rfl (lv_at hl 3 rfl) ?_
  refine call_VRp (pc := 28) (rest := []) (As := []) C h (k_X4_today (n := D0.1) (z := 0) (by decide) (q0 := q0) (q := fun _ _ => 0) D0.2.1 D0.2.2 rfl) cw_L_130 (kW_c0 q0 (fun _ _ => 0) cA D0) rfl (aW_o ..) rfl rfl hl.1 (Nat.le_of_ble_eq_true rfl) dL_law_28 ⟨(Nat.le_of_ble_eq_true rfl), (Nat.le_of_ble_eq_true rfl)⟩ rfl rfl ⟨(Nat.le_of_ble_eq_true rfl), (Nat.le_of_ble_eq_true rfl)⟩ (fun H locs h => ?_)
  refine W.eq (g2 := F0 m 31 ls [.int 0]) rfl ?_
  refine lv_if_ne (pc := 31) (tgt := 64) hx hb dL_law_31 (by decide) (fun c9 => absurd rfl c9) (fun _ => ?_)
  refine lv_aload_n (pc := 34) hx hb dL_law_34 rfl (lv_at hl 3 rfl) ?_
  refine call_VRp (pc := 35) (rest := []) (As := []) C h (k_X4_envelopes (n := D0.1) (z := 0) (by decide) (q0 := q0) (q := fun _ _ => 0) D0.2.1 D0.2.2 rfl) cw_L_133 (kW_c0 q0 (fun _ _ => 0) cA D0) rfl (aW_o ..) rfl rfl hl.1 (Nat.le_of_ble_eq_true rfl) dL_law_35 ⟨(Nat.le_of_ble_eq_true rfl), (Nat.le_of_ble_eq_true rfl)⟩ rfl rfl ⟨(Nat.le_of_ble_eq_true rfl), (Nat.le_of_ble_eq_true rfl)⟩ (fun H locs h => ?_)
  refine W.eq (g2 := F0 m 38 ls [.int 0]) rfl ?_
  refine lv_if_ne (pc := 38) (tgt := 64) hx hb dL_law_38 (by decide) (fun c9 => absurd rfl c9) (fun _ => ?_)
  refine lv_aload_n (pc := 41) hx hb dL_law_41 rfl (lv_at hl 3 rfl) ?_
  refine lv_bipush (pc := 42) (v := 7) hx hb dL_law_42 (by decide) ?_
  refine call_H (pc := 44) (As := [.ref (q0 0), .int 7]) (rest := []) (ws' := aW q0 (fun _ _ => 0) cA D0 t0 (fun _ _ => 0) D0 ab aw B0 B0) X h (vm_toSign D0 7 hT) cx_L_158 (aW_o ..) (aW_o q0 (fun _ _ => 0) cA D0 t0 (fun _ _ => 0) D0 ab aw B0 B0).symm rfl rfl rfl hl.1 (Nat.le_of_ble_eq_true rfl) dL_law_44 ⟨(Nat.le_of_ble_eq_true rfl), (Nat.le_of_ble_eq_true rfl)⟩ rfl rfl ⟨(Nat.le_of_ble_eq_true rfl), (Nat.le_of_ble_eq_true rfl)⟩ (fun H locs h => ?_)
  refine lv_if_ne (pc := 47) (tgt := 64) hx hb dL_law_47 (by decide) (fun c9 => absurd rfl c9) (fun _ => ?_)
  refine lv_aload_n (pc := 50) hx hb dL_law_50 rfl (lv_at hl 3 rfl) ?_
  refine lv_iconst (pc := 51) (v := 0) hx hb dL_law_51 (by decide) ?_
  refine call_H (pc := 52) (As := [.ref (q0 0), .int 0]) (rest := []) (ws' := aW q0 (fun _ _ => 0) cA D0 t0 (fun _ _ => 0) D0 ab aw B0 B0) X h (vm_state D0 0 hS) cx_L_136 (aW_o ..) (aW_o q0 (fun _ _ => 0) cA D0 t0 (fun _ _ => 0) D0 ab aw B0 B0).symm rfl rfl rfl hl.1 (Nat.le_of_ble_eq_true rfl) dL_law_52 ⟨(Nat.le_of_ble_eq_true rfl), (Nat.le_of_ble_eq_true rfl)⟩ rfl rfl ⟨(Nat.le_of_ble_eq_true rfl), (Nat.le_of_ble_eq_true rfl)⟩ (fun H locs h => ?_)
  refine lv_ldc (pc := 55) (v := -1000001) hx hb hown (C.2.2.2.2.1 _ kc_L_25) dL_law_55 ?_
  refine lv_icmp_ne (pc := 57) (tgt := 64) hx hb dL_law_57 (by decide) (fun c9 => absurd rfl c9) (fun _ => ?_)
  refine lv_iconst (pc := 60) (v := 1) hx hb dL_law_60 (by decide) ?_
  refine lv_goto (pc := 61) (tgt := 65) hx hb dL_law_61 (by decide) ?_
  refine lv_istore (pc := 65) (lv' := [(5, .int 1), (4, .ref aw), (3, .ref ab), (2, .ref (t0 0)), (1, .ref (q0 0)), (0, .ref b)]) hx hb dL_law_65 hl (by decide) rfl (fun ls hl => ?_)
  refine lv_iconst (pc := 67) (v := 0) hx hb dL_law_67 (by decide) ?_
  refine lv_istore (pc := 68) (lv' := [(6, .int 0), (5, .int 1), (4, .ref aw), (3, .ref ab), (2, .ref (t0 0)), (1, .ref (q0 0)), (0, .ref b)]) hx hb dL_law_68 hl (by decide) rfl (fun ls hl => ?_)
  exact jl_law_70 (sb := b) (xs := xs) (L := L) X (fun d u b' w' q tq H locs ls cells slots hc hs h => va_forget (fun q hq => h.2.2.1.2.2 q hq) (W.widen hc hs (W.base (lw_ret (Drawn.sameBut.refl s.drawn lw_cs) hx hb hr hlk dL_law_317)))) hscr hbl hbA hL 71 _ _ D0 D0 B0 B0 1 0 (hmain xs L) _ _ H _ ls (Nat.le_of_ble_eq_true rfl) (Nat.le_of_ble_eq_true rfl) h (lv_sub hl [6, 5, 4, 3, 2, 1, 0] rfl)
end
