section
variable {p : Program} {l : Launch} {e : Env} {s : State} {m : MethodId} {args : Array Value} {below : List Frame} {meth : Method} {c : Code} {H : Heap} {locs : List Loc} {cells slots : Nat} {Q : State → Prop} {D : va_G} {cA : Nat → ClassId} {b L : Nat} {xs : Nat → Int32} {ls : Array Slot}
set_option maxHeartbeats 1000000 in
set_option maxRecDepth 100000 in
theorem law_draft {Inv : IT} (hn6 : ∀ t n σ0 σ τ, Inv t n σ0 σ τ → n ≤ 6) (S : SA_draft Inv) {t n : Nat} {q0 : Nat → Nat} {q : Nat → Nat → Nat} {qm : Nat → Nat} {σ0 τ : Nat → Nat → Int32} {σ : Nat → Nat → Nat → Int32} {o o2 : Nat} {f : Nat → Int64} {f2 : Nat → UInt64} {i : Int32} (ht : t < 512) (hI : Inv t n σ0 σ τ)
    (X : LX p l s m args meth c D cA b L xs) (h : St D (nA s) s.heap (wL n q0 q qm cA σ0 σ τ o o2 f f2) H locs) (hi : HI i L) (hl : lv_has ls 8 (L0 b (q0 0) (qm 0) o o2 i)) (hc : cells + 20 ≤ 601024) (hs : slots + 263 ≤ 7293034)
    (kk : LK p l e s m args below meth c D cA b q0 qm o o2 Inv t i cells slots Q) : W p l e room_1 s m args below meth c H locs cells slots Q (F0 m 200 ls []) := by
  obtain ⟨C, hl0, hX, hN, hscr, hbl⟩ := X
  obtain ⟨hi0, hi1, hi2, hi3, hi4, hi5⟩ := hi
  obtain ⟨hx, hb, hml, hown, hts, hK, hlk⟩ := id C
  have hbA : ¬ nA s b := Nat.not_le.mpr hbl
  have hn := hn6 _ _ _ _ _ hI
  obtain ⟨w, τ', h5, ⟨hn9, hw9, hI2, hthr⟩ | ⟨hn9, hI2, hthr⟩⟩ := S _ _ _ _ _ ht hI
  · refine lv_aload_n (pc := 200) hx hb dL_law_200 rfl (lv_at hl 1 rfl) ?_
    refine lv_aload_n (pc := 201) hx hb dL_law_201 rfl (lv_at hl 3 rfl) ?_
    refine run_E (pc := 202) (v := some (.int 0)) (rest := []) (mc := 20) (ms := 263) (wc := xL n q0 q cA σ0 σ o f) (wr := rL qm cA τ o2 f2) (W' := fun qe => xL (n + 1) q0 (va_up q n qe) cA σ0 (va_up σ n (fun _ _ => 0)) o (vp_updL f 0 (nI n).toInt64)) (fun st oc t h => h) (runX (vx_runSX (As := [.ref (q0 0), .ref o]) (rest := []) ⟨hx, hb, hml, hown, hts⟩ (w_draft hn9 σ0 σ o f l H.size hl0) (CWx.use cx_L_125 hts rfl rfl ⟨(Nat.le_of_ble_eq_true rfl), (Nat.le_of_ble_eq_true rfl)⟩) ⟨PreW.blind, preW_ok C hX hN (SR_of (St_perm (wL_L ..) h)) (sub_P (St_perm (wL_L ..) h).1 (app_map _ _)) (sub_D (SR_of (St_perm (wL_L ..) h)).2.1 (app_map _ _) (nd_of _ List.nodup_range))⟩ rfl rfl hl.1 rfl (lv_room (Nat.le_of_ble_eq_true rfl)) dL_law_202 ⟨by show cells + 20 ≤ 601024; omega, by show slots + 263 ≤ 7293034; omega⟩)) (St_perm (wL_L ..) h) (fun qe H locs h => ?_)
    have h := St_perm (wL_L (n + 1) q0 (va_up q n qe) qm cA σ0 (va_up σ n (fun _ _ => 0)) τ o o2 (vp_updL f 0 (nI n).toInt64) f2).symm h
    refine W.eq (g2 := F0 m 205 ls [.int 0]) rfl ?_
    refine lv_istore (pc := 205) (lv' := [(6, .int 0), (0, .ref b), (1, .ref (q0 0)), (2, .ref (qm 0)), (3, .ref o), (4, .ref o2), (5, .int i)]) hx hb dL_law_205 hl (by decide) rfl (fun ls hl => ?_)
    refine lv_aload_n (pc := 207) hx hb dL_law_207 rfl (lv_at hl 3 rfl) ?_
    refine call_VUp (pc := 208) (rest := []) (As := []) (wc' := mW qm cA τ') (ws' := wL (n + 1) q0 (va_up q n qe) qm cA σ0 (va_up σ n (fun _ _ => 0)) τ' o o2 (vp_updL f 0 (nI n).toInt64) f2) C h (k_X5_draft (q := qm) τ h5) cm_L_130 (mW_c0 ..) rfl (wL_M ..) (wL_M (n + 1) q0 (va_up q n qe) qm cA σ0 (va_up σ n (fun _ _ => 0)) τ' o o2 (vp_updL f 0 (nI n).toInt64) f2).symm (mW_fst ..) rfl rfl hl.1 (Nat.le_of_ble_eq_true rfl) dL_law_208 ⟨(Nat.le_of_ble_eq_true rfl), (Nat.le_of_ble_eq_true rfl)⟩ rfl rfl ⟨by show _ ≤ 601024; omega, by show _ ≤ 7293034; omega⟩ (fun H locs h => ?_)
    refine W.eq (g2 := F0 m 211 ls [.int w]) rfl ?_
    refine lv_istore (pc := 211) (lv' := [(7, .int w), (6, .int 0), (0, .ref b), (1, .ref (q0 0)), (2, .ref (qm 0)), (3, .ref o), (4, .ref o2), (5, .int i)]) hx hb dL_law_211 hl (by decide) rfl (fun ls hl => ?_)
    refine lv_aload_n (pc := 213) hx hb dL_law_213 rfl (lv_at hl 4 rfl) ?_
    refine call_VRp (pc := 214) (rest := []) (As := []) C h (k_X5_thrown (q := qm) τ' rfl) cm_L_131 (mW_c0 ..) rfl (wL_M ..) rfl rfl hl.1 (Nat.le_of_ble_eq_true rfl) dL_law_214 ⟨(Nat.le_of_ble_eq_true rfl), (Nat.le_of_ble_eq_true rfl)⟩ rfl rfl ⟨by show _ ≤ 601024; omega, by show _ ≤ 7293034; omega⟩ (fun H locs h => ?_)
    refine W.eq (g2 := F0 m 217 ls [.int (τ' 24 0)]) rfl ?_
    refine lv_iload (pc := 217) hx hb dL_law_217 (lv_at hl 1 rfl) ?_
    refine lv_icmp_eq (pc := 219) (tgt := 224) hx hb dL_law_219 (by decide) (fun _ => ?_) (fun c9 => absurd hthr c9)
    refine lv_iload (pc := 224) hx hb dL_law_224 (lv_at hl 1 rfl) ?_
    refine lv_if_ne (pc := 226) (tgt := 241) hx hb dL_law_226 (by decide) (fun c9 => absurd rfl c9) (fun _ => ?_)
    refine lv_aload_n (pc := 229) hx hb dL_law_229 rfl (lv_at hl 5 rfl) ?_
    refine lv_iconst (pc := 230) (v := 0) hx hb dL_law_230 (by decide) ?_
    refine va_lald (pc := 231) hx hb hK.1 h.1 0 3 (wL_o ..) rfl (show inb (0 : Int32) 1 from by decide) dL_law_231 ?_
    refine W.eq (g2 := F0 m 232 ls [.long (nI n).toInt64]) rfl ?_
    refine lv_iload (pc := 232) hx hb dL_law_232 (lv_at hl 0 rfl) ?_
    refine lv_i2l (pc := 234) (v := (nI n).toInt64) hx hb dL_law_234 (congrArg Int32.toInt64 hw9) ?_
    refine W.lcmp (pc := 235) hx hb dL_law_235 ?_
    rw [cmp_self]
    refine lv_if_eq (pc := 236) (tgt := 241) hx hb dL_law_236 (by decide) (fun _ => ?_) (fun c9 => absurd rfl c9)
    refine lv_goto (pc := 241) (tgt := 2364) hx hb dL_law_241 (by decide) ?_
    exact W.widen (by omega) (by omega) (kk _ _ _ _ _ _ _ _ _ hI2 h ls (lv_sub hl [2, 3, 4, 5, 6, 7] rfl))
  · refine lv_aload_n (pc := 200) hx hb dL_law_200 rfl (lv_at hl 1 rfl) ?_
    refine lv_aload_n (pc := 201) hx hb dL_law_201 rfl (lv_at hl 3 rfl) ?_
    refine run_U (pc := 202) (ws' := xL n q0 q cA σ0 σ o f ++ rL qm cA τ o2 f2) (v := some (.int 1)) (rest := []) (mc := 20) (ms := 263) (runX (vx_runSX (As := [.ref (q0 0), .ref o]) (rest := []) ⟨hx, hb, hml, hown, hts⟩ (wT_draft_0 hn9 σ0 σ o f l H.size hl0) (CWx.use cx_L_125 hts rfl rfl ⟨(Nat.le_of_ble_eq_true rfl), (Nat.le_of_ble_eq_true rfl)⟩) ⟨PreW.blind, preW_ok C hX hN (SR_of (St_perm (wL_L ..) h)) (sub_P (St_perm (wL_L ..) h).1 (app_map _ _)) (sub_D (SR_of (St_perm (wL_L ..) h)).2.1 (app_map _ _) (nd_of _ List.nodup_range))⟩ rfl rfl hl.1 rfl (lv_room (Nat.le_of_ble_eq_true rfl)) dL_law_202 ⟨by show cells + 20 ≤ 601024; omega, by show slots + 263 ≤ 7293034; omega⟩)) (St_perm (wL_L n q0 q qm cA σ0 σ τ o o2 f f2) h) (List.range (xL n q0 q cA σ0 σ o f).length) (app_map _ _) rfl (app_put _ rfl) (fun H locs h => ?_)
    have h := St_perm (wL_L n q0 q qm cA σ0 σ τ o o2 f f2).symm h
    refine W.eq (g2 := F0 m 205 ls [.int 1]) rfl ?_
    refine lv_istore (pc := 205) (lv' := [(6, .int 1), (0, .ref b), (1, .ref (q0 0)), (2, .ref (qm 0)), (3, .ref o), (4, .ref o2), (5, .int i)]) hx hb dL_law_205 hl (by decide) rfl (fun ls hl => ?_)
    refine lv_aload_n (pc := 207) hx hb dL_law_207 rfl (lv_at hl 3 rfl) ?_
    refine call_VUp (pc := 208) (rest := []) (As := []) (wc' := mW qm cA τ') (ws' := wL n q0 q qm cA σ0 σ τ' o o2 f f2) C h (k_X5_draft (q := qm) τ h5) cm_L_130 (mW_c0 ..) rfl (wL_M ..) (wL_M n q0 q qm cA σ0 σ τ' o o2 f f2).symm (mW_fst ..) rfl rfl hl.1 (Nat.le_of_ble_eq_true rfl) dL_law_208 ⟨(Nat.le_of_ble_eq_true rfl), (Nat.le_of_ble_eq_true rfl)⟩ rfl rfl ⟨by show _ ≤ 601024; omega, by show _ ≤ 7293034; omega⟩ (fun H locs h => ?_)
    refine W.eq (g2 := F0 m 211 ls [.int w]) rfl ?_
    refine lv_istore (pc := 211) (lv' := [(7, .int w), (6, .int 1), (0, .ref b), (1, .ref (q0 0)), (2, .ref (qm 0)), (3, .ref o), (4, .ref o2), (5, .int i)]) hx hb dL_law_211 hl (by decide) rfl (fun ls hl => ?_)
    refine lv_aload_n (pc := 213) hx hb dL_law_213 rfl (lv_at hl 4 rfl) ?_
    refine call_VRp (pc := 214) (rest := []) (As := []) C h (k_X5_thrown (q := qm) τ' rfl) cm_L_131 (mW_c0 ..) rfl (wL_M ..) rfl rfl hl.1 (Nat.le_of_ble_eq_true rfl) dL_law_214 ⟨(Nat.le_of_ble_eq_true rfl), (Nat.le_of_ble_eq_true rfl)⟩ rfl rfl ⟨by show _ ≤ 601024; omega, by show _ ≤ 7293034; omega⟩ (fun H locs h => ?_)
    refine W.eq (g2 := F0 m 217 ls [.int (τ' 24 0)]) rfl ?_
    refine lv_iload (pc := 217) hx hb dL_law_217 (lv_at hl 1 rfl) ?_
    refine lv_icmp_eq (pc := 219) (tgt := 224) hx hb dL_law_219 (by decide) (fun _ => ?_) (fun c9 => absurd hthr c9)
    refine lv_iload (pc := 224) hx hb dL_law_224 (lv_at hl 1 rfl) ?_
    refine lv_if_ne (pc := 226) (tgt := 241) hx hb dL_law_226 (by decide) (fun _ => ?_) (fun c9 => absurd c9 (by decide))
    refine lv_goto (pc := 241) (tgt := 2364) hx hb dL_law_241 (by decide) ?_
    exact W.widen (by omega) (by omega) (kk _ _ _ _ _ _ _ _ _ hI2 h ls (lv_sub hl [2, 3, 4, 5, 6, 7] rfl))
set_option maxHeartbeats 1000000 in
set_option maxRecDepth 100000 in
theorem law_addSlot {Inv : IT} (hn6 : ∀ t n σ0 σ τ, Inv t n σ0 σ τ → n ≤ 6) (S : SA_addSlot Inv) {t n : Nat} {q0 : Nat → Nat} {q : Nat → Nat → Nat} {qm : Nat → Nat} {σ0 τ : Nat → Nat → Int32} {σ : Nat → Nat → Nat → Int32} {o o2 : Nat} {f : Nat → Int64} {f2 : Nat → UInt64} {i : Int32} (ht : t < 512) (hI : Inv t n σ0 σ τ)
    (X : LX p l s m args meth c D cA b L xs) (h : St D (nA s) s.heap (wL n q0 q qm cA σ0 σ τ o o2 f f2) H locs) (hi : HI i L) (hl : lv_has ls 8 (L0 b (q0 0) (qm 0) o o2 i)) (hc : cells + 20 ≤ 601024) (hs : slots + 263 ≤ 7293034)
    (kk : LK p l e s m args below meth c D cA b q0 qm o o2 Inv t i cells slots Q) : W p l e room_1 s m args below meth c H locs cells slots Q (F0 m 244 ls []) := by
  obtain ⟨C, hl0, hX, hN, hscr, hbl⟩ := X
  obtain ⟨hi0, hi1, hi2, hi3, hi4, hi5⟩ := hi
  obtain ⟨hx, hb, hml, hown, hts, hK, hlk⟩ := id C
  have hbA : ¬ nA s b := Nat.not_le.mpr hbl
  have hn := hn6 _ _ _ _ _ hI
  obtain ⟨w, τ', h5, ⟨σ0', σ', hf, hI2, hthr⟩ | ⟨hf, hI2, hthr⟩ | ⟨hf, hI2, hthr⟩ | ⟨hf, hI2, hthr⟩⟩ := S _ _ _ _ _ _ _ _ ht hI
  · refine lv_aload_n (pc := 244) hx hb dL_law_244 rfl (lv_at hl 1 rfl) ?_
    refine lv_aload_n (pc := 245) hx hb dL_law_245 rfl (lv_at hl 0 rfl) ?_
    refine lv_iload (pc := 246) hx hb dL_law_246 (lv_at hl 5 rfl) ?_
    refine lv_iconst (pc := 248) (v := 1) hx hb dL_law_248 (by decide) ?_
    refine lv_iadd (pc := 249) hx hb dL_law_249 ?_
    refine va_sld (pc := 250) hx hb hscr hbl hbA h.2.2.1 hi1 dL_law_250 ?_
    refine lv_aload_n (pc := 251) hx hb dL_law_251 rfl (lv_at hl 0 rfl) ?_
    refine lv_iload (pc := 252) hx hb dL_law_252 (lv_at hl 5 rfl) ?_
    refine lv_iconst (pc := 254) (v := 2) hx hb dL_law_254 (by decide) ?_
    refine lv_iadd (pc := 255) hx hb dL_law_255 ?_
    refine va_sld (pc := 256) hx hb hscr hbl hbA h.2.2.1 hi2 dL_law_256 ?_
    refine lv_aload_n (pc := 257) hx hb dL_law_257 rfl (lv_at hl 0 rfl) ?_
    refine lv_iload (pc := 258) hx hb dL_law_258 (lv_at hl 5 rfl) ?_
    refine lv_iconst (pc := 260) (v := 3) hx hb dL_law_260 (by decide) ?_
    refine lv_iadd (pc := 261) hx hb dL_law_261 ?_
    refine va_sld (pc := 262) hx hb hscr hbl hbA h.2.2.1 hi3 dL_law_262 ?_
    refine lv_aload_n (pc := 263) hx hb dL_law_263 rfl (lv_at hl 3 rfl) ?_
    refine call_W (pc := 264) (rest := []) (As := [.ref (q0 0), .int (xs (i + 1).toNatClampNeg), .int (xs (i + 2).toNatClampNeg), .int (xs (i + 3).toNatClampNeg), .ref o]) (ws' := wL n q0 q qm cA σ0' σ' τ o o2 (vp_updL f 0 w.toInt64) f2) C hl0 hX hN h (w_addSlot hn σ0 σ (xs (i + 1).toNatClampNeg) (xs (i + 2).toNatClampNeg) (xs (i + 3).toNatClampNeg) hf o f) cx_L_134 (wL_L ..) (wL_L n q0 q qm cA σ0' σ' τ o o2 (vp_updL f 0 w.toInt64) f2).symm (xL_fst ..) rfl rfl hl.1 (Nat.le_of_ble_eq_true rfl) dL_law_264 ⟨(Nat.le_of_ble_eq_true rfl), (Nat.le_of_ble_eq_true rfl)⟩ rfl rfl ⟨by show cells + 1 ≤ 601024; omega, by show slots + 6 ≤ 7293034; omega⟩ (fun H locs h => ?_)
    refine W.eq (g2 := F0 m 267 ls [.int 0]) rfl ?_
    refine lv_istore (pc := 267) (lv' := [(6, .int 0), (0, .ref b), (1, .ref (q0 0)), (2, .ref (qm 0)), (3, .ref o), (4, .ref o2), (5, .int i)]) hx hb dL_law_267 hl (by decide) rfl (fun ls hl => ?_)
    refine lv_aload_n (pc := 269) hx hb dL_law_269 rfl (lv_at hl 3 rfl) ?_
    refine lv_aload_n (pc := 270) hx hb dL_law_270 rfl (lv_at hl 1 rfl) ?_
    refine lv_iload (pc := 271) hx hb dL_law_271 (lv_at hl 6 rfl) ?_
    refine lv_iconst (pc := 273) (v := 1) hx hb dL_law_273 (by decide) ?_
    refine lv_iadd (pc := 274) hx hb dL_law_274 ?_
    refine va_sld (pc := 275) hx hb hscr hbl hbA h.2.2.1 hi1 dL_law_275 ?_
    refine lv_aload_n (pc := 276) hx hb dL_law_276 rfl (lv_at hl 1 rfl) ?_
    refine lv_iload (pc := 277) hx hb dL_law_277 (lv_at hl 6 rfl) ?_
    refine lv_iconst (pc := 279) (v := 2) hx hb dL_law_279 (by decide) ?_
    refine lv_iadd (pc := 280) hx hb dL_law_280 ?_
    refine va_sld (pc := 281) hx hb hscr hbl hbA h.2.2.1 hi2 dL_law_281 ?_
    refine lv_aload_n (pc := 282) hx hb dL_law_282 rfl (lv_at hl 1 rfl) ?_
    refine lv_iload (pc := 283) hx hb dL_law_283 (lv_at hl 6 rfl) ?_
    refine lv_iconst (pc := 285) (v := 3) hx hb dL_law_285 (by decide) ?_
    refine lv_iadd (pc := 286) hx hb dL_law_286 ?_
    refine va_sld (pc := 287) hx hb hscr hbl hbA h.2.2.1 hi3 dL_law_287 ?_
    refine call_VUp (pc := 288) (rest := []) (As := [.int (xs (i + 1).toNatClampNeg), .int (xs (i + 2).toNatClampNeg), .int (xs (i + 3).toNatClampNeg)]) (wc' := mW qm cA τ') (ws' := wL n q0 q qm cA σ0' σ' τ' o o2 (vp_updL f 0 w.toInt64) f2) C h (k_X5_addSlot (q := qm) τ (xs (i + 1).toNatClampNeg) (xs (i + 2).toNatClampNeg) (xs (i + 3).toNatClampNeg) h5) cm_L_137 (mW_c0 ..) rfl (wL_M ..) (wL_M n q0 q qm cA σ0' σ' τ' o o2 (vp_updL f 0 w.toInt64) f2).symm (mW_fst ..) rfl rfl hl.1 (Nat.le_of_ble_eq_true rfl) dL_law_288 ⟨(Nat.le_of_ble_eq_true rfl), (Nat.le_of_ble_eq_true rfl)⟩ rfl rfl ⟨by show _ ≤ 601024; omega, by show _ ≤ 7293034; omega⟩ (fun H locs h => ?_)
    refine W.eq (g2 := F0 m 291 ls [.int w]) rfl ?_
    refine lv_istore (pc := 291) (lv' := [(7, .int w), (6, .int 0), (0, .ref b), (1, .ref (q0 0)), (2, .ref (qm 0)), (3, .ref o), (4, .ref o2), (5, .int i)]) hx hb dL_law_291 hl (by decide) rfl (fun ls hl => ?_)
    refine lv_aload_n (pc := 293) hx hb dL_law_293 rfl (lv_at hl 4 rfl) ?_
    refine call_VRp (pc := 294) (rest := []) (As := []) C h (k_X5_thrown (q := qm) τ' rfl) cm_L_131 (mW_c0 ..) rfl (wL_M ..) rfl rfl hl.1 (Nat.le_of_ble_eq_true rfl) dL_law_294 ⟨(Nat.le_of_ble_eq_true rfl), (Nat.le_of_ble_eq_true rfl)⟩ rfl rfl ⟨by show _ ≤ 601024; omega, by show _ ≤ 7293034; omega⟩ (fun H locs h => ?_)
    refine W.eq (g2 := F0 m 297 ls [.int (τ' 24 0)]) rfl ?_
    refine lv_iload (pc := 297) hx hb dL_law_297 (lv_at hl 1 rfl) ?_
    refine lv_icmp_eq (pc := 299) (tgt := 304) hx hb dL_law_299 (by decide) (fun _ => ?_) (fun c9 => absurd hthr c9)
    refine lv_iload (pc := 304) hx hb dL_law_304 (lv_at hl 1 rfl) ?_
    refine lv_if_ne (pc := 306) (tgt := 321) hx hb dL_law_306 (by decide) (fun c9 => absurd rfl c9) (fun _ => ?_)
    refine lv_aload_n (pc := 309) hx hb dL_law_309 rfl (lv_at hl 5 rfl) ?_
    refine lv_iconst (pc := 310) (v := 0) hx hb dL_law_310 (by decide) ?_
    refine va_lald (pc := 311) hx hb hK.1 h.1 0 3 (wL_o ..) rfl (show inb (0 : Int32) 1 from by decide) dL_law_311 ?_
    refine W.eq (g2 := F0 m 312 ls [.long w.toInt64]) rfl ?_
    refine lv_iload (pc := 312) hx hb dL_law_312 (lv_at hl 0 rfl) ?_
    refine lv_i2l (pc := 314) (v := w.toInt64) hx hb dL_law_314 rfl ?_
    refine W.lcmp (pc := 315) hx hb dL_law_315 ?_
    rw [cmp_self]
    refine lv_if_eq (pc := 316) (tgt := 321) hx hb dL_law_316 (by decide) (fun _ => ?_) (fun c9 => absurd rfl c9)
    refine lv_goto (pc := 321) (tgt := 2364) hx hb dL_law_321 (by decide) ?_
    exact W.widen (by omega) (by omega) (kk _ _ _ _ _ _ _ _ _ hI2 h ls (lv_sub hl [2, 3, 4, 5, 6, 7] rfl))
  · refine lv_aload_n (pc := 244) hx hb dL_law_244 rfl (lv_at hl 1 rfl) ?_
    refine lv_aload_n (pc := 245) hx hb dL_law_245 rfl (lv_at hl 0 rfl) ?_
    refine lv_iload (pc := 246) hx hb dL_law_246 (lv_at hl 5 rfl) ?_
    refine lv_iconst (pc := 248) (v := 1) hx hb dL_law_248 (by decide) ?_
    refine lv_iadd (pc := 249) hx hb dL_law_249 ?_
    refine va_sld (pc := 250) hx hb hscr hbl hbA h.2.2.1 hi1 dL_law_250 ?_
    refine lv_aload_n (pc := 251) hx hb dL_law_251 rfl (lv_at hl 0 rfl) ?_
    refine lv_iload (pc := 252) hx hb dL_law_252 (lv_at hl 5 rfl) ?_
    refine lv_iconst (pc := 254) (v := 2) hx hb dL_law_254 (by decide) ?_
    refine lv_iadd (pc := 255) hx hb dL_law_255 ?_
    refine va_sld (pc := 256) hx hb hscr hbl hbA h.2.2.1 hi2 dL_law_256 ?_
    refine lv_aload_n (pc := 257) hx hb dL_law_257 rfl (lv_at hl 0 rfl) ?_
    refine lv_iload (pc := 258) hx hb dL_law_258 (lv_at hl 5 rfl) ?_
    refine lv_iconst (pc := 260) (v := 3) hx hb dL_law_260 (by decide) ?_
    refine lv_iadd (pc := 261) hx hb dL_law_261 ?_
    refine va_sld (pc := 262) hx hb hscr hbl hbA h.2.2.1 hi3 dL_law_262 ?_
    refine lv_aload_n (pc := 263) hx hb dL_law_263 rfl (lv_at hl 3 rfl) ?_
    refine call_W (pc := 264) (rest := []) (As := [.ref (q0 0), .int (xs (i + 1).toNatClampNeg), .int (xs (i + 2).toNatClampNeg), .int (xs (i + 3).toNatClampNeg), .ref o]) (ws' := wL n q0 q qm cA σ0 σ τ o o2 f f2) C hl0 hX hN h (wT_addSlot_0 hn σ0 σ (xs (i + 1).toNatClampNeg) (xs (i + 2).toNatClampNeg) (xs (i + 3).toNatClampNeg) hf o f) cx_L_134 (wL_L ..) (wL_L n q0 q qm cA σ0 σ τ o o2 f f2).symm rfl rfl rfl hl.1 (Nat.le_of_ble_eq_true rfl) dL_law_264 ⟨(Nat.le_of_ble_eq_true rfl), (Nat.le_of_ble_eq_true rfl)⟩ rfl rfl ⟨by show cells + 1 ≤ 601024; omega, by show slots + 6 ≤ 7293034; omega⟩ (fun H locs h => ?_)
    refine W.eq (g2 := F0 m 267 ls [.int 1]) rfl ?_
    refine lv_istore (pc := 267) (lv' := [(6, .int 1), (0, .ref b), (1, .ref (q0 0)), (2, .ref (qm 0)), (3, .ref o), (4, .ref o2), (5, .int i)]) hx hb dL_law_267 hl (by decide) rfl (fun ls hl => ?_)
    refine lv_aload_n (pc := 269) hx hb dL_law_269 rfl (lv_at hl 3 rfl) ?_
    refine lv_aload_n (pc := 270) hx hb dL_law_270 rfl (lv_at hl 1 rfl) ?_
    refine lv_iload (pc := 271) hx hb dL_law_271 (lv_at hl 6 rfl) ?_
    refine lv_iconst (pc := 273) (v := 1) hx hb dL_law_273 (by decide) ?_
    refine lv_iadd (pc := 274) hx hb dL_law_274 ?_
    refine va_sld (pc := 275) hx hb hscr hbl hbA h.2.2.1 hi1 dL_law_275 ?_
    refine lv_aload_n (pc := 276) hx hb dL_law_276 rfl (lv_at hl 1 rfl) ?_
    refine lv_iload (pc := 277) hx hb dL_law_277 (lv_at hl 6 rfl) ?_
    refine lv_iconst (pc := 279) (v := 2) hx hb dL_law_279 (by decide) ?_
    refine lv_iadd (pc := 280) hx hb dL_law_280 ?_
    refine va_sld (pc := 281) hx hb hscr hbl hbA h.2.2.1 hi2 dL_law_281 ?_
    refine lv_aload_n (pc := 282) hx hb dL_law_282 rfl (lv_at hl 1 rfl) ?_
    refine lv_iload (pc := 283) hx hb dL_law_283 (lv_at hl 6 rfl) ?_
    refine lv_iconst (pc := 285) (v := 3) hx hb dL_law_285 (by decide) ?_
    refine lv_iadd (pc := 286) hx hb dL_law_286 ?_
    refine va_sld (pc := 287) hx hb hscr hbl hbA h.2.2.1 hi3 dL_law_287 ?_
    refine call_VUp (pc := 288) (rest := []) (As := [.int (xs (i + 1).toNatClampNeg), .int (xs (i + 2).toNatClampNeg), .int (xs (i + 3).toNatClampNeg)]) (wc' := mW qm cA τ') (ws' := wL n q0 q qm cA σ0 σ τ' o o2 f f2) C h (k_X5_addSlot (q := qm) τ (xs (i + 1).toNatClampNeg) (xs (i + 2).toNatClampNeg) (xs (i + 3).toNatClampNeg) h5) cm_L_137 (mW_c0 ..) rfl (wL_M ..) (wL_M n q0 q qm cA σ0 σ τ' o o2 f f2).symm (mW_fst ..) rfl rfl hl.1 (Nat.le_of_ble_eq_true rfl) dL_law_288 ⟨(Nat.le_of_ble_eq_true rfl), (Nat.le_of_ble_eq_true rfl)⟩ rfl rfl ⟨by show _ ≤ 601024; omega, by show _ ≤ 7293034; omega⟩ (fun H locs h => ?_)
    refine W.eq (g2 := F0 m 291 ls [.int w]) rfl ?_
    refine lv_istore (pc := 291) (lv' := [(7, .int w), (6, .int 1), (0, .ref b), (1, .ref (q0 0)), (2, .ref (qm 0)), (3, .ref o), (4, .ref o2), (5, .int i)]) hx hb dL_law_291 hl (by decide) rfl (fun ls hl => ?_)
    refine lv_aload_n (pc := 293) hx hb dL_law_293 rfl (lv_at hl 4 rfl) ?_
    refine call_VRp (pc := 294) (rest := []) (As := []) C h (k_X5_thrown (q := qm) τ' rfl) cm_L_131 (mW_c0 ..) rfl (wL_M ..) rfl rfl hl.1 (Nat.le_of_ble_eq_true rfl) dL_law_294 ⟨(Nat.le_of_ble_eq_true rfl), (Nat.le_of_ble_eq_true rfl)⟩ rfl rfl ⟨by show _ ≤ 601024; omega, by show _ ≤ 7293034; omega⟩ (fun H locs h => ?_)
    refine W.eq (g2 := F0 m 297 ls [.int (τ' 24 0)]) rfl ?_
    refine lv_iload (pc := 297) hx hb dL_law_297 (lv_at hl 1 rfl) ?_
    refine lv_icmp_eq (pc := 299) (tgt := 304) hx hb dL_law_299 (by decide) (fun _ => ?_) (fun c9 => absurd hthr c9)
    refine lv_iload (pc := 304) hx hb dL_law_304 (lv_at hl 1 rfl) ?_
    refine lv_if_ne (pc := 306) (tgt := 321) hx hb dL_law_306 (by decide) (fun _ => ?_) (fun c9 => absurd c9 (by decide))
    refine lv_goto (pc := 321) (tgt := 2364) hx hb dL_law_321 (by decide) ?_
    exact W.widen (by omega) (by omega) (kk _ _ _ _ _ _ _ _ _ hI2 h ls (lv_sub hl [2, 3, 4, 5, 6, 7] rfl))
  · refine lv_aload_n (pc := 244) hx hb dL_law_244 rfl (lv_at hl 1 rfl) ?_
    refine lv_aload_n (pc := 245) hx hb dL_law_245 rfl (lv_at hl 0 rfl) ?_
    refine lv_iload (pc := 246) hx hb dL_law_246 (lv_at hl 5 rfl) ?_
    refine lv_iconst (pc := 248) (v := 1) hx hb dL_law_248 (by decide) ?_
    refine lv_iadd (pc := 249) hx hb dL_law_249 ?_
    refine va_sld (pc := 250) hx hb hscr hbl hbA h.2.2.1 hi1 dL_law_250 ?_
    refine lv_aload_n (pc := 251) hx hb dL_law_251 rfl (lv_at hl 0 rfl) ?_
    refine lv_iload (pc := 252) hx hb dL_law_252 (lv_at hl 5 rfl) ?_
    refine lv_iconst (pc := 254) (v := 2) hx hb dL_law_254 (by decide) ?_
    refine lv_iadd (pc := 255) hx hb dL_law_255 ?_
    refine va_sld (pc := 256) hx hb hscr hbl hbA h.2.2.1 hi2 dL_law_256 ?_
    refine lv_aload_n (pc := 257) hx hb dL_law_257 rfl (lv_at hl 0 rfl) ?_
    refine lv_iload (pc := 258) hx hb dL_law_258 (lv_at hl 5 rfl) ?_
    refine lv_iconst (pc := 260) (v := 3) hx hb dL_law_260 (by decide) ?_
    refine lv_iadd (pc := 261) hx hb dL_law_261 ?_
    refine va_sld (pc := 262) hx hb hscr hbl hbA h.2.2.1 hi3 dL_law_262 ?_
    refine lv_aload_n (pc := 263) hx hb dL_law_263 rfl (lv_at hl 3 rfl) ?_
    refine call_W (pc := 264) (rest := []) (As := [.ref (q0 0), .int (xs (i + 1).toNatClampNeg), .int (xs (i + 2).toNatClampNeg), .int (xs (i + 3).toNatClampNeg), .ref o]) (ws' := wL n q0 q qm cA σ0 σ τ o o2 f f2) C hl0 hX hN h (wT_addSlot_1 hn σ0 σ (xs (i + 1).toNatClampNeg) (xs (i + 2).toNatClampNeg) (xs (i + 3).toNatClampNeg) hf o f) cx_L_134 (wL_L ..) (wL_L n q0 q qm cA σ0 σ τ o o2 f f2).symm rfl rfl rfl hl.1 (Nat.le_of_ble_eq_true rfl) dL_law_264 ⟨(Nat.le_of_ble_eq_true rfl), (Nat.le_of_ble_eq_true rfl)⟩ rfl rfl ⟨by show cells + 1 ≤ 601024; omega, by show slots + 6 ≤ 7293034; omega⟩ (fun H locs h => ?_)
    refine W.eq (g2 := F0 m 267 ls [.int 2]) rfl ?_
    refine lv_istore (pc := 267) (lv' := [(6, .int 2), (0, .ref b), (1, .ref (q0 0)), (2, .ref (qm 0)), (3, .ref o), (4, .ref o2), (5, .int i)]) hx hb dL_law_267 hl (by decide) rfl (fun ls hl => ?_)
    refine lv_aload_n (pc := 269) hx hb dL_law_269 rfl (lv_at hl 3 rfl) ?_
    refine lv_aload_n (pc := 270) hx hb dL_law_270 rfl (lv_at hl 1 rfl) ?_
    refine lv_iload (pc := 271) hx hb dL_law_271 (lv_at hl 6 rfl) ?_
    refine lv_iconst (pc := 273) (v := 1) hx hb dL_law_273 (by decide) ?_
    refine lv_iadd (pc := 274) hx hb dL_law_274 ?_
    refine va_sld (pc := 275) hx hb hscr hbl hbA h.2.2.1 hi1 dL_law_275 ?_
    refine lv_aload_n (pc := 276) hx hb dL_law_276 rfl (lv_at hl 1 rfl) ?_
    refine lv_iload (pc := 277) hx hb dL_law_277 (lv_at hl 6 rfl) ?_
    refine lv_iconst (pc := 279) (v := 2) hx hb dL_law_279 (by decide) ?_
    refine lv_iadd (pc := 280) hx hb dL_law_280 ?_
    refine va_sld (pc := 281) hx hb hscr hbl hbA h.2.2.1 hi2 dL_law_281 ?_
    refine lv_aload_n (pc := 282) hx hb dL_law_282 rfl (lv_at hl 1 rfl) ?_
    refine lv_iload (pc := 283) hx hb dL_law_283 (lv_at hl 6 rfl) ?_
    refine lv_iconst (pc := 285) (v := 3) hx hb dL_law_285 (by decide) ?_
    refine lv_iadd (pc := 286) hx hb dL_law_286 ?_
    refine va_sld (pc := 287) hx hb hscr hbl hbA h.2.2.1 hi3 dL_law_287 ?_
    refine call_VUp (pc := 288) (rest := []) (As := [.int (xs (i + 1).toNatClampNeg), .int (xs (i + 2).toNatClampNeg), .int (xs (i + 3).toNatClampNeg)]) (wc' := mW qm cA τ') (ws' := wL n q0 q qm cA σ0 σ τ' o o2 f f2) C h (k_X5_addSlot (q := qm) τ (xs (i + 1).toNatClampNeg) (xs (i + 2).toNatClampNeg) (xs (i + 3).toNatClampNeg) h5) cm_L_137 (mW_c0 ..) rfl (wL_M ..) (wL_M n q0 q qm cA σ0 σ τ' o o2 f f2).symm (mW_fst ..) rfl rfl hl.1 (Nat.le_of_ble_eq_true rfl) dL_law_288 ⟨(Nat.le_of_ble_eq_true rfl), (Nat.le_of_ble_eq_true rfl)⟩ rfl rfl ⟨by show _ ≤ 601024; omega, by show _ ≤ 7293034; omega⟩ (fun H locs h => ?_)
    refine W.eq (g2 := F0 m 291 ls [.int w]) rfl ?_
    refine lv_istore (pc := 291) (lv' := [(7, .int w), (6, .int 2), (0, .ref b), (1, .ref (q0 0)), (2, .ref (qm 0)), (3, .ref o), (4, .ref o2), (5, .int i)]) hx hb dL_law_291 hl (by decide) rfl (fun ls hl => ?_)
    refine lv_aload_n (pc := 293) hx hb dL_law_293 rfl (lv_at hl 4 rfl) ?_
    refine call_VRp (pc := 294) (rest := []) (As := []) C h (k_X5_thrown (q := qm) τ' rfl) cm_L_131 (mW_c0 ..) rfl (wL_M ..) rfl rfl hl.1 (Nat.le_of_ble_eq_true rfl) dL_law_294 ⟨(Nat.le_of_ble_eq_true rfl), (Nat.le_of_ble_eq_true rfl)⟩ rfl rfl ⟨by show _ ≤ 601024; omega, by show _ ≤ 7293034; omega⟩ (fun H locs h => ?_)
    refine W.eq (g2 := F0 m 297 ls [.int (τ' 24 0)]) rfl ?_
    refine lv_iload (pc := 297) hx hb dL_law_297 (lv_at hl 1 rfl) ?_
    refine lv_icmp_eq (pc := 299) (tgt := 304) hx hb dL_law_299 (by decide) (fun _ => ?_) (fun c9 => absurd hthr c9)
    refine lv_iload (pc := 304) hx hb dL_law_304 (lv_at hl 1 rfl) ?_
    refine lv_if_ne (pc := 306) (tgt := 321) hx hb dL_law_306 (by decide) (fun _ => ?_) (fun c9 => absurd c9 (by decide))
    refine lv_goto (pc := 321) (tgt := 2364) hx hb dL_law_321 (by decide) ?_
    exact W.widen (by omega) (by omega) (kk _ _ _ _ _ _ _ _ _ hI2 h ls (lv_sub hl [2, 3, 4, 5, 6, 7] rfl))
  · refine lv_aload_n (pc := 244) hx hb dL_law_244 rfl (lv_at hl 1 rfl) ?_
    refine lv_aload_n (pc := 245) hx hb dL_law_245 rfl (lv_at hl 0 rfl) ?_
    refine lv_iload (pc := 246) hx hb dL_law_246 (lv_at hl 5 rfl) ?_
    refine lv_iconst (pc := 248) (v := 1) hx hb dL_law_248 (by decide) ?_
    refine lv_iadd (pc := 249) hx hb dL_law_249 ?_
    refine va_sld (pc := 250) hx hb hscr hbl hbA h.2.2.1 hi1 dL_law_250 ?_
    refine lv_aload_n (pc := 251) hx hb dL_law_251 rfl (lv_at hl 0 rfl) ?_
    refine lv_iload (pc := 252) hx hb dL_law_252 (lv_at hl 5 rfl) ?_
    refine lv_iconst (pc := 254) (v := 2) hx hb dL_law_254 (by decide) ?_
    refine lv_iadd (pc := 255) hx hb dL_law_255 ?_
    refine va_sld (pc := 256) hx hb hscr hbl hbA h.2.2.1 hi2 dL_law_256 ?_
    refine lv_aload_n (pc := 257) hx hb dL_law_257 rfl (lv_at hl 0 rfl) ?_
    refine lv_iload (pc := 258) hx hb dL_law_258 (lv_at hl 5 rfl) ?_
    refine lv_iconst (pc := 260) (v := 3) hx hb dL_law_260 (by decide) ?_
    refine lv_iadd (pc := 261) hx hb dL_law_261 ?_
    refine va_sld (pc := 262) hx hb hscr hbl hbA h.2.2.1 hi3 dL_law_262 ?_
    refine lv_aload_n (pc := 263) hx hb dL_law_263 rfl (lv_at hl 3 rfl) ?_
    refine call_W (pc := 264) (rest := []) (As := [.ref (q0 0), .int (xs (i + 1).toNatClampNeg), .int (xs (i + 2).toNatClampNeg), .int (xs (i + 3).toNatClampNeg), .ref o]) (ws' := wL n q0 q qm cA σ0 σ τ o o2 f f2) C hl0 hX hN h (wT_addSlot_2 hn σ0 σ (xs (i + 1).toNatClampNeg) (xs (i + 2).toNatClampNeg) (xs (i + 3).toNatClampNeg) hf o f) cx_L_134 (wL_L ..) (wL_L n q0 q qm cA σ0 σ τ o o2 f f2).symm rfl rfl rfl hl.1 (Nat.le_of_ble_eq_true rfl) dL_law_264 ⟨(Nat.le_of_ble_eq_true rfl), (Nat.le_of_ble_eq_true rfl)⟩ rfl rfl ⟨by show cells + 1 ≤ 601024; omega, by show slots + 6 ≤ 7293034; omega⟩ (fun H locs h => ?_)
    refine W.eq (g2 := F0 m 267 ls [.int 3]) rfl ?_
    refine lv_istore (pc := 267) (lv' := [(6, .int 3), (0, .ref b), (1, .ref (q0 0)), (2, .ref (qm 0)), (3, .ref o), (4, .ref o2), (5, .int i)]) hx hb dL_law_267 hl (by decide) rfl (fun ls hl => ?_)
    refine lv_aload_n (pc := 269) hx hb dL_law_269 rfl (lv_at hl 3 rfl) ?_
    refine lv_aload_n (pc := 270) hx hb dL_law_270 rfl (lv_at hl 1 rfl) ?_
    refine lv_iload (pc := 271) hx hb dL_law_271 (lv_at hl 6 rfl) ?_
    refine lv_iconst (pc := 273) (v := 1) hx hb dL_law_273 (by decide) ?_
    refine lv_iadd (pc := 274) hx hb dL_law_274 ?_
    refine va_sld (pc := 275) hx hb hscr hbl hbA h.2.2.1 hi1 dL_law_275 ?_
    refine lv_aload_n (pc := 276) hx hb dL_law_276 rfl (lv_at hl 1 rfl) ?_
    refine lv_iload (pc := 277) hx hb dL_law_277 (lv_at hl 6 rfl) ?_
    refine lv_iconst (pc := 279) (v := 2) hx hb dL_law_279 (by decide) ?_
    refine lv_iadd (pc := 280) hx hb dL_law_280 ?_
    refine va_sld (pc := 281) hx hb hscr hbl hbA h.2.2.1 hi2 dL_law_281 ?_
    refine lv_aload_n (pc := 282) hx hb dL_law_282 rfl (lv_at hl 1 rfl) ?_
    refine lv_iload (pc := 283) hx hb dL_law_283 (lv_at hl 6 rfl) ?_
    refine lv_iconst (pc := 285) (v := 3) hx hb dL_law_285 (by decide) ?_
    refine lv_iadd (pc := 286) hx hb dL_law_286 ?_
    refine va_sld (pc := 287) hx hb hscr hbl hbA h.2.2.1 hi3 dL_law_287 ?_
    refine call_VUp (pc := 288) (rest := []) (As := [.int (xs (i + 1).toNatClampNeg), .int (xs (i + 2).toNatClampNeg), .int (xs (i + 3).toNatClampNeg)]) (wc' := mW qm cA τ') (ws' := wL n q0 q qm cA σ0 σ τ' o o2 f f2) C h (k_X5_addSlot (q := qm) τ (xs (i + 1).toNatClampNeg) (xs (i + 2).toNatClampNeg) (xs (i + 3).toNatClampNeg) h5) cm_L_137 (mW_c0 ..) rfl (wL_M ..) (wL_M n q0 q qm cA σ0 σ τ' o o2 f f2).symm (mW_fst ..) rfl rfl hl.1 (Nat.le_of_ble_eq_true rfl) dL_law_288 ⟨(Nat.le_of_ble_eq_true rfl), (Nat.le_of_ble_eq_true rfl)⟩ rfl rfl ⟨by show _ ≤ 601024; omega, by show _ ≤ 7293034; omega⟩ (fun H locs h => ?_)
    refine W.eq (g2 := F0 m 291 ls [.int w]) rfl ?_
    refine lv_istore (pc := 291) (lv' := [(7, .int w), (6, .int 3), (0, .ref b), (1, .ref (q0 0)), (2, .ref (qm 0)), (3, .ref o), (4, .ref o2), (5, .int i)]) hx hb dL_law_291 hl (by decide) rfl (fun ls hl => ?_)
    refine lv_aload_n (pc := 293) hx hb dL_law_293 rfl (lv_at hl 4 rfl) ?_
    refine call_VRp (pc := 294) (rest := []) (As := []) C h (k_X5_thrown (q := qm) τ' rfl) cm_L_131 (mW_c0 ..) rfl (wL_M ..) rfl rfl hl.1 (Nat.le_of_ble_eq_true rfl) dL_law_294 ⟨(Nat.le_of_ble_eq_true rfl), (Nat.le_of_ble_eq_true rfl)⟩ rfl rfl ⟨by show _ ≤ 601024; omega, by show _ ≤ 7293034; omega⟩ (fun H locs h => ?_)
    refine W.eq (g2 := F0 m 297 ls [.int (τ' 24 0)]) rfl ?_
    refine lv_iload (pc := 297) hx hb dL_law_297 (lv_at hl 1 rfl) ?_
    refine lv_icmp_eq (pc := 299) (tgt := 304) hx hb dL_law_299 (by decide) (fun _ => ?_) (fun c9 => absurd hthr c9)
    refine lv_iload (pc := 304) hx hb dL_law_304 (lv_at hl 1 rfl) ?_
    refine lv_if_ne (pc := 306) (tgt := 321) hx hb dL_law_306 (by decide) (fun _ => ?_) (fun c9 => absurd c9 (by decide))
    refine lv_goto (pc := 321) (tgt := 2364) hx hb dL_law_321 (by decide) ?_
    exact W.widen (by omega) (by omega) (kk _ _ _ _ _ _ _ _ _ hI2 h ls (lv_sub hl [2, 3, 4, 5, 6, 7] rfl))
set_option maxHeartbeats 1000000 in
set_option maxRecDepth 100000 in
theorem law_addRound {Inv : IT} (hn6 : ∀ t n σ0 σ τ, Inv t n σ0 σ τ → n ≤ 6) (S : SA_addRound Inv) {t n : Nat} {q0 : Nat → Nat} {q : Nat → Nat → Nat} {qm : Nat → Nat} {σ0 τ : Nat → Nat → Int32} {σ : Nat → Nat → Nat → Int32} {o o2 : Nat} {f : Nat → Int64} {f2 : Nat → UInt64} {i : Int32} (ht : t < 512) (hI : Inv t n σ0 σ τ)
    (X : LX p l s m args meth c D cA b L xs) (h : St D (nA s) s.heap (wL n q0 q qm cA σ0 σ τ o o2 f f2) H locs) (hi : HI i L) (hl : lv_has ls 8 (L0 b (q0 0) (qm 0) o o2 i)) (hc : cells + 20 ≤ 601024) (hs : slots + 263 ≤ 7293034)
    (kk : LK p l e s m args below meth c D cA b q0 qm o o2 Inv t i cells slots Q) : W p l e room_1 s m args below meth c H locs cells slots Q (F0 m 324 ls []) := by
  obtain ⟨C, hl0, hX, hN, hscr, hbl⟩ := X
  obtain ⟨hi0, hi1, hi2, hi3, hi4, hi5⟩ := hi
  obtain ⟨hx, hb, hml, hown, hts, hK, hlk⟩ := id C
  have hbA : ¬ nA s b := Nat.not_le.mpr hbl
  have hn := hn6 _ _ _ _ _ hI
  obtain ⟨w, τ', h5, ⟨σ0', σ', hf, hI2, hthr⟩ | ⟨hf, hI2, hthr⟩ | ⟨hf, hI2, hthr⟩ | ⟨hf, hI2, hthr⟩⟩ := S _ _ _ _ _ _ _ ht hI
  · refine lv_aload_n (pc := 324) hx hb dL_law_324 rfl (lv_at hl 1 rfl) ?_
    refine lv_aload_n (pc := 325) hx hb dL_law_325 rfl (lv_at hl 0 rfl) ?_
    refine lv_iload (pc := 326) hx hb dL_law_326 (lv_at hl 5 rfl) ?_
    refine lv_iconst (pc := 328) (v := 1) hx hb dL_law_328 (by decide) ?_
    refine lv_iadd (pc := 329) hx hb dL_law_329 ?_
    refine va_sld (pc := 330) hx hb hscr hbl hbA h.2.2.1 hi1 dL_law_330 ?_
    refine lv_aload_n (pc := 331) hx hb dL_law_331 rfl (lv_at hl 0 rfl) ?_
    refine lv_iload (pc := 332) hx hb dL_law_332 (lv_at hl 5 rfl) ?_
    refine lv_iconst (pc := 334) (v := 2) hx hb dL_law_334 (by decide) ?_
    refine lv_iadd (pc := 335) hx hb dL_law_335 ?_
    refine va_sld (pc := 336) hx hb hscr hbl hbA h.2.2.1 hi2 dL_law_336 ?_
    refine lv_aload_n (pc := 337) hx hb dL_law_337 rfl (lv_at hl 3 rfl) ?_
    refine call_W (pc := 338) (rest := []) (As := [.ref (q0 0), .int (xs (i + 1).toNatClampNeg), .int (xs (i + 2).toNatClampNeg), .ref o]) (ws' := wL n q0 q qm cA σ0' σ' τ o o2 (vp_updL f 0 w.toInt64) f2) C hl0 hX hN h (w_addRound hn σ0 σ (xs (i + 1).toNatClampNeg) (xs (i + 2).toNatClampNeg) hf o f) cx_L_138 (wL_L ..) (wL_L n q0 q qm cA σ0' σ' τ o o2 (vp_updL f 0 w.toInt64) f2).symm (xL_fst ..) rfl rfl hl.1 (Nat.le_of_ble_eq_true rfl) dL_law_338 ⟨(Nat.le_of_ble_eq_true rfl), (Nat.le_of_ble_eq_true rfl)⟩ rfl rfl ⟨by show cells + 1 ≤ 601024; omega, by show slots + 6 ≤ 7293034; omega⟩ (fun H locs h => ?_)
    refine W.eq (g2 := F0 m 341 ls [.int 0]) rfl ?_
    refine lv_istore (pc := 341) (lv' := [(6, .int 0), (0, .ref b), (1, .ref (q0 0)), (2, .ref (qm 0)), (3, .ref o), (4, .ref o2), (5, .int i)]) hx hb dL_law_341 hl (by decide) rfl (fun ls hl => ?_)
    refine lv_aload_n (pc := 343) hx hb dL_law_343 rfl (lv_at hl 3 rfl) ?_
    refine lv_aload_n (pc := 344) hx hb dL_law_344 rfl (lv_at hl 1 rfl) ?_
    refine lv_iload (pc := 345) hx hb dL_law_345 (lv_at hl 6 rfl) ?_
    refine lv_iconst (pc := 347) (v := 1) hx hb dL_law_347 (by decide) ?_
    refine lv_iadd (pc := 348) hx hb dL_law_348 ?_
    refine va_sld (pc := 349) hx hb hscr hbl hbA h.2.2.1 hi1 dL_law_349 ?_
    refine lv_aload_n (pc := 350) hx hb dL_law_350 rfl (lv_at hl 1 rfl) ?_
    refine lv_iload (pc := 351) hx hb dL_law_351 (lv_at hl 6 rfl) ?_
    refine lv_iconst (pc := 353) (v := 2) hx hb dL_law_353 (by decide) ?_
    refine lv_iadd (pc := 354) hx hb dL_law_354 ?_
    refine va_sld (pc := 355) hx hb hscr hbl hbA h.2.2.1 hi2 dL_law_355 ?_
    refine call_VUp (pc := 356) (rest := []) (As := [.int (xs (i + 1).toNatClampNeg), .int (xs (i + 2).toNatClampNeg)]) (wc' := mW qm cA τ') (ws' := wL n q0 q qm cA σ0' σ' τ' o o2 (vp_updL f 0 w.toInt64) f2) C h (k_X5_addRound (q := qm) τ (xs (i + 1).toNatClampNeg) (xs (i + 2).toNatClampNeg) h5) cm_L_141 (mW_c0 ..) rfl (wL_M ..) (wL_M n q0 q qm cA σ0' σ' τ' o o2 (vp_updL f 0 w.toInt64) f2).symm (mW_fst ..) rfl rfl hl.1 (Nat.le_of_ble_eq_true rfl) dL_law_356 ⟨(Nat.le_of_ble_eq_true rfl), (Nat.le_of_ble_eq_true rfl)⟩ rfl rfl ⟨by show _ ≤ 601024; omega, by show _ ≤ 7293034; omega⟩ (fun H locs h => ?_)
    refine W.eq (g2 := F0 m 359 ls [.int w]) rfl ?_
    refine lv_istore (pc := 359) (lv' := [(7, .int w), (6, .int 0), (0, .ref b), (1, .ref (q0 0)), (2, .ref (qm 0)), (3, .ref o), (4, .ref o2), (5, .int i)]) hx hb dL_law_359 hl (by decide) rfl (fun ls hl => ?_)
    refine lv_aload_n (pc := 361) hx hb dL_law_361 rfl (lv_at hl 4 rfl) ?_
    refine call_VRp (pc := 362) (rest := []) (As := []) C h (k_X5_thrown (q := qm) τ' rfl) cm_L_131 (mW_c0 ..) rfl (wL_M ..) rfl rfl hl.1 (Nat.le_of_ble_eq_true rfl) dL_law_362 ⟨(Nat.le_of_ble_eq_true rfl), (Nat.le_of_ble_eq_true rfl)⟩ rfl rfl ⟨by show _ ≤ 601024; omega, by show _ ≤ 7293034; omega⟩ (fun H locs h => ?_)
    refine W.eq (g2 := F0 m 365 ls [.int (τ' 24 0)]) rfl ?_
    refine lv_iload (pc := 365) hx hb dL_law_365 (lv_at hl 1 rfl) ?_
    refine lv_icmp_eq (pc := 367) (tgt := 372) hx hb dL_law_367 (by decide) (fun _ => ?_) (fun c9 => absurd hthr c9)
    refine lv_iload (pc := 372) hx hb dL_law_372 (lv_at hl 1 rfl) ?_
    refine lv_if_ne (pc := 374) (tgt := 389) hx hb dL_law_374 (by decide) (fun c9 => absurd rfl c9) (fun _ => ?_)
    refine lv_aload_n (pc := 377) hx hb dL_law_377 rfl (lv_at hl 5 rfl) ?_
    refine lv_iconst (pc := 378) (v := 0) hx hb dL_law_378 (by decide) ?_
    refine va_lald (pc := 379) hx hb hK.1 h.1 0 3 (wL_o ..) rfl (show inb (0 : Int32) 1 from by decide) dL_law_379 ?_
    refine W.eq (g2 := F0 m 380 ls [.long w.toInt64]) rfl ?_
    refine lv_iload (pc := 380) hx hb dL_law_380 (lv_at hl 0 rfl) ?_
    refine lv_i2l (pc := 382) (v := w.toInt64) hx hb dL_law_382 rfl ?_
    refine W.lcmp (pc := 383) hx hb dL_law_383 ?_
    rw [cmp_self]
    refine lv_if_eq (pc := 384) (tgt := 389) hx hb dL_law_384 (by decide) (fun _ => ?_) (fun c9 => absurd rfl c9)
    refine lv_goto (pc := 389) (tgt := 2364) hx hb dL_law_389 (by decide) ?_
    exact W.widen (by omega) (by omega) (kk _ _ _ _ _ _ _ _ _ hI2 h ls (lv_sub hl [2, 3, 4, 5, 6, 7] rfl))
  · refine lv_aload_n (pc := 324) hx hb dL_law_324 rfl (lv_at hl 1 rfl) ?_
    refine lv_aload_n (pc := 325) hx hb dL_law_325 rfl (lv_at hl 0 rfl) ?_
    refine lv_iload (pc := 326) hx hb dL_law_326 (lv_at hl 5 rfl) ?_
    refine lv_iconst (pc := 328) (v := 1) hx hb dL_law_328 (by decide) ?_
    refine lv_iadd (pc := 329) hx hb dL_law_329 ?_
    refine va_sld (pc := 330) hx hb hscr hbl hbA h.2.2.1 hi1 dL_law_330 ?_
    refine lv_aload_n (pc := 331) hx hb dL_law_331 rfl (lv_at hl 0 rfl) ?_
    refine lv_iload (pc := 332) hx hb dL_law_332 (lv_at hl 5 rfl) ?_
    refine lv_iconst (pc := 334) (v := 2) hx hb dL_law_334 (by decide) ?_
    refine lv_iadd (pc := 335) hx hb dL_law_335 ?_
    refine va_sld (pc := 336) hx hb hscr hbl hbA h.2.2.1 hi2 dL_law_336 ?_
    refine lv_aload_n (pc := 337) hx hb dL_law_337 rfl (lv_at hl 3 rfl) ?_
    refine call_W (pc := 338) (rest := []) (As := [.ref (q0 0), .int (xs (i + 1).toNatClampNeg), .int (xs (i + 2).toNatClampNeg), .ref o]) (ws' := wL n q0 q qm cA σ0 σ τ o o2 f f2) C hl0 hX hN h (wT_addRound_0 hn σ0 σ (xs (i + 1).toNatClampNeg) (xs (i + 2).toNatClampNeg) hf o f) cx_L_138 (wL_L ..) (wL_L n q0 q qm cA σ0 σ τ o o2 f f2).symm rfl rfl rfl hl.1 (Nat.le_of_ble_eq_true rfl) dL_law_338 ⟨(Nat.le_of_ble_eq_true rfl), (Nat.le_of_ble_eq_true rfl)⟩ rfl rfl ⟨by show cells + 1 ≤ 601024; omega, by show slots + 6 ≤ 7293034; omega⟩ (fun H locs h => ?_)
    refine W.eq (g2 := F0 m 341 ls [.int 1]) rfl ?_
    refine lv_istore (pc := 341) (lv' := [(6, .int 1), (0, .ref b), (1, .ref (q0 0)), (2, .ref (qm 0)), (3, .ref o), (4, .ref o2), (5, .int i)]) hx hb dL_law_341 hl (by decide) rfl (fun ls hl => ?_)
    refine lv_aload_n (pc := 343) hx hb dL_law_343 rfl (lv_at hl 3 rfl) ?_
    refine lv_aload_n (pc := 344) hx hb dL_law_344 rfl (lv_at hl 1 rfl) ?_
    refine lv_iload (pc := 345) hx hb dL_law_345 (lv_at hl 6 rfl) ?_
    refine lv_iconst (pc := 347) (v := 1) hx hb dL_law_347 (by decide) ?_
    refine lv_iadd (pc := 348) hx hb dL_law_348 ?_
    refine va_sld (pc := 349) hx hb hscr hbl hbA h.2.2.1 hi1 dL_law_349 ?_
    refine lv_aload_n (pc := 350) hx hb dL_law_350 rfl (lv_at hl 1 rfl) ?_
    refine lv_iload (pc := 351) hx hb dL_law_351 (lv_at hl 6 rfl) ?_
    refine lv_iconst (pc := 353) (v := 2) hx hb dL_law_353 (by decide) ?_
    refine lv_iadd (pc := 354) hx hb dL_law_354 ?_
    refine va_sld (pc := 355) hx hb hscr hbl hbA h.2.2.1 hi2 dL_law_355 ?_
    refine call_VUp (pc := 356) (rest := []) (As := [.int (xs (i + 1).toNatClampNeg), .int (xs (i + 2).toNatClampNeg)]) (wc' := mW qm cA τ') (ws' := wL n q0 q qm cA σ0 σ τ' o o2 f f2) C h (k_X5_addRound (q := qm) τ (xs (i + 1).toNatClampNeg) (xs (i + 2).toNatClampNeg) h5) cm_L_141 (mW_c0 ..) rfl (wL_M ..) (wL_M n q0 q qm cA σ0 σ τ' o o2 f f2).symm (mW_fst ..) rfl rfl hl.1 (Nat.le_of_ble_eq_true rfl) dL_law_356 ⟨(Nat.le_of_ble_eq_true rfl), (Nat.le_of_ble_eq_true rfl)⟩ rfl rfl ⟨by show _ ≤ 601024; omega, by show _ ≤ 7293034; omega⟩ (fun H locs h => ?_)
    refine W.eq (g2 := F0 m 359 ls [.int w]) rfl ?_
    refine lv_istore (pc := 359) (lv' := [(7, .int w), (6, .int 1), (0, .ref b), (1, .ref (q0 0)), (2, .ref (qm 0)), (3, .ref o), (4, .ref o2), (5, .int i)]) hx hb dL_law_359 hl (by decide) rfl (fun ls hl => ?_)
    refine lv_aload_n (pc := 361) hx hb dL_law_361 rfl (lv_at hl 4 rfl) ?_
    refine call_VRp (pc := 362) (rest := []) (As := []) C h (k_X5_thrown (q := qm) τ' rfl) cm_L_131 (mW_c0 ..) rfl (wL_M ..) rfl rfl hl.1 (Nat.le_of_ble_eq_true rfl) dL_law_362 ⟨(Nat.le_of_ble_eq_true rfl), (Nat.le_of_ble_eq_true rfl)⟩ rfl rfl ⟨by show _ ≤ 601024; omega, by show _ ≤ 7293034; omega⟩ (fun H locs h => ?_)
    refine W.eq (g2 := F0 m 365 ls [.int (τ' 24 0)]) rfl ?_
    refine lv_iload (pc := 365) hx hb dL_law_365 (lv_at hl 1 rfl) ?_
    refine lv_icmp_eq (pc := 367) (tgt := 372) hx hb dL_law_367 (by decide) (fun _ => ?_) (fun c9 => absurd hthr c9)
    refine lv_iload (pc := 372) hx hb dL_law_372 (lv_at hl 1 rfl) ?_
    refine lv_if_ne (pc := 374) (tgt := 389) hx hb dL_law_374 (by decide) (fun _ => ?_) (fun c9 => absurd c9 (by decide))
    refine lv_goto (pc := 389) (tgt := 2364) hx hb dL_law_389 (by decide) ?_
    exact W.widen (by omega) (by omega) (kk _ _ _ _ _ _ _ _ _ hI2 h ls (lv_sub hl [2, 3, 4, 5, 6, 7] rfl))
  · refine lv_aload_n (pc := 324) hx hb dL_law_324 rfl (lv_at hl 1 rfl) ?_
    refine lv_aload_n (pc := 325) hx hb dL_law_325 rfl (lv_at hl 0 rfl) ?_
    refine lv_iload (pc := 326) hx hb dL_law_326 (lv_at hl 5 rfl) ?_
    refine lv_iconst (pc := 328) (v := 1) hx hb dL_law_328 (by decide) ?_
    refine lv_iadd (pc := 329) hx hb dL_law_329 ?_
    refine va_sld (pc := 330) hx hb hscr hbl hbA h.2.2.1 hi1 dL_law_330 ?_
    refine lv_aload_n (pc := 331) hx hb dL_law_331 rfl (lv_at hl 0 rfl) ?_
    refine lv_iload (pc := 332) hx hb dL_law_332 (lv_at hl 5 rfl) ?_
    refine lv_iconst (pc := 334) (v := 2) hx hb dL_law_334 (by decide) ?_
    refine lv_iadd (pc := 335) hx hb dL_law_335 ?_
    refine va_sld (pc := 336) hx hb hscr hbl hbA h.2.2.1 hi2 dL_law_336 ?_
    refine lv_aload_n (pc := 337) hx hb dL_law_337 rfl (lv_at hl 3 rfl) ?_
    refine call_W (pc := 338) (rest := []) (As := [.ref (q0 0), .int (xs (i + 1).toNatClampNeg), .int (xs (i + 2).toNatClampNeg), .ref o]) (ws' := wL n q0 q qm cA σ0 σ τ o o2 f f2) C hl0 hX hN h (wT_addRound_1 hn σ0 σ (xs (i + 1).toNatClampNeg) (xs (i + 2).toNatClampNeg) hf o f) cx_L_138 (wL_L ..) (wL_L n q0 q qm cA σ0 σ τ o o2 f f2).symm rfl rfl rfl hl.1 (Nat.le_of_ble_eq_true rfl) dL_law_338 ⟨(Nat.le_of_ble_eq_true rfl), (Nat.le_of_ble_eq_true rfl)⟩ rfl rfl ⟨by show cells + 1 ≤ 601024; omega, by show slots + 6 ≤ 7293034; omega⟩ (fun H locs h => ?_)
    refine W.eq (g2 := F0 m 341 ls [.int 2]) rfl ?_
    refine lv_istore (pc := 341) (lv' := [(6, .int 2), (0, .ref b), (1, .ref (q0 0)), (2, .ref (qm 0)), (3, .ref o), (4, .ref o2), (5, .int i)]) hx hb dL_law_341 hl (by decide) rfl (fun ls hl => ?_)
    refine lv_aload_n (pc := 343) hx hb dL_law_343 rfl (lv_at hl 3 rfl) ?_
    refine lv_aload_n (pc := 344) hx hb dL_law_344 rfl (lv_at hl 1 rfl) ?_
    refine lv_iload (pc := 345) hx hb dL_law_345 (lv_at hl 6 rfl) ?_
    refine lv_iconst (pc := 347) (v := 1) hx hb dL_law_347 (by decide) ?_
    refine lv_iadd (pc := 348) hx hb dL_law_348 ?_
    refine va_sld (pc := 349) hx hb hscr hbl hbA h.2.2.1 hi1 dL_law_349 ?_
    refine lv_aload_n (pc := 350) hx hb dL_law_350 rfl (lv_at hl 1 rfl) ?_
    refine lv_iload (pc := 351) hx hb dL_law_351 (lv_at hl 6 rfl) ?_
    refine lv_iconst (pc := 353) (v := 2) hx hb dL_law_353 (by decide) ?_
    refine lv_iadd (pc := 354) hx hb dL_law_354 ?_
    refine va_sld (pc := 355) hx hb hscr hbl hbA h.2.2.1 hi2 dL_law_355 ?_
    refine call_VUp (pc := 356) (rest := []) (As := [.int (xs (i + 1).toNatClampNeg), .int (xs (i + 2).toNatClampNeg)]) (wc' := mW qm cA τ') (ws' := wL n q0 q qm cA σ0 σ τ' o o2 f f2) C h (k_X5_addRound (q := qm) τ (xs (i + 1).toNatClampNeg) (xs (i + 2).toNatClampNeg) h5) cm_L_141 (mW_c0 ..) rfl (wL_M ..) (wL_M n q0 q qm cA σ0 σ τ' o o2 f f2).symm (mW_fst ..) rfl rfl hl.1 (Nat.le_of_ble_eq_true rfl) dL_law_356 ⟨(Nat.le_of_ble_eq_true rfl), (Nat.le_of_ble_eq_true rfl)⟩ rfl rfl ⟨by show _ ≤ 601024; omega, by show _ ≤ 7293034; omega⟩ (fun H locs h => ?_)
    refine W.eq (g2 := F0 m 359 ls [.int w]) rfl ?_
    refine lv_istore (pc := 359) (lv' := [(7, .int w), (6, .int 2), (0, .ref b), (1, .ref (q0 0)), (2, .ref (qm 0)), (3, .ref o), (4, .ref o2), (5, .int i)]) hx hb dL_law_359 hl (by decide) rfl (fun ls hl => ?_)
    refine lv_aload_n (pc := 361) hx hb dL_law_361 rfl (lv_at hl 4 rfl) ?_
    refine call_VRp (pc := 362) (rest := []) (As := []) C h (k_X5_thrown (q := qm) τ' rfl) cm_L_131 (mW_c0 ..) rfl (wL_M ..) rfl rfl hl.1 (Nat.le_of_ble_eq_true rfl) dL_law_362 ⟨(Nat.le_of_ble_eq_true rfl), (Nat.le_of_ble_eq_true rfl)⟩ rfl rfl ⟨by show _ ≤ 601024; omega, by show _ ≤ 7293034; omega⟩ (fun H locs h => ?_)
    refine W.eq (g2 := F0 m 365 ls [.int (τ' 24 0)]) rfl ?_
    refine lv_iload (pc := 365) hx hb dL_law_365 (lv_at hl 1 rfl) ?_
    refine lv_icmp_eq (pc := 367) (tgt := 372) hx hb dL_law_367 (by decide) (fun _ => ?_) (fun c9 => absurd hthr c9)
    refine lv_iload (pc := 372) hx hb dL_law_372 (lv_at hl 1 rfl) ?_
    refine lv_if_ne (pc := 374) (tgt := 389) hx hb dL_law_374 (by decide) (fun _ => ?_) (fun c9 => absurd c9 (by decide))
    refine lv_goto (pc := 389) (tgt := 2364) hx hb dL_law_389 (by decide) ?_
    exact W.widen (by omega) (by omega) (kk _ _ _ _ _ _ _ _ _ hI2 h ls (lv_sub hl [2, 3, 4, 5, 6, 7] rfl))
  · refine lv_aload_n (pc := 324) hx hb dL_law_324 rfl (lv_at hl 1 rfl) ?_
    refine lv_aload_n (pc := 325) hx hb dL_law_325 rfl (lv_at hl 0 rfl) ?_
    refine lv_iload (pc := 326) hx hb dL_law_326 (lv_at hl 5 rfl) ?_
    refine lv_iconst (pc := 328) (v := 1) hx hb dL_law_328 (by decide) ?_
    refine lv_iadd (pc := 329) hx hb dL_law_329 ?_
    refine va_sld (pc := 330) hx hb hscr hbl hbA h.2.2.1 hi1 dL_law_330 ?_
    refine lv_aload_n (pc := 331) hx hb dL_law_331 rfl (lv_at hl 0 rfl) ?_
    refine lv_iload (pc := 332) hx hb dL_law_332 (lv_at hl 5 rfl) ?_
    refine lv_iconst (pc := 334) (v := 2) hx hb dL_law_334 (by decide) ?_
    refine lv_iadd (pc := 335) hx hb dL_law_335 ?_
    refine va_sld (pc := 336) hx hb hscr hbl hbA h.2.2.1 hi2 dL_law_336 ?_
    refine lv_aload_n (pc := 337) hx hb dL_law_337 rfl (lv_at hl 3 rfl) ?_
    refine call_W (pc := 338) (rest := []) (As := [.ref (q0 0), .int (xs (i + 1).toNatClampNeg), .int (xs (i + 2).toNatClampNeg), .ref o]) (ws' := wL n q0 q qm cA σ0 σ τ o o2 f f2) C hl0 hX hN h (wT_addRound_2 hn σ0 σ (xs (i + 1).toNatClampNeg) (xs (i + 2).toNatClampNeg) hf o f) cx_L_138 (wL_L ..) (wL_L n q0 q qm cA σ0 σ τ o o2 f f2).symm rfl rfl rfl hl.1 (Nat.le_of_ble_eq_true rfl) dL_law_338 ⟨(Nat.le_of_ble_eq_true rfl), (Nat.le_of_ble_eq_true rfl)⟩ rfl rfl ⟨by show cells + 1 ≤ 601024; omega, by show slots + 6 ≤ 7293034; omega⟩ (fun H locs h => ?_)
    refine W.eq (g2 := F0 m 341 ls [.int 3]) rfl ?_
    refine lv_istore (pc := 341) (lv' := [(6, .int 3), (0, .ref b), (1, .ref (q0 0)), (2, .ref (qm 0)), (3, .ref o), (4, .ref o2), (5, .int i)]) hx hb dL_law_341 hl (by decide) rfl (fun ls hl => ?_)
    refine lv_aload_n (pc := 343) hx hb dL_law_343 rfl (lv_at hl 3 rfl) ?_
    refine lv_aload_n (pc := 344) hx hb dL_law_344 rfl (lv_at hl 1 rfl) ?_
    refine lv_iload (pc := 345) hx hb dL_law_345 (lv_at hl 6 rfl) ?_
    refine lv_iconst (pc := 347) (v := 1) hx hb dL_law_347 (by decide) ?_
    refine lv_iadd (pc := 348) hx hb dL_law_348 ?_
    refine va_sld (pc := 349) hx hb hscr hbl hbA h.2.2.1 hi1 dL_law_349 ?_
    refine lv_aload_n (pc := 350) hx hb dL_law_350 rfl (lv_at hl 1 rfl) ?_
    refine lv_iload (pc := 351) hx hb dL_law_351 (lv_at hl 6 rfl) ?_
    refine lv_iconst (pc := 353) (v := 2) hx hb dL_law_353 (by decide) ?_
    refine lv_iadd (pc := 354) hx hb dL_law_354 ?_
    refine va_sld (pc := 355) hx hb hscr hbl hbA h.2.2.1 hi2 dL_law_355 ?_
    refine call_VUp (pc := 356) (rest := []) (As := [.int (xs (i + 1).toNatClampNeg), .int (xs (i + 2).toNatClampNeg)]) (wc' := mW qm cA τ') (ws' := wL n q0 q qm cA σ0 σ τ' o o2 f f2) C h (k_X5_addRound (q := qm) τ (xs (i + 1).toNatClampNeg) (xs (i + 2).toNatClampNeg) h5) cm_L_141 (mW_c0 ..) rfl (wL_M ..) (wL_M n q0 q qm cA σ0 σ τ' o o2 f f2).symm (mW_fst ..) rfl rfl hl.1 (Nat.le_of_ble_eq_true rfl) dL_law_356 ⟨(Nat.le_of_ble_eq_true rfl), (Nat.le_of_ble_eq_true rfl)⟩ rfl rfl ⟨by show _ ≤ 601024; omega, by show _ ≤ 7293034; omega⟩ (fun H locs h => ?_)
    refine W.eq (g2 := F0 m 359 ls [.int w]) rfl ?_
    refine lv_istore (pc := 359) (lv' := [(7, .int w), (6, .int 3), (0, .ref b), (1, .ref (q0 0)), (2, .ref (qm 0)), (3, .ref o), (4, .ref o2), (5, .int i)]) hx hb dL_law_359 hl (by decide) rfl (fun ls hl => ?_)
    refine lv_aload_n (pc := 361) hx hb dL_law_361 rfl (lv_at hl 4 rfl) ?_
    refine call_VRp (pc := 362) (rest := []) (As := []) C h (k_X5_thrown (q := qm) τ' rfl) cm_L_131 (mW_c0 ..) rfl (wL_M ..) rfl rfl hl.1 (Nat.le_of_ble_eq_true rfl) dL_law_362 ⟨(Nat.le_of_ble_eq_true rfl), (Nat.le_of_ble_eq_true rfl)⟩ rfl rfl ⟨by show _ ≤ 601024; omega, by show _ ≤ 7293034; omega⟩ (fun H locs h => ?_)
    refine W.eq (g2 := F0 m 365 ls [.int (τ' 24 0)]) rfl ?_
    refine lv_iload (pc := 365) hx hb dL_law_365 (lv_at hl 1 rfl) ?_
    refine lv_icmp_eq (pc := 367) (tgt := 372) hx hb dL_law_367 (by decide) (fun _ => ?_) (fun c9 => absurd hthr c9)
    refine lv_iload (pc := 372) hx hb dL_law_372 (lv_at hl 1 rfl) ?_
    refine lv_if_ne (pc := 374) (tgt := 389) hx hb dL_law_374 (by decide) (fun _ => ?_) (fun c9 => absurd c9 (by decide))
    refine lv_goto (pc := 389) (tgt := 2364) hx hb dL_law_389 (by decide) ?_
    exact W.widen (by omega) (by omega) (kk _ _ _ _ _ _ _ _ _ hI2 h ls (lv_sub hl [2, 3, 4, 5, 6, 7] rfl))
set_option maxHeartbeats 1000000 in
set_option maxRecDepth 100000 in
theorem law_setTimes {Inv : IT} (hn6 : ∀ t n σ0 σ τ, Inv t n σ0 σ τ → n ≤ 6) (S : SA_setTimes Inv) {t n : Nat} {q0 : Nat → Nat} {q : Nat → Nat → Nat} {qm : Nat → Nat} {σ0 τ : Nat → Nat → Int32} {σ : Nat → Nat → Nat → Int32} {o o2 : Nat} {f : Nat → Int64} {f2 : Nat → UInt64} {i : Int32} (ht : t < 512) (hI : Inv t n σ0 σ τ)
    (X : LX p l s m args meth c D cA b L xs) (h : St D (nA s) s.heap (wL n q0 q qm cA σ0 σ τ o o2 f f2) H locs) (hi : HI i L) (hl : lv_has ls 8 (L0 b (q0 0) (qm 0) o o2 i)) (hc : cells + 20 ≤ 601024) (hs : slots + 263 ≤ 7293034)
    (kk : LK p l e s m args below meth c D cA b q0 qm o o2 Inv t i cells slots Q) : W p l e room_1 s m args below meth c H locs cells slots Q (F0 m 392 ls []) := by
  obtain ⟨C, hl0, hX, hN, hscr, hbl⟩ := X
  obtain ⟨hi0, hi1, hi2, hi3, hi4, hi5⟩ := hi
  obtain ⟨hx, hb, hml, hown, hts, hK, hlk⟩ := id C
  have hbA : ¬ nA s b := Nat.not_le.mpr hbl
  have hn := hn6 _ _ _ _ _ hI
  obtain ⟨τ', h5, ⟨σ0', σ', hf, hI2, hthr⟩ | ⟨hf, hI2, hthr⟩ | ⟨hf, hI2, hthr⟩ | ⟨hf, hI2, hthr⟩⟩ := S _ _ _ _ _ _ _ _ ht hI
  · refine lv_aload_n (pc := 392) hx hb dL_law_392 rfl (lv_at hl 1 rfl) ?_
    refine lv_aload_n (pc := 393) hx hb dL_law_393 rfl (lv_at hl 0 rfl) ?_
    refine lv_iload (pc := 394) hx hb dL_law_394 (lv_at hl 5 rfl) ?_
    refine lv_iconst (pc := 396) (v := 1) hx hb dL_law_396 (by decide) ?_
    refine lv_iadd (pc := 397) hx hb dL_law_397 ?_
    refine va_sld (pc := 398) hx hb hscr hbl hbA h.2.2.1 hi1 dL_law_398 ?_
    refine lv_aload_n (pc := 399) hx hb dL_law_399 rfl (lv_at hl 0 rfl) ?_
    refine lv_iload (pc := 400) hx hb dL_law_400 (lv_at hl 5 rfl) ?_
    refine lv_iconst (pc := 402) (v := 2) hx hb dL_law_402 (by decide) ?_
    refine lv_iadd (pc := 403) hx hb dL_law_403 ?_
    refine va_sld (pc := 404) hx hb hscr hbl hbA h.2.2.1 hi2 dL_law_404 ?_
    refine lv_aload_n (pc := 405) hx hb dL_law_405 rfl (lv_at hl 0 rfl) ?_
    refine lv_iload (pc := 406) hx hb dL_law_406 (lv_at hl 5 rfl) ?_
    refine lv_iconst (pc := 408) (v := 3) hx hb dL_law_408 (by decide) ?_
    refine lv_iadd (pc := 409) hx hb dL_law_409 ?_
    refine va_sld (pc := 410) hx hb hscr hbl hbA h.2.2.1 hi3 dL_law_410 ?_
    refine call_W (pc := 411) (rest := []) (As := [.ref (q0 0), .int (xs (i + 1).toNatClampNeg), .int (xs (i + 2).toNatClampNeg), .int (xs (i + 3).toNatClampNeg)]) (ws' := wL n q0 q qm cA σ0' σ' τ o o2 f f2) C hl0 hX hN h (w_setTimes hn σ0 σ (xs (i + 1).toNatClampNeg) (xs (i + 2).toNatClampNeg) (xs (i + 3).toNatClampNeg) hf) cx_L_142 (wL_S ..) (wL_S n q0 q qm cA σ0' σ' τ o o2 f f2).symm (sW_fst ..) rfl rfl hl.1 (Nat.le_of_ble_eq_true rfl) dL_law_411 ⟨(Nat.le_of_ble_eq_true rfl), (Nat.le_of_ble_eq_true rfl)⟩ rfl rfl ⟨by show cells + 1 ≤ 601024; omega, by show slots + 6 ≤ 7293034; omega⟩ (fun H locs h => ?_)
    refine W.eq (g2 := F0 m 414 ls [.int 0]) rfl ?_
    refine lv_istore (pc := 414) (lv' := [(6, .int 0), (0, .ref b), (1, .ref (q0 0)), (2, .ref (qm 0)), (3, .ref o), (4, .ref o2), (5, .int i)]) hx hb dL_law_414 hl (by decide) rfl (fun ls hl => ?_)
    refine lv_aload_n (pc := 416) hx hb dL_law_416 rfl (lv_at hl 3 rfl) ?_
    refine lv_aload_n (pc := 417) hx hb dL_law_417 rfl (lv_at hl 1 rfl) ?_
    refine lv_iload (pc := 418) hx hb dL_law_418 (lv_at hl 6 rfl) ?_
    refine lv_iconst (pc := 420) (v := 1) hx hb dL_law_420 (by decide) ?_
    refine lv_iadd (pc := 421) hx hb dL_law_421 ?_
    refine va_sld (pc := 422) hx hb hscr hbl hbA h.2.2.1 hi1 dL_law_422 ?_
    refine lv_aload_n (pc := 423) hx hb dL_law_423 rfl (lv_at hl 1 rfl) ?_
    refine lv_iload (pc := 424) hx hb dL_law_424 (lv_at hl 6 rfl) ?_
    refine lv_iconst (pc := 426) (v := 2) hx hb dL_law_426 (by decide) ?_
    refine lv_iadd (pc := 427) hx hb dL_law_427 ?_
    refine va_sld (pc := 428) hx hb hscr hbl hbA h.2.2.1 hi2 dL_law_428 ?_
    refine lv_aload_n (pc := 429) hx hb dL_law_429 rfl (lv_at hl 1 rfl) ?_
    refine lv_iload (pc := 430) hx hb dL_law_430 (lv_at hl 6 rfl) ?_
    refine lv_iconst (pc := 432) (v := 3) hx hb dL_law_432 (by decide) ?_
    refine lv_iadd (pc := 433) hx hb dL_law_433 ?_
    refine va_sld (pc := 434) hx hb hscr hbl hbA h.2.2.1 hi3 dL_law_434 ?_
    refine call_VUp (pc := 435) (rest := []) (As := [.int (xs (i + 1).toNatClampNeg), .int (xs (i + 2).toNatClampNeg), .int (xs (i + 3).toNatClampNeg)]) (wc' := mW qm cA τ') (ws' := wL n q0 q qm cA σ0' σ' τ' o o2 f f2) C h (k_X5_setTimes (q := qm) τ (xs (i + 1).toNatClampNeg) (xs (i + 2).toNatClampNeg) (xs (i + 3).toNatClampNeg) h5) cm_L_145 (mW_c0 ..) rfl (wL_M ..) (wL_M n q0 q qm cA σ0' σ' τ' o o2 f f2).symm (mW_fst ..) rfl rfl hl.1 (Nat.le_of_ble_eq_true rfl) dL_law_435 ⟨(Nat.le_of_ble_eq_true rfl), (Nat.le_of_ble_eq_true rfl)⟩ rfl rfl ⟨by show _ ≤ 601024; omega, by show _ ≤ 7293034; omega⟩ (fun H locs h => ?_)
    refine W.eq (g2 := F0 m 438 ls []) rfl ?_
    refine lv_aload_n (pc := 438) hx hb dL_law_438 rfl (lv_at hl 3 rfl) ?_
    refine call_VRp (pc := 439) (rest := []) (As := []) C h (k_X5_thrown (q := qm) τ' rfl) cm_L_131 (mW_c0 ..) rfl (wL_M ..) rfl rfl hl.1 (Nat.le_of_ble_eq_true rfl) dL_law_439 ⟨(Nat.le_of_ble_eq_true rfl), (Nat.le_of_ble_eq_true rfl)⟩ rfl rfl ⟨by show _ ≤ 601024; omega, by show _ ≤ 7293034; omega⟩ (fun H locs h => ?_)
    refine W.eq (g2 := F0 m 442 ls [.int (τ' 24 0)]) rfl ?_
    refine lv_iload (pc := 442) hx hb dL_law_442 (lv_at hl 0 rfl) ?_
    refine lv_icmp_eq (pc := 444) (tgt := 449) hx hb dL_law_444 (by decide) (fun _ => ?_) (fun c9 => absurd hthr c9)
    refine lv_goto (pc := 449) (tgt := 2364) hx hb dL_law_449 (by decide) ?_
    exact W.widen (by omega) (by omega) (kk _ _ _ _ _ _ _ _ _ hI2 h ls (lv_sub hl [1, 2, 3, 4, 5, 6] rfl))
  · refine lv_aload_n (pc := 392) hx hb dL_law_392 rfl (lv_at hl 1 rfl) ?_
    refine lv_aload_n (pc := 393) hx hb dL_law_393 rfl (lv_at hl 0 rfl) ?_
    refine lv_iload (pc := 394) hx hb dL_law_394 (lv_at hl 5 rfl) ?_
    refine lv_iconst (pc := 396) (v := 1) hx hb dL_law_396 (by decide) ?_
    refine lv_iadd (pc := 397) hx hb dL_law_397 ?_
    refine va_sld (pc := 398) hx hb hscr hbl hbA h.2.2.1 hi1 dL_law_398 ?_
    refine lv_aload_n (pc := 399) hx hb dL_law_399 rfl (lv_at hl 0 rfl) ?_
    refine lv_iload (pc := 400) hx hb dL_law_400 (lv_at hl 5 rfl) ?_
    refine lv_iconst (pc := 402) (v := 2) hx hb dL_law_402 (by decide) ?_
    refine lv_iadd (pc := 403) hx hb dL_law_403 ?_
    refine va_sld (pc := 404) hx hb hscr hbl hbA h.2.2.1 hi2 dL_law_404 ?_
    refine lv_aload_n (pc := 405) hx hb dL_law_405 rfl (lv_at hl 0 rfl) ?_
    refine lv_iload (pc := 406) hx hb dL_law_406 (lv_at hl 5 rfl) ?_
    refine lv_iconst (pc := 408) (v := 3) hx hb dL_law_408 (by decide) ?_
    refine lv_iadd (pc := 409) hx hb dL_law_409 ?_
    refine va_sld (pc := 410) hx hb hscr hbl hbA h.2.2.1 hi3 dL_law_410 ?_
    refine call_W (pc := 411) (rest := []) (As := [.ref (q0 0), .int (xs (i + 1).toNatClampNeg), .int (xs (i + 2).toNatClampNeg), .int (xs (i + 3).toNatClampNeg)]) (ws' := wL n q0 q qm cA σ0 σ τ o o2 f f2) C hl0 hX hN h (wT_setTimes_0 hn σ0 σ (xs (i + 1).toNatClampNeg) (xs (i + 2).toNatClampNeg) (xs (i + 3).toNatClampNeg) hf) cx_L_142 (wL_S ..) (wL_S n q0 q qm cA σ0 σ τ o o2 f f2).symm rfl rfl rfl hl.1 (Nat.le_of_ble_eq_true rfl) dL_law_411 ⟨(Nat.le_of_ble_eq_true rfl), (Nat.le_of_ble_eq_true rfl)⟩ rfl rfl ⟨by show cells + 1 ≤ 601024; omega, by show slots + 6 ≤ 7293034; omega⟩ (fun H locs h => ?_)
    refine W.eq (g2 := F0 m 414 ls [.int 1]) rfl ?_
    refine lv_istore (pc := 414) (lv' := [(6, .int 1), (0, .ref b), (1, .ref (q0 0)), (2, .ref (qm 0)), (3, .ref o), (4, .ref o2), (5, .int i)]) hx hb dL_law_414 hl (by decide) rfl (fun ls hl => ?_)
    refine lv_aload_n (pc := 416) hx hb dL_law_416 rfl (lv_at hl 3 rfl) ?_
    refine lv_aload_n (pc := 417) hx hb dL_law_417 rfl (lv_at hl 1 rfl) ?_
    refine lv_iload (pc := 418) hx hb dL_law_418 (lv_at hl 6 rfl) ?_
    refine lv_iconst (pc := 420) (v := 1) hx hb dL_law_420 (by decide) ?_
    refine lv_iadd (pc := 421) hx hb dL_law_421 ?_
    refine va_sld (pc := 422) hx hb hscr hbl hbA h.2.2.1 hi1 dL_law_422 ?_
    refine lv_aload_n (pc := 423) hx hb dL_law_423 rfl (lv_at hl 1 rfl) ?_
    refine lv_iload (pc := 424) hx hb dL_law_424 (lv_at hl 6 rfl) ?_
    refine lv_iconst (pc := 426) (v := 2) hx hb dL_law_426 (by decide) ?_
    refine lv_iadd (pc := 427) hx hb dL_law_427 ?_
    refine va_sld (pc := 428) hx hb hscr hbl hbA h.2.2.1 hi2 dL_law_428 ?_
    refine lv_aload_n (pc := 429) hx hb dL_law_429 rfl (lv_at hl 1 rfl) ?_
    refine lv_iload (pc := 430) hx hb dL_law_430 (lv_at hl 6 rfl) ?_
    refine lv_iconst (pc := 432) (v := 3) hx hb dL_law_432 (by decide) ?_
    refine lv_iadd (pc := 433) hx hb dL_law_433 ?_
    refine va_sld (pc := 434) hx hb hscr hbl hbA h.2.2.1 hi3 dL_law_434 ?_
    refine call_VUp (pc := 435) (rest := []) (As := [.int (xs (i + 1).toNatClampNeg), .int (xs (i + 2).toNatClampNeg), .int (xs (i + 3).toNatClampNeg)]) (wc' := mW qm cA τ') (ws' := wL n q0 q qm cA σ0 σ τ' o o2 f f2) C h (k_X5_setTimes (q := qm) τ (xs (i + 1).toNatClampNeg) (xs (i + 2).toNatClampNeg) (xs (i + 3).toNatClampNeg) h5) cm_L_145 (mW_c0 ..) rfl (wL_M ..) (wL_M n q0 q qm cA σ0 σ τ' o o2 f f2).symm (mW_fst ..) rfl rfl hl.1 (Nat.le_of_ble_eq_true rfl) dL_law_435 ⟨(Nat.le_of_ble_eq_true rfl), (Nat.le_of_ble_eq_true rfl)⟩ rfl rfl ⟨by show _ ≤ 601024; omega, by show _ ≤ 7293034; omega⟩ (fun H locs h => ?_)
    refine W.eq (g2 := F0 m 438 ls []) rfl ?_
    refine lv_aload_n (pc := 438) hx hb dL_law_438 rfl (lv_at hl 3 rfl) ?_
    refine call_VRp (pc := 439) (rest := []) (As := []) C h (k_X5_thrown (q := qm) τ' rfl) cm_L_131 (mW_c0 ..) rfl (wL_M ..) rfl rfl hl.1 (Nat.le_of_ble_eq_true rfl) dL_law_439 ⟨(Nat.le_of_ble_eq_true rfl), (Nat.le_of_ble_eq_true rfl)⟩ rfl rfl ⟨by show _ ≤ 601024; omega, by show _ ≤ 7293034; omega⟩ (fun H locs h => ?_)
    refine W.eq (g2 := F0 m 442 ls [.int (τ' 24 0)]) rfl ?_
    refine lv_iload (pc := 442) hx hb dL_law_442 (lv_at hl 0 rfl) ?_
    refine lv_icmp_eq (pc := 444) (tgt := 449) hx hb dL_law_444 (by decide) (fun _ => ?_) (fun c9 => absurd hthr c9)
    refine lv_goto (pc := 449) (tgt := 2364) hx hb dL_law_449 (by decide) ?_
    exact W.widen (by omega) (by omega) (kk _ _ _ _ _ _ _ _ _ hI2 h ls (lv_sub hl [1, 2, 3, 4, 5, 6] rfl))
  · refine lv_aload_n (pc := 392) hx hb dL_law_392 rfl (lv_at hl 1 rfl) ?_
    refine lv_aload_n (pc := 393) hx hb dL_law_393 rfl (lv_at hl 0 rfl) ?_
    refine lv_iload (pc := 394) hx hb dL_law_394 (lv_at hl 5 rfl) ?_
    refine lv_iconst (pc := 396) (v := 1) hx hb dL_law_396 (by decide) ?_
    refine lv_iadd (pc := 397) hx hb dL_law_397 ?_
    refine va_sld (pc := 398) hx hb hscr hbl hbA h.2.2.1 hi1 dL_law_398 ?_
    refine lv_aload_n (pc := 399) hx hb dL_law_399 rfl (lv_at hl 0 rfl) ?_
    refine lv_iload (pc := 400) hx hb dL_law_400 (lv_at hl 5 rfl) ?_
    refine lv_iconst (pc := 402) (v := 2) hx hb dL_law_402 (by decide) ?_
    refine lv_iadd (pc := 403) hx hb dL_law_403 ?_
    refine va_sld (pc := 404) hx hb hscr hbl hbA h.2.2.1 hi2 dL_law_404 ?_
    refine lv_aload_n (pc := 405) hx hb dL_law_405 rfl (lv_at hl 0 rfl) ?_
    refine lv_iload (pc := 406) hx hb dL_law_406 (lv_at hl 5 rfl) ?_
    refine lv_iconst (pc := 408) (v := 3) hx hb dL_law_408 (by decide) ?_
    refine lv_iadd (pc := 409) hx hb dL_law_409 ?_
    refine va_sld (pc := 410) hx hb hscr hbl hbA h.2.2.1 hi3 dL_law_410 ?_
    refine call_W (pc := 411) (rest := []) (As := [.ref (q0 0), .int (xs (i + 1).toNatClampNeg), .int (xs (i + 2).toNatClampNeg), .int (xs (i + 3).toNatClampNeg)]) (ws' := wL n q0 q qm cA σ0 σ τ o o2 f f2) C hl0 hX hN h (wT_setTimes_1 hn σ0 σ (xs (i + 1).toNatClampNeg) (xs (i + 2).toNatClampNeg) (xs (i + 3).toNatClampNeg) hf) cx_L_142 (wL_S ..) (wL_S n q0 q qm cA σ0 σ τ o o2 f f2).symm rfl rfl rfl hl.1 (Nat.le_of_ble_eq_true rfl) dL_law_411 ⟨(Nat.le_of_ble_eq_true rfl), (Nat.le_of_ble_eq_true rfl)⟩ rfl rfl ⟨by show cells + 1 ≤ 601024; omega, by show slots + 6 ≤ 7293034; omega⟩ (fun H locs h => ?_)
    refine W.eq (g2 := F0 m 414 ls [.int 2]) rfl ?_
    refine lv_istore (pc := 414) (lv' := [(6, .int 2), (0, .ref b), (1, .ref (q0 0)), (2, .ref (qm 0)), (3, .ref o), (4, .ref o2), (5, .int i)]) hx hb dL_law_414 hl (by decide) rfl (fun ls hl => ?_)
    refine lv_aload_n (pc := 416) hx hb dL_law_416 rfl (lv_at hl 3 rfl) ?_
    refine lv_aload_n (pc := 417) hx hb dL_law_417 rfl (lv_at hl 1 rfl) ?_
    refine lv_iload (pc := 418) hx hb dL_law_418 (lv_at hl 6 rfl) ?_
    refine lv_iconst (pc := 420) (v := 1) hx hb dL_law_420 (by decide) ?_
    refine lv_iadd (pc := 421) hx hb dL_law_421 ?_
    refine va_sld (pc := 422) hx hb hscr hbl hbA h.2.2.1 hi1 dL_law_422 ?_
    refine lv_aload_n (pc := 423) hx hb dL_law_423 rfl (lv_at hl 1 rfl) ?_
    refine lv_iload (pc := 424) hx hb dL_law_424 (lv_at hl 6 rfl) ?_
    refine lv_iconst (pc := 426) (v := 2) hx hb dL_law_426 (by decide) ?_
    refine lv_iadd (pc := 427) hx hb dL_law_427 ?_
    refine va_sld (pc := 428) hx hb hscr hbl hbA h.2.2.1 hi2 dL_law_428 ?_
    refine lv_aload_n (pc := 429) hx hb dL_law_429 rfl (lv_at hl 1 rfl) ?_
    refine lv_iload (pc := 430) hx hb dL_law_430 (lv_at hl 6 rfl) ?_
    refine lv_iconst (pc := 432) (v := 3) hx hb dL_law_432 (by decide) ?_
    refine lv_iadd (pc := 433) hx hb dL_law_433 ?_
    refine va_sld (pc := 434) hx hb hscr hbl hbA h.2.2.1 hi3 dL_law_434 ?_
    refine call_VUp (pc := 435) (rest := []) (As := [.int (xs (i + 1).toNatClampNeg), .int (xs (i + 2).toNatClampNeg), .int (xs (i + 3).toNatClampNeg)]) (wc' := mW qm cA τ') (ws' := wL n q0 q qm cA σ0 σ τ' o o2 f f2) C h (k_X5_setTimes (q := qm) τ (xs (i + 1).toNatClampNeg) (xs (i + 2).toNatClampNeg) (xs (i + 3).toNatClampNeg) h5) cm_L_145 (mW_c0 ..) rfl (wL_M ..) (wL_M n q0 q qm cA σ0 σ τ' o o2 f f2).symm (mW_fst ..) rfl rfl hl.1 (Nat.le_of_ble_eq_true rfl) dL_law_435 ⟨(Nat.le_of_ble_eq_true rfl), (Nat.le_of_ble_eq_true rfl)⟩ rfl rfl ⟨by show _ ≤ 601024; omega, by show _ ≤ 7293034; omega⟩ (fun H locs h => ?_)
    refine W.eq (g2 := F0 m 438 ls []) rfl ?_
    refine lv_aload_n (pc := 438) hx hb dL_law_438 rfl (lv_at hl 3 rfl) ?_
    refine call_VRp (pc := 439) (rest := []) (As := []) C h (k_X5_thrown (q := qm) τ' rfl) cm_L_131 (mW_c0 ..) rfl (wL_M ..) rfl rfl hl.1 (Nat.le_of_ble_eq_true rfl) dL_law_439 ⟨(Nat.le_of_ble_eq_true rfl), (Nat.le_of_ble_eq_true rfl)⟩ rfl rfl ⟨by show _ ≤ 601024; omega, by show _ ≤ 7293034; omega⟩ (fun H locs h => ?_)
    refine W.eq (g2 := F0 m 442 ls [.int (τ' 24 0)]) rfl ?_
    refine lv_iload (pc := 442) hx hb dL_law_442 (lv_at hl 0 rfl) ?_
    refine lv_icmp_eq (pc := 444) (tgt := 449) hx hb dL_law_444 (by decide) (fun _ => ?_) (fun c9 => absurd hthr c9)
    refine lv_goto (pc := 449) (tgt := 2364) hx hb dL_law_449 (by decide) ?_
    exact W.widen (by omega) (by omega) (kk _ _ _ _ _ _ _ _ _ hI2 h ls (lv_sub hl [1, 2, 3, 4, 5, 6] rfl))
  · refine lv_aload_n (pc := 392) hx hb dL_law_392 rfl (lv_at hl 1 rfl) ?_
    refine lv_aload_n (pc := 393) hx hb dL_law_393 rfl (lv_at hl 0 rfl) ?_
    refine lv_iload (pc := 394) hx hb dL_law_394 (lv_at hl 5 rfl) ?_
    refine lv_iconst (pc := 396) (v := 1) hx hb dL_law_396 (by decide) ?_
    refine lv_iadd (pc := 397) hx hb dL_law_397 ?_
    refine va_sld (pc := 398) hx hb hscr hbl hbA h.2.2.1 hi1 dL_law_398 ?_
    refine lv_aload_n (pc := 399) hx hb dL_law_399 rfl (lv_at hl 0 rfl) ?_
    refine lv_iload (pc := 400) hx hb dL_law_400 (lv_at hl 5 rfl) ?_
    refine lv_iconst (pc := 402) (v := 2) hx hb dL_law_402 (by decide) ?_
    refine lv_iadd (pc := 403) hx hb dL_law_403 ?_
    refine va_sld (pc := 404) hx hb hscr hbl hbA h.2.2.1 hi2 dL_law_404 ?_
    refine lv_aload_n (pc := 405) hx hb dL_law_405 rfl (lv_at hl 0 rfl) ?_
    refine lv_iload (pc := 406) hx hb dL_law_406 (lv_at hl 5 rfl) ?_
    refine lv_iconst (pc := 408) (v := 3) hx hb dL_law_408 (by decide) ?_
    refine lv_iadd (pc := 409) hx hb dL_law_409 ?_
    refine va_sld (pc := 410) hx hb hscr hbl hbA h.2.2.1 hi3 dL_law_410 ?_
    refine call_W (pc := 411) (rest := []) (As := [.ref (q0 0), .int (xs (i + 1).toNatClampNeg), .int (xs (i + 2).toNatClampNeg), .int (xs (i + 3).toNatClampNeg)]) (ws' := wL n q0 q qm cA σ0 σ τ o o2 f f2) C hl0 hX hN h (wT_setTimes_2 hn σ0 σ (xs (i + 1).toNatClampNeg) (xs (i + 2).toNatClampNeg) (xs (i + 3).toNatClampNeg) hf) cx_L_142 (wL_S ..) (wL_S n q0 q qm cA σ0 σ τ o o2 f f2).symm rfl rfl rfl hl.1 (Nat.le_of_ble_eq_true rfl) dL_law_411 ⟨(Nat.le_of_ble_eq_true rfl), (Nat.le_of_ble_eq_true rfl)⟩ rfl rfl ⟨by show cells + 1 ≤ 601024; omega, by show slots + 6 ≤ 7293034; omega⟩ (fun H locs h => ?_)
    refine W.eq (g2 := F0 m 414 ls [.int 3]) rfl ?_
    refine lv_istore (pc := 414) (lv' := [(6, .int 3), (0, .ref b), (1, .ref (q0 0)), (2, .ref (qm 0)), (3, .ref o), (4, .ref o2), (5, .int i)]) hx hb dL_law_414 hl (by decide) rfl (fun ls hl => ?_)
    refine lv_aload_n (pc := 416) hx hb dL_law_416 rfl (lv_at hl 3 rfl) ?_
    refine lv_aload_n (pc := 417) hx hb dL_law_417 rfl (lv_at hl 1 rfl) ?_
    refine lv_iload (pc := 418) hx hb dL_law_418 (lv_at hl 6 rfl) ?_
    refine lv_iconst (pc := 420) (v := 1) hx hb dL_law_420 (by decide) ?_
    refine lv_iadd (pc := 421) hx hb dL_law_421 ?_
    refine va_sld (pc := 422) hx hb hscr hbl hbA h.2.2.1 hi1 dL_law_422 ?_
    refine lv_aload_n (pc := 423) hx hb dL_law_423 rfl (lv_at hl 1 rfl) ?_
    refine lv_iload (pc := 424) hx hb dL_law_424 (lv_at hl 6 rfl) ?_
    refine lv_iconst (pc := 426) (v := 2) hx hb dL_law_426 (by decide) ?_
    refine lv_iadd (pc := 427) hx hb dL_law_427 ?_
    refine va_sld (pc := 428) hx hb hscr hbl hbA h.2.2.1 hi2 dL_law_428 ?_
    refine lv_aload_n (pc := 429) hx hb dL_law_429 rfl (lv_at hl 1 rfl) ?_
    refine lv_iload (pc := 430) hx hb dL_law_430 (lv_at hl 6 rfl) ?_
    refine lv_iconst (pc := 432) (v := 3) hx hb dL_law_432 (by decide) ?_
    refine lv_iadd (pc := 433) hx hb dL_law_433 ?_
    refine va_sld (pc := 434) hx hb hscr hbl hbA h.2.2.1 hi3 dL_law_434 ?_
    refine call_VUp (pc := 435) (rest := []) (As := [.int (xs (i + 1).toNatClampNeg), .int (xs (i + 2).toNatClampNeg), .int (xs (i + 3).toNatClampNeg)]) (wc' := mW qm cA τ') (ws' := wL n q0 q qm cA σ0 σ τ' o o2 f f2) C h (k_X5_setTimes (q := qm) τ (xs (i + 1).toNatClampNeg) (xs (i + 2).toNatClampNeg) (xs (i + 3).toNatClampNeg) h5) cm_L_145 (mW_c0 ..) rfl (wL_M ..) (wL_M n q0 q qm cA σ0 σ τ' o o2 f f2).symm (mW_fst ..) rfl rfl hl.1 (Nat.le_of_ble_eq_true rfl) dL_law_435 ⟨(Nat.le_of_ble_eq_true rfl), (Nat.le_of_ble_eq_true rfl)⟩ rfl rfl ⟨by show _ ≤ 601024; omega, by show _ ≤ 7293034; omega⟩ (fun H locs h => ?_)
    refine W.eq (g2 := F0 m 438 ls []) rfl ?_
    refine lv_aload_n (pc := 438) hx hb dL_law_438 rfl (lv_at hl 3 rfl) ?_
    refine call_VRp (pc := 439) (rest := []) (As := []) C h (k_X5_thrown (q := qm) τ' rfl) cm_L_131 (mW_c0 ..) rfl (wL_M ..) rfl rfl hl.1 (Nat.le_of_ble_eq_true rfl) dL_law_439 ⟨(Nat.le_of_ble_eq_true rfl), (Nat.le_of_ble_eq_true rfl)⟩ rfl rfl ⟨by show _ ≤ 601024; omega, by show _ ≤ 7293034; omega⟩ (fun H locs h => ?_)
    refine W.eq (g2 := F0 m 442 ls [.int (τ' 24 0)]) rfl ?_
    refine lv_iload (pc := 442) hx hb dL_law_442 (lv_at hl 0 rfl) ?_
    refine lv_icmp_eq (pc := 444) (tgt := 449) hx hb dL_law_444 (by decide) (fun _ => ?_) (fun c9 => absurd hthr c9)
    refine lv_goto (pc := 449) (tgt := 2364) hx hb dL_law_449 (by decide) ?_
    exact W.widen (by omega) (by omega) (kk _ _ _ _ _ _ _ _ _ hI2 h ls (lv_sub hl [1, 2, 3, 4, 5, 6] rfl))
set_option maxHeartbeats 1000000 in
set_option maxRecDepth 100000 in
theorem law_send {Inv : IT} (hn6 : ∀ t n σ0 σ τ, Inv t n σ0 σ τ → n ≤ 6) (S : SA_send Inv) {t n : Nat} {q0 : Nat → Nat} {q : Nat → Nat → Nat} {qm : Nat → Nat} {σ0 τ : Nat → Nat → Int32} {σ : Nat → Nat → Nat → Int32} {o o2 : Nat} {f : Nat → Int64} {f2 : Nat → UInt64} {i : Int32} (ht : t < 512) (hI : Inv t n σ0 σ τ)
    (X : LX p l s m args meth c D cA b L xs) (h : St D (nA s) s.heap (wL n q0 q qm cA σ0 σ τ o o2 f f2) H locs) (hi : HI i L) (hl : lv_has ls 8 (L0 b (q0 0) (qm 0) o o2 i)) (hc : cells + 20 ≤ 601024) (hs : slots + 263 ≤ 7293034)
    (kk : LK p l e s m args below meth c D cA b q0 qm o o2 Inv t i cells slots Q) : W p l e room_1 s m args below meth c H locs cells slots Q (F0 m 452 ls []) := by
  obtain ⟨C, hl0, hX, hN, hscr, hbl⟩ := X
  obtain ⟨hi0, hi1, hi2, hi3, hi4, hi5⟩ := hi
  obtain ⟨hx, hb, hml, hown, hts, hK, hlk⟩ := id C
  have hbA : ¬ nA s b := Nat.not_le.mpr hbl
  have hn := hn6 _ _ _ _ _ hI
  obtain ⟨w, τ', h5, ⟨σ0', σ', hf, hI2, hthr⟩ | ⟨hf, hI2, hthr⟩ | ⟨hf, hI2, hthr⟩⟩ := S _ _ _ _ _ _ ht hI
  · refine lv_aload_n (pc := 452) hx hb dL_law_452 rfl (lv_at hl 1 rfl) ?_
    refine lv_aload_n (pc := 453) hx hb dL_law_453 rfl (lv_at hl 0 rfl) ?_
    refine lv_iload (pc := 454) hx hb dL_law_454 (lv_at hl 5 rfl) ?_
    refine lv_iconst (pc := 456) (v := 1) hx hb dL_law_456 (by decide) ?_
    refine lv_iadd (pc := 457) hx hb dL_law_457 ?_
    refine va_sld (pc := 458) hx hb hscr hbl hbA h.2.2.1 hi1 dL_law_458 ?_
    refine lv_aload_n (pc := 459) hx hb dL_law_459 rfl (lv_at hl 3 rfl) ?_
    refine call_W (pc := 460) (rest := []) (As := [.ref (q0 0), .int (xs (i + 1).toNatClampNeg), .ref o]) (ws' := wL n q0 q qm cA σ0' σ' τ o o2 (vp_updL f 0 w.toInt64) f2) C hl0 hX hN h (w_send hn σ0 σ (xs (i + 1).toNatClampNeg) hf o f) cx_L_146 (wL_L ..) (wL_L n q0 q qm cA σ0' σ' τ o o2 (vp_updL f 0 w.toInt64) f2).symm (xL_fst ..) rfl rfl hl.1 (Nat.le_of_ble_eq_true rfl) dL_law_460 ⟨(Nat.le_of_ble_eq_true rfl), (Nat.le_of_ble_eq_true rfl)⟩ rfl rfl ⟨by show cells + 1 ≤ 601024; omega, by show slots + 6 ≤ 7293034; omega⟩ (fun H locs h => ?_)
    refine W.eq (g2 := F0 m 463 ls [.int 0]) rfl ?_
    refine lv_istore (pc := 463) (lv' := [(6, .int 0), (0, .ref b), (1, .ref (q0 0)), (2, .ref (qm 0)), (3, .ref o), (4, .ref o2), (5, .int i)]) hx hb dL_law_463 hl (by decide) rfl (fun ls hl => ?_)
    refine lv_aload_n (pc := 465) hx hb dL_law_465 rfl (lv_at hl 3 rfl) ?_
    refine lv_aload_n (pc := 466) hx hb dL_law_466 rfl (lv_at hl 1 rfl) ?_
    refine lv_iload (pc := 467) hx hb dL_law_467 (lv_at hl 6 rfl) ?_
    refine lv_iconst (pc := 469) (v := 1) hx hb dL_law_469 (by decide) ?_
    refine lv_iadd (pc := 470) hx hb dL_law_470 ?_
    refine va_sld (pc := 471) hx hb hscr hbl hbA h.2.2.1 hi1 dL_law_471 ?_
    refine call_VUp (pc := 472) (rest := []) (As := [.int (xs (i + 1).toNatClampNeg)]) (wc' := mW qm cA τ') (ws' := wL n q0 q qm cA σ0' σ' τ' o o2 (vp_updL f 0 w.toInt64) f2) C h (k_X5_send (q := qm) τ (xs (i + 1).toNatClampNeg) h5) cm_L_149 (mW_c0 ..) rfl (wL_M ..) (wL_M n q0 q qm cA σ0' σ' τ' o o2 (vp_updL f 0 w.toInt64) f2).symm (mW_fst ..) rfl rfl hl.1 (Nat.le_of_ble_eq_true rfl) dL_law_472 ⟨(Nat.le_of_ble_eq_true rfl), (Nat.le_of_ble_eq_true rfl)⟩ rfl rfl ⟨by show _ ≤ 601024; omega, by show _ ≤ 7293034; omega⟩ (fun H locs h => ?_)
    refine W.eq (g2 := F0 m 475 ls [.int w]) rfl ?_
    refine lv_istore (pc := 475) (lv' := [(7, .int w), (6, .int 0), (0, .ref b), (1, .ref (q0 0)), (2, .ref (qm 0)), (3, .ref o), (4, .ref o2), (5, .int i)]) hx hb dL_law_475 hl (by decide) rfl (fun ls hl => ?_)
    refine lv_aload_n (pc := 477) hx hb dL_law_477 rfl (lv_at hl 4 rfl) ?_
    refine call_VRp (pc := 478) (rest := []) (As := []) C h (k_X5_thrown (q := qm) τ' rfl) cm_L_131 (mW_c0 ..) rfl (wL_M ..) rfl rfl hl.1 (Nat.le_of_ble_eq_true rfl) dL_law_478 ⟨(Nat.le_of_ble_eq_true rfl), (Nat.le_of_ble_eq_true rfl)⟩ rfl rfl ⟨by show _ ≤ 601024; omega, by show _ ≤ 7293034; omega⟩ (fun H locs h => ?_)
    refine W.eq (g2 := F0 m 481 ls [.int (τ' 24 0)]) rfl ?_
    refine lv_iload (pc := 481) hx hb dL_law_481 (lv_at hl 1 rfl) ?_
    refine lv_icmp_eq (pc := 483) (tgt := 488) hx hb dL_law_483 (by decide) (fun _ => ?_) (fun c9 => absurd hthr c9)
    refine lv_iload (pc := 488) hx hb dL_law_488 (lv_at hl 1 rfl) ?_
    refine lv_if_ne (pc := 490) (tgt := 505) hx hb dL_law_490 (by decide) (fun c9 => absurd rfl c9) (fun _ => ?_)
    refine lv_aload_n (pc := 493) hx hb dL_law_493 rfl (lv_at hl 5 rfl) ?_
    refine lv_iconst (pc := 494) (v := 0) hx hb dL_law_494 (by decide) ?_
    refine va_lald (pc := 495) hx hb hK.1 h.1 0 3 (wL_o ..) rfl (show inb (0 : Int32) 1 from by decide) dL_law_495 ?_
    refine W.eq (g2 := F0 m 496 ls [.long w.toInt64]) rfl ?_
    refine lv_iload (pc := 496) hx hb dL_law_496 (lv_at hl 0 rfl) ?_
    refine lv_i2l (pc := 498) (v := w.toInt64) hx hb dL_law_498 rfl ?_
    refine W.lcmp (pc := 499) hx hb dL_law_499 ?_
    rw [cmp_self]
    refine lv_if_eq (pc := 500) (tgt := 505) hx hb dL_law_500 (by decide) (fun _ => ?_) (fun c9 => absurd rfl c9)
    refine lv_goto (pc := 505) (tgt := 2364) hx hb dL_law_505 (by decide) ?_
    exact W.widen (by omega) (by omega) (kk _ _ _ _ _ _ _ _ _ hI2 h ls (lv_sub hl [2, 3, 4, 5, 6, 7] rfl))
  · refine lv_aload_n (pc := 452) hx hb dL_law_452 rfl (lv_at hl 1 rfl) ?_
    refine lv_aload_n (pc := 453) hx hb dL_law_453 rfl (lv_at hl 0 rfl) ?_
    refine lv_iload (pc := 454) hx hb dL_law_454 (lv_at hl 5 rfl) ?_
    refine lv_iconst (pc := 456) (v := 1) hx hb dL_law_456 (by decide) ?_
    refine lv_iadd (pc := 457) hx hb dL_law_457 ?_
    refine va_sld (pc := 458) hx hb hscr hbl hbA h.2.2.1 hi1 dL_law_458 ?_
    refine lv_aload_n (pc := 459) hx hb dL_law_459 rfl (lv_at hl 3 rfl) ?_
    refine call_W (pc := 460) (rest := []) (As := [.ref (q0 0), .int (xs (i + 1).toNatClampNeg), .ref o]) (ws' := wL n q0 q qm cA σ0 σ τ o o2 f f2) C hl0 hX hN h (wT_send_0 hn σ0 σ (xs (i + 1).toNatClampNeg) hf o f) cx_L_146 (wL_L ..) (wL_L n q0 q qm cA σ0 σ τ o o2 f f2).symm rfl rfl rfl hl.1 (Nat.le_of_ble_eq_true rfl) dL_law_460 ⟨(Nat.le_of_ble_eq_true rfl), (Nat.le_of_ble_eq_true rfl)⟩ rfl rfl ⟨by show cells + 1 ≤ 601024; omega, by show slots + 6 ≤ 7293034; omega⟩ (fun H locs h => ?_)
    refine W.eq (g2 := F0 m 463 ls [.int 1]) rfl ?_
    refine lv_istore (pc := 463) (lv' := [(6, .int 1), (0, .ref b), (1, .ref (q0 0)), (2, .ref (qm 0)), (3, .ref o), (4, .ref o2), (5, .int i)]) hx hb dL_law_463 hl (by decide) rfl (fun ls hl => ?_)
    refine lv_aload_n (pc := 465) hx hb dL_law_465 rfl (lv_at hl 3 rfl) ?_
    refine lv_aload_n (pc := 466) hx hb dL_law_466 rfl (lv_at hl 1 rfl) ?_
    refine lv_iload (pc := 467) hx hb dL_law_467 (lv_at hl 6 rfl) ?_
    refine lv_iconst (pc := 469) (v := 1) hx hb dL_law_469 (by decide) ?_
    refine lv_iadd (pc := 470) hx hb dL_law_470 ?_
    refine va_sld (pc := 471) hx hb hscr hbl hbA h.2.2.1 hi1 dL_law_471 ?_
    refine call_VUp (pc := 472) (rest := []) (As := [.int (xs (i + 1).toNatClampNeg)]) (wc' := mW qm cA τ') (ws' := wL n q0 q qm cA σ0 σ τ' o o2 f f2) C h (k_X5_send (q := qm) τ (xs (i + 1).toNatClampNeg) h5) cm_L_149 (mW_c0 ..) rfl (wL_M ..) (wL_M n q0 q qm cA σ0 σ τ' o o2 f f2).symm (mW_fst ..) rfl rfl hl.1 (Nat.le_of_ble_eq_true rfl) dL_law_472 ⟨(Nat.le_of_ble_eq_true rfl), (Nat.le_of_ble_eq_true rfl)⟩ rfl rfl ⟨by show _ ≤ 601024; omega, by show _ ≤ 7293034; omega⟩ (fun H locs h => ?_)
    refine W.eq (g2 := F0 m 475 ls [.int w]) rfl ?_
    refine lv_istore (pc := 475) (lv' := [(7, .int w), (6, .int 1), (0, .ref b), (1, .ref (q0 0)), (2, .ref (qm 0)), (3, .ref o), (4, .ref o2), (5, .int i)]) hx hb dL_law_475 hl (by decide) rfl (fun ls hl => ?_)
    refine lv_aload_n (pc := 477) hx hb dL_law_477 rfl (lv_at hl 4 rfl) ?_
    refine call_VRp (pc := 478) (rest := []) (As := []) C h (k_X5_thrown (q := qm) τ' rfl) cm_L_131 (mW_c0 ..) rfl (wL_M ..) rfl rfl hl.1 (Nat.le_of_ble_eq_true rfl) dL_law_478 ⟨(Nat.le_of_ble_eq_true rfl), (Nat.le_of_ble_eq_true rfl)⟩ rfl rfl ⟨by show _ ≤ 601024; omega, by show _ ≤ 7293034; omega⟩ (fun H locs h => ?_)
    refine W.eq (g2 := F0 m 481 ls [.int (τ' 24 0)]) rfl ?_
    refine lv_iload (pc := 481) hx hb dL_law_481 (lv_at hl 1 rfl) ?_
    refine lv_icmp_eq (pc := 483) (tgt := 488) hx hb dL_law_483 (by decide) (fun _ => ?_) (fun c9 => absurd hthr c9)
    refine lv_iload (pc := 488) hx hb dL_law_488 (lv_at hl 1 rfl) ?_
    refine lv_if_ne (pc := 490) (tgt := 505) hx hb dL_law_490 (by decide) (fun _ => ?_) (fun c9 => absurd c9 (by decide))
    refine lv_goto (pc := 505) (tgt := 2364) hx hb dL_law_505 (by decide) ?_
    exact W.widen (by omega) (by omega) (kk _ _ _ _ _ _ _ _ _ hI2 h ls (lv_sub hl [2, 3, 4, 5, 6, 7] rfl))
  · refine lv_aload_n (pc := 452) hx hb dL_law_452 rfl (lv_at hl 1 rfl) ?_
    refine lv_aload_n (pc := 453) hx hb dL_law_453 rfl (lv_at hl 0 rfl) ?_
    refine lv_iload (pc := 454) hx hb dL_law_454 (lv_at hl 5 rfl) ?_
    refine lv_iconst (pc := 456) (v := 1) hx hb dL_law_456 (by decide) ?_
    refine lv_iadd (pc := 457) hx hb dL_law_457 ?_
    refine va_sld (pc := 458) hx hb hscr hbl hbA h.2.2.1 hi1 dL_law_458 ?_
    refine lv_aload_n (pc := 459) hx hb dL_law_459 rfl (lv_at hl 3 rfl) ?_
    refine call_W (pc := 460) (rest := []) (As := [.ref (q0 0), .int (xs (i + 1).toNatClampNeg), .ref o]) (ws' := wL n q0 q qm cA σ0 σ τ o o2 f f2) C hl0 hX hN h (wT_send_1 hn σ0 σ (xs (i + 1).toNatClampNeg) hf o f) cx_L_146 (wL_L ..) (wL_L n q0 q qm cA σ0 σ τ o o2 f f2).symm rfl rfl rfl hl.1 (Nat.le_of_ble_eq_true rfl) dL_law_460 ⟨(Nat.le_of_ble_eq_true rfl), (Nat.le_of_ble_eq_true rfl)⟩ rfl rfl ⟨by show cells + 1 ≤ 601024; omega, by show slots + 6 ≤ 7293034; omega⟩ (fun H locs h => ?_)
    refine W.eq (g2 := F0 m 463 ls [.int 2]) rfl ?_
    refine lv_istore (pc := 463) (lv' := [(6, .int 2), (0, .ref b), (1, .ref (q0 0)), (2, .ref (qm 0)), (3, .ref o), (4, .ref o2), (5, .int i)]) hx hb dL_law_463 hl (by decide) rfl (fun ls hl => ?_)
    refine lv_aload_n (pc := 465) hx hb dL_law_465 rfl (lv_at hl 3 rfl) ?_
    refine lv_aload_n (pc := 466) hx hb dL_law_466 rfl (lv_at hl 1 rfl) ?_
    refine lv_iload (pc := 467) hx hb dL_law_467 (lv_at hl 6 rfl) ?_
    refine lv_iconst (pc := 469) (v := 1) hx hb dL_law_469 (by decide) ?_
    refine lv_iadd (pc := 470) hx hb dL_law_470 ?_
    refine va_sld (pc := 471) hx hb hscr hbl hbA h.2.2.1 hi1 dL_law_471 ?_
    refine call_VUp (pc := 472) (rest := []) (As := [.int (xs (i + 1).toNatClampNeg)]) (wc' := mW qm cA τ') (ws' := wL n q0 q qm cA σ0 σ τ' o o2 f f2) C h (k_X5_send (q := qm) τ (xs (i + 1).toNatClampNeg) h5) cm_L_149 (mW_c0 ..) rfl (wL_M ..) (wL_M n q0 q qm cA σ0 σ τ' o o2 f f2).symm (mW_fst ..) rfl rfl hl.1 (Nat.le_of_ble_eq_true rfl) dL_law_472 ⟨(Nat.le_of_ble_eq_true rfl), (Nat.le_of_ble_eq_true rfl)⟩ rfl rfl ⟨by show _ ≤ 601024; omega, by show _ ≤ 7293034; omega⟩ (fun H locs h => ?_)
    refine W.eq (g2 := F0 m 475 ls [.int w]) rfl ?_
    refine lv_istore (pc := 475) (lv' := [(7, .int w), (6, .int 2), (0, .ref b), (1, .ref (q0 0)), (2, .ref (qm 0)), (3, .ref o), (4, .ref o2), (5, .int i)]) hx hb dL_law_475 hl (by decide) rfl (fun ls hl => ?_)
    refine lv_aload_n (pc := 477) hx hb dL_law_477 rfl (lv_at hl 4 rfl) ?_
    refine call_VRp (pc := 478) (rest := []) (As := []) C h (k_X5_thrown (q := qm) τ' rfl) cm_L_131 (mW_c0 ..) rfl (wL_M ..) rfl rfl hl.1 (Nat.le_of_ble_eq_true rfl) dL_law_478 ⟨(Nat.le_of_ble_eq_true rfl), (Nat.le_of_ble_eq_true rfl)⟩ rfl rfl ⟨by show _ ≤ 601024; omega, by show _ ≤ 7293034; omega⟩ (fun H locs h => ?_)
    refine W.eq (g2 := F0 m 481 ls [.int (τ' 24 0)]) rfl ?_
    refine lv_iload (pc := 481) hx hb dL_law_481 (lv_at hl 1 rfl) ?_
    refine lv_icmp_eq (pc := 483) (tgt := 488) hx hb dL_law_483 (by decide) (fun _ => ?_) (fun c9 => absurd hthr c9)
    refine lv_iload (pc := 488) hx hb dL_law_488 (lv_at hl 1 rfl) ?_
    refine lv_if_ne (pc := 490) (tgt := 505) hx hb dL_law_490 (by decide) (fun _ => ?_) (fun c9 => absurd c9 (by decide))
    refine lv_goto (pc := 505) (tgt := 2364) hx hb dL_law_505 (by decide) ?_
    exact W.widen (by omega) (by omega) (kk _ _ _ _ _ _ _ _ _ hI2 h ls (lv_sub hl [2, 3, 4, 5, 6, 7] rfl))
set_option maxHeartbeats 1000000 in
set_option maxRecDepth 100000 in
theorem law_sign {Inv : IT} (hn6 : ∀ t n σ0 σ τ, Inv t n σ0 σ τ → n ≤ 6) (S : SA_sign Inv) {t n : Nat} {q0 : Nat → Nat} {q : Nat → Nat → Nat} {qm : Nat → Nat} {σ0 τ : Nat → Nat → Int32} {σ : Nat → Nat → Nat → Int32} {o o2 : Nat} {f : Nat → Int64} {f2 : Nat → UInt64} {i : Int32} (ht : t < 512) (hI : Inv t n σ0 σ τ)
    (X : LX p l s m args meth c D cA b L xs) (h : St D (nA s) s.heap (wL n q0 q qm cA σ0 σ τ o o2 f f2) H locs) (hi : HI i L) (hl : lv_has ls 8 (L0 b (q0 0) (qm 0) o o2 i)) (hc : cells + 20 ≤ 601024) (hs : slots + 263 ≤ 7293034)
    (kk : LK p l e s m args below meth c D cA b q0 qm o o2 Inv t i cells slots Q) : W p l e room_1 s m args below meth c H locs cells slots Q (F0 m 508 ls []) := by
  obtain ⟨C, hl0, hX, hN, hscr, hbl⟩ := X
  obtain ⟨hi0, hi1, hi2, hi3, hi4, hi5⟩ := hi
  obtain ⟨hx, hb, hml, hown, hts, hK, hlk⟩ := id C
  have hbA : ¬ nA s b := Nat.not_le.mpr hbl
  have hn := hn6 _ _ _ _ _ hI
  obtain ⟨w, τ', h5, ⟨σ0', σ', hf, hI2, hthr⟩ | ⟨hf, hI2, hthr⟩ | ⟨hf, hI2, hthr⟩⟩ := S _ _ _ _ _ _ _ _ ht hI
  · refine lv_aload_n (pc := 508) hx hb dL_law_508 rfl (lv_at hl 1 rfl) ?_
    refine lv_aload_n (pc := 509) hx hb dL_law_509 rfl (lv_at hl 0 rfl) ?_
    refine lv_iload (pc := 510) hx hb dL_law_510 (lv_at hl 5 rfl) ?_
    refine lv_iconst (pc := 512) (v := 1) hx hb dL_law_512 (by decide) ?_
    refine lv_iadd (pc := 513) hx hb dL_law_513 ?_
    refine va_sld (pc := 514) hx hb hscr hbl hbA h.2.2.1 hi1 dL_law_514 ?_
    refine lv_aload_n (pc := 515) hx hb dL_law_515 rfl (lv_at hl 0 rfl) ?_
    refine lv_iload (pc := 516) hx hb dL_law_516 (lv_at hl 5 rfl) ?_
    refine lv_iconst (pc := 518) (v := 2) hx hb dL_law_518 (by decide) ?_
    refine lv_iadd (pc := 519) hx hb dL_law_519 ?_
    refine va_sld (pc := 520) hx hb hscr hbl hbA h.2.2.1 hi2 dL_law_520 ?_
    refine lv_aload_n (pc := 521) hx hb dL_law_521 rfl (lv_at hl 0 rfl) ?_
    refine lv_iload (pc := 522) hx hb dL_law_522 (lv_at hl 5 rfl) ?_
    refine lv_iconst (pc := 524) (v := 3) hx hb dL_law_524 (by decide) ?_
    refine lv_iadd (pc := 525) hx hb dL_law_525 ?_
    refine va_sld (pc := 526) hx hb hscr hbl hbA h.2.2.1 hi3 dL_law_526 ?_
    refine lv_aload_n (pc := 527) hx hb dL_law_527 rfl (lv_at hl 3 rfl) ?_
    refine call_W (pc := 528) (rest := []) (As := [.ref (q0 0), .int (xs (i + 1).toNatClampNeg), .int (xs (i + 2).toNatClampNeg), .int (xs (i + 3).toNatClampNeg), .ref o]) (ws' := wL n q0 q qm cA σ0' σ' τ o o2 (vp_updL f 0 w.toInt64) f2) C hl0 hX hN h (w_sign hn σ0 σ (xs (i + 1).toNatClampNeg) (xs (i + 2).toNatClampNeg) (xs (i + 3).toNatClampNeg) hf o f) cx_L_150 (wL_L ..) (wL_L n q0 q qm cA σ0' σ' τ o o2 (vp_updL f 0 w.toInt64) f2).symm (xL_fst ..) rfl rfl hl.1 (Nat.le_of_ble_eq_true rfl) dL_law_528 ⟨(Nat.le_of_ble_eq_true rfl), (Nat.le_of_ble_eq_true rfl)⟩ rfl rfl ⟨by show cells + 1 ≤ 601024; omega, by show slots + 6 ≤ 7293034; omega⟩ (fun H locs h => ?_)
    refine W.eq (g2 := F0 m 531 ls [.int 0]) rfl ?_
    refine lv_istore (pc := 531) (lv' := [(6, .int 0), (0, .ref b), (1, .ref (q0 0)), (2, .ref (qm 0)), (3, .ref o), (4, .ref o2), (5, .int i)]) hx hb dL_law_531 hl (by decide) rfl (fun ls hl => ?_)
    refine lv_aload_n (pc := 533) hx hb dL_law_533 rfl (lv_at hl 3 rfl) ?_
    refine lv_aload_n (pc := 534) hx hb dL_law_534 rfl (lv_at hl 1 rfl) ?_
    refine lv_iload (pc := 535) hx hb dL_law_535 (lv_at hl 6 rfl) ?_
    refine lv_iconst (pc := 537) (v := 1) hx hb dL_law_537 (by decide) ?_
    refine lv_iadd (pc := 538) hx hb dL_law_538 ?_
    refine va_sld (pc := 539) hx hb hscr hbl hbA h.2.2.1 hi1 dL_law_539 ?_
    refine lv_aload_n (pc := 540) hx hb dL_law_540 rfl (lv_at hl 1 rfl) ?_
    refine lv_iload (pc := 541) hx hb dL_law_541 (lv_at hl 6 rfl) ?_
    refine lv_iconst (pc := 543) (v := 2) hx hb dL_law_543 (by decide) ?_
    refine lv_iadd (pc := 544) hx hb dL_law_544 ?_
    refine va_sld (pc := 545) hx hb hscr hbl hbA h.2.2.1 hi2 dL_law_545 ?_
    refine lv_aload_n (pc := 546) hx hb dL_law_546 rfl (lv_at hl 1 rfl) ?_
    refine lv_iload (pc := 547) hx hb dL_law_547 (lv_at hl 6 rfl) ?_
    refine lv_iconst (pc := 549) (v := 3) hx hb dL_law_549 (by decide) ?_
    refine lv_iadd (pc := 550) hx hb dL_law_550 ?_
    refine va_sld (pc := 551) hx hb hscr hbl hbA h.2.2.1 hi3 dL_law_551 ?_
    refine call_VUp (pc := 552) (rest := []) (As := [.int (xs (i + 1).toNatClampNeg), .int (xs (i + 2).toNatClampNeg), .int (xs (i + 3).toNatClampNeg)]) (wc' := mW qm cA τ') (ws' := wL n q0 q qm cA σ0' σ' τ' o o2 (vp_updL f 0 w.toInt64) f2) C h (k_X5_sign (q := qm) τ (xs (i + 1).toNatClampNeg) (xs (i + 2).toNatClampNeg) (xs (i + 3).toNatClampNeg) h5) cm_L_152 (mW_c0 ..) rfl (wL_M ..) (wL_M n q0 q qm cA σ0' σ' τ' o o2 (vp_updL f 0 w.toInt64) f2).symm (mW_fst ..) rfl rfl hl.1 (Nat.le_of_ble_eq_true rfl) dL_law_552 ⟨(Nat.le_of_ble_eq_true rfl), (Nat.le_of_ble_eq_true rfl)⟩ rfl rfl ⟨by show _ ≤ 601024; omega, by show _ ≤ 7293034; omega⟩ (fun H locs h => ?_)
    refine W.eq (g2 := F0 m 555 ls [.int w]) rfl ?_
    refine lv_istore (pc := 555) (lv' := [(7, .int w), (6, .int 0), (0, .ref b), (1, .ref (q0 0)), (2, .ref (qm 0)), (3, .ref o), (4, .ref o2), (5, .int i)]) hx hb dL_law_555 hl (by decide) rfl (fun ls hl => ?_)
    refine lv_aload_n (pc := 557) hx hb dL_law_557 rfl (lv_at hl 4 rfl) ?_
    refine call_VRp (pc := 558) (rest := []) (As := []) C h (k_X5_thrown (q := qm) τ' rfl) cm_L_131 (mW_c0 ..) rfl (wL_M ..) rfl rfl hl.1 (Nat.le_of_ble_eq_true rfl) dL_law_558 ⟨(Nat.le_of_ble_eq_true rfl), (Nat.le_of_ble_eq_true rfl)⟩ rfl rfl ⟨by show _ ≤ 601024; omega, by show _ ≤ 7293034; omega⟩ (fun H locs h => ?_)
    refine W.eq (g2 := F0 m 561 ls [.int (τ' 24 0)]) rfl ?_
    refine lv_iload (pc := 561) hx hb dL_law_561 (lv_at hl 1 rfl) ?_
    refine lv_icmp_eq (pc := 563) (tgt := 568) hx hb dL_law_563 (by decide) (fun _ => ?_) (fun c9 => absurd hthr c9)
    refine lv_iload (pc := 568) hx hb dL_law_568 (lv_at hl 1 rfl) ?_
    refine lv_if_ne (pc := 570) (tgt := 585) hx hb dL_law_570 (by decide) (fun c9 => absurd rfl c9) (fun _ => ?_)
    refine lv_aload_n (pc := 573) hx hb dL_law_573 rfl (lv_at hl 5 rfl) ?_
    refine lv_iconst (pc := 574) (v := 0) hx hb dL_law_574 (by decide) ?_
    refine va_lald (pc := 575) hx hb hK.1 h.1 0 3 (wL_o ..) rfl (show inb (0 : Int32) 1 from by decide) dL_law_575 ?_
    refine W.eq (g2 := F0 m 576 ls [.long w.toInt64]) rfl ?_
    refine lv_iload (pc := 576) hx hb dL_law_576 (lv_at hl 0 rfl) ?_
    refine lv_i2l (pc := 578) (v := w.toInt64) hx hb dL_law_578 rfl ?_
    refine W.lcmp (pc := 579) hx hb dL_law_579 ?_
    rw [cmp_self]
    refine lv_if_eq (pc := 580) (tgt := 585) hx hb dL_law_580 (by decide) (fun _ => ?_) (fun c9 => absurd rfl c9)
    refine lv_goto (pc := 585) (tgt := 2364) hx hb dL_law_585 (by decide) ?_
    exact W.widen (by omega) (by omega) (kk _ _ _ _ _ _ _ _ _ hI2 h ls (lv_sub hl [2, 3, 4, 5, 6, 7] rfl))
  · refine lv_aload_n (pc := 508) hx hb dL_law_508 rfl (lv_at hl 1 rfl) ?_
    refine lv_aload_n (pc := 509) hx hb dL_law_509 rfl (lv_at hl 0 rfl) ?_
    refine lv_iload (pc := 510) hx hb dL_law_510 (lv_at hl 5 rfl) ?_
    refine lv_iconst (pc := 512) (v := 1) hx hb dL_law_512 (by decide) ?_
    refine lv_iadd (pc := 513) hx hb dL_law_513 ?_
    refine va_sld (pc := 514) hx hb hscr hbl hbA h.2.2.1 hi1 dL_law_514 ?_
    refine lv_aload_n (pc := 515) hx hb dL_law_515 rfl (lv_at hl 0 rfl) ?_
    refine lv_iload (pc := 516) hx hb dL_law_516 (lv_at hl 5 rfl) ?_
    refine lv_iconst (pc := 518) (v := 2) hx hb dL_law_518 (by decide) ?_
    refine lv_iadd (pc := 519) hx hb dL_law_519 ?_
    refine va_sld (pc := 520) hx hb hscr hbl hbA h.2.2.1 hi2 dL_law_520 ?_
    refine lv_aload_n (pc := 521) hx hb dL_law_521 rfl (lv_at hl 0 rfl) ?_
    refine lv_iload (pc := 522) hx hb dL_law_522 (lv_at hl 5 rfl) ?_
    refine lv_iconst (pc := 524) (v := 3) hx hb dL_law_524 (by decide) ?_
    refine lv_iadd (pc := 525) hx hb dL_law_525 ?_
    refine va_sld (pc := 526) hx hb hscr hbl hbA h.2.2.1 hi3 dL_law_526 ?_
    refine lv_aload_n (pc := 527) hx hb dL_law_527 rfl (lv_at hl 3 rfl) ?_
    refine call_W (pc := 528) (rest := []) (As := [.ref (q0 0), .int (xs (i + 1).toNatClampNeg), .int (xs (i + 2).toNatClampNeg), .int (xs (i + 3).toNatClampNeg), .ref o]) (ws' := wL n q0 q qm cA σ0 σ τ o o2 f f2) C hl0 hX hN h (wT_sign_0 hn σ0 σ (xs (i + 1).toNatClampNeg) (xs (i + 2).toNatClampNeg) (xs (i + 3).toNatClampNeg) hf o f) cx_L_150 (wL_L ..) (wL_L n q0 q qm cA σ0 σ τ o o2 f f2).symm rfl rfl rfl hl.1 (Nat.le_of_ble_eq_true rfl) dL_law_528 ⟨(Nat.le_of_ble_eq_true rfl), (Nat.le_of_ble_eq_true rfl)⟩ rfl rfl ⟨by show cells + 1 ≤ 601024; omega, by show slots + 6 ≤ 7293034; omega⟩ (fun H locs h => ?_)
    refine W.eq (g2 := F0 m 531 ls [.int 1]) rfl ?_
    refine lv_istore (pc := 531) (lv' := [(6, .int 1), (0, .ref b), (1, .ref (q0 0)), (2, .ref (qm 0)), (3, .ref o), (4, .ref o2), (5, .int i)]) hx hb dL_law_531 hl (by decide) rfl (fun ls hl => ?_)
    refine lv_aload_n (pc := 533) hx hb dL_law_533 rfl (lv_at hl 3 rfl) ?_
    refine lv_aload_n (pc := 534) hx hb dL_law_534 rfl (lv_at hl 1 rfl) ?_
    refine lv_iload (pc := 535) hx hb dL_law_535 (lv_at hl 6 rfl) ?_
    refine lv_iconst (pc := 537) (v := 1) hx hb dL_law_537 (by decide) ?_
    refine lv_iadd (pc := 538) hx hb dL_law_538 ?_
    refine va_sld (pc := 539) hx hb hscr hbl hbA h.2.2.1 hi1 dL_law_539 ?_
    refine lv_aload_n (pc := 540) hx hb dL_law_540 rfl (lv_at hl 1 rfl) ?_
    refine lv_iload (pc := 541) hx hb dL_law_541 (lv_at hl 6 rfl) ?_
    refine lv_iconst (pc := 543) (v := 2) hx hb dL_law_543 (by decide) ?_
    refine lv_iadd (pc := 544) hx hb dL_law_544 ?_
    refine va_sld (pc := 545) hx hb hscr hbl hbA h.2.2.1 hi2 dL_law_545 ?_
    refine lv_aload_n (pc := 546) hx hb dL_law_546 rfl (lv_at hl 1 rfl) ?_
    refine lv_iload (pc := 547) hx hb dL_law_547 (lv_at hl 6 rfl) ?_
    refine lv_iconst (pc := 549) (v := 3) hx hb dL_law_549 (by decide) ?_
    refine lv_iadd (pc := 550) hx hb dL_law_550 ?_
    refine va_sld (pc := 551) hx hb hscr hbl hbA h.2.2.1 hi3 dL_law_551 ?_
    refine call_VUp (pc := 552) (rest := []) (As := [.int (xs (i + 1).toNatClampNeg), .int (xs (i + 2).toNatClampNeg), .int (xs (i + 3).toNatClampNeg)]) (wc' := mW qm cA τ') (ws' := wL n q0 q qm cA σ0 σ τ' o o2 f f2) C h (k_X5_sign (q := qm) τ (xs (i + 1).toNatClampNeg) (xs (i + 2).toNatClampNeg) (xs (i + 3).toNatClampNeg) h5) cm_L_152 (mW_c0 ..) rfl (wL_M ..) (wL_M n q0 q qm cA σ0 σ τ' o o2 f f2).symm (mW_fst ..) rfl rfl hl.1 (Nat.le_of_ble_eq_true rfl) dL_law_552 ⟨(Nat.le_of_ble_eq_true rfl), (Nat.le_of_ble_eq_true rfl)⟩ rfl rfl ⟨by show _ ≤ 601024; omega, by show _ ≤ 7293034; omega⟩ (fun H locs h => ?_)
    refine W.eq (g2 := F0 m 555 ls [.int w]) rfl ?_
    refine lv_istore (pc := 555) (lv' := [(7, .int w), (6, .int 1), (0, .ref b), (1, .ref (q0 0)), (2, .ref (qm 0)), (3, .ref o), (4, .ref o2), (5, .int i)]) hx hb dL_law_555 hl (by decide) rfl (fun ls hl => ?_)
    refine lv_aload_n (pc := 557) hx hb dL_law_557 rfl (lv_at hl 4 rfl) ?_
    refine call_VRp (pc := 558) (rest := []) (As := []) C h (k_X5_thrown (q := qm) τ' rfl) cm_L_131 (mW_c0 ..) rfl (wL_M ..) rfl rfl hl.1 (Nat.le_of_ble_eq_true rfl) dL_law_558 ⟨(Nat.le_of_ble_eq_true rfl), (Nat.le_of_ble_eq_true rfl)⟩ rfl rfl ⟨by show _ ≤ 601024; omega, by show _ ≤ 7293034; omega⟩ (fun H locs h => ?_)
    refine W.eq (g2 := F0 m 561 ls [.int (τ' 24 0)]) rfl ?_
    refine lv_iload (pc := 561) hx hb dL_law_561 (lv_at hl 1 rfl) ?_
    refine lv_icmp_eq (pc := 563) (tgt := 568) hx hb dL_law_563 (by decide) (fun _ => ?_) (fun c9 => absurd hthr c9)
    refine lv_iload (pc := 568) hx hb dL_law_568 (lv_at hl 1 rfl) ?_
    refine lv_if_ne (pc := 570) (tgt := 585) hx hb dL_law_570 (by decide) (fun _ => ?_) (fun c9 => absurd c9 (by decide))
    refine lv_goto (pc := 585) (tgt := 2364) hx hb dL_law_585 (by decide) ?_
    exact W.widen (by omega) (by omega) (kk _ _ _ _ _ _ _ _ _ hI2 h ls (lv_sub hl [2, 3, 4, 5, 6, 7] rfl))
  · refine lv_aload_n (pc := 508) hx hb dL_law_508 rfl (lv_at hl 1 rfl) ?_
    refine lv_aload_n (pc := 509) hx hb dL_law_509 rfl (lv_at hl 0 rfl) ?_
    refine lv_iload (pc := 510) hx hb dL_law_510 (lv_at hl 5 rfl) ?_
    refine lv_iconst (pc := 512) (v := 1) hx hb dL_law_512 (by decide) ?_
    refine lv_iadd (pc := 513) hx hb dL_law_513 ?_
    refine va_sld (pc := 514) hx hb hscr hbl hbA h.2.2.1 hi1 dL_law_514 ?_
    refine lv_aload_n (pc := 515) hx hb dL_law_515 rfl (lv_at hl 0 rfl) ?_
    refine lv_iload (pc := 516) hx hb dL_law_516 (lv_at hl 5 rfl) ?_
    refine lv_iconst (pc := 518) (v := 2) hx hb dL_law_518 (by decide) ?_
    refine lv_iadd (pc := 519) hx hb dL_law_519 ?_
    refine va_sld (pc := 520) hx hb hscr hbl hbA h.2.2.1 hi2 dL_law_520 ?_
    refine lv_aload_n (pc := 521) hx hb dL_law_521 rfl (lv_at hl 0 rfl) ?_
    refine lv_iload (pc := 522) hx hb dL_law_522 (lv_at hl 5 rfl) ?_
    refine lv_iconst (pc := 524) (v := 3) hx hb dL_law_524 (by decide) ?_
    refine lv_iadd (pc := 525) hx hb dL_law_525 ?_
    refine va_sld (pc := 526) hx hb hscr hbl hbA h.2.2.1 hi3 dL_law_526 ?_
    refine lv_aload_n (pc := 527) hx hb dL_law_527 rfl (lv_at hl 3 rfl) ?_
    refine call_W (pc := 528) (rest := []) (As := [.ref (q0 0), .int (xs (i + 1).toNatClampNeg), .int (xs (i + 2).toNatClampNeg), .int (xs (i + 3).toNatClampNeg), .ref o]) (ws' := wL n q0 q qm cA σ0 σ τ o o2 f f2) C hl0 hX hN h (wT_sign_1 hn σ0 σ (xs (i + 1).toNatClampNeg) (xs (i + 2).toNatClampNeg) (xs (i + 3).toNatClampNeg) hf o f) cx_L_150 (wL_L ..) (wL_L n q0 q qm cA σ0 σ τ o o2 f f2).symm rfl rfl rfl hl.1 (Nat.le_of_ble_eq_true rfl) dL_law_528 ⟨(Nat.le_of_ble_eq_true rfl), (Nat.le_of_ble_eq_true rfl)⟩ rfl rfl ⟨by show cells + 1 ≤ 601024; omega, by show slots + 6 ≤ 7293034; omega⟩ (fun H locs h => ?_)
    refine W.eq (g2 := F0 m 531 ls [.int 2]) rfl ?_
    refine lv_istore (pc := 531) (lv' := [(6, .int 2), (0, .ref b), (1, .ref (q0 0)), (2, .ref (qm 0)), (3, .ref o), (4, .ref o2), (5, .int i)]) hx hb dL_law_531 hl (by decide) rfl (fun ls hl => ?_)
    refine lv_aload_n (pc := 533) hx hb dL_law_533 rfl (lv_at hl 3 rfl) ?_
    refine lv_aload_n (pc := 534) hx hb dL_law_534 rfl (lv_at hl 1 rfl) ?_
    refine lv_iload (pc := 535) hx hb dL_law_535 (lv_at hl 6 rfl) ?_
    refine lv_iconst (pc := 537) (v := 1) hx hb dL_law_537 (by decide) ?_
    refine lv_iadd (pc := 538) hx hb dL_law_538 ?_
    refine va_sld (pc := 539) hx hb hscr hbl hbA h.2.2.1 hi1 dL_law_539 ?_
    refine lv_aload_n (pc := 540) hx hb dL_law_540 rfl (lv_at hl 1 rfl) ?_
    refine lv_iload (pc := 541) hx hb dL_law_541 (lv_at hl 6 rfl) ?_
    refine lv_iconst (pc := 543) (v := 2) hx hb dL_law_543 (by decide) ?_
    refine lv_iadd (pc := 544) hx hb dL_law_544 ?_
    refine va_sld (pc := 545) hx hb hscr hbl hbA h.2.2.1 hi2 dL_law_545 ?_
    refine lv_aload_n (pc := 546) hx hb dL_law_546 rfl (lv_at hl 1 rfl) ?_
    refine lv_iload (pc := 547) hx hb dL_law_547 (lv_at hl 6 rfl) ?_
    refine lv_iconst (pc := 549) (v := 3) hx hb dL_law_549 (by decide) ?_
    refine lv_iadd (pc := 550) hx hb dL_law_550 ?_
    refine va_sld (pc := 551) hx hb hscr hbl hbA h.2.2.1 hi3 dL_law_551 ?_
    refine call_VUp (pc := 552) (rest := []) (As := [.int (xs (i + 1).toNatClampNeg), .int (xs (i + 2).toNatClampNeg), .int (xs (i + 3).toNatClampNeg)]) (wc' := mW qm cA τ') (ws' := wL n q0 q qm cA σ0 σ τ' o o2 f f2) C h (k_X5_sign (q := qm) τ (xs (i + 1).toNatClampNeg) (xs (i + 2).toNatClampNeg) (xs (i + 3).toNatClampNeg) h5) cm_L_152 (mW_c0 ..) rfl (wL_M ..) (wL_M n q0 q qm cA σ0 σ τ' o o2 f f2).symm (mW_fst ..) rfl rfl hl.1 (Nat.le_of_ble_eq_true rfl) dL_law_552 ⟨(Nat.le_of_ble_eq_true rfl), (Nat.le_of_ble_eq_true rfl)⟩ rfl rfl ⟨by show _ ≤ 601024; omega, by show _ ≤ 7293034; omega⟩ (fun H locs h => ?_)
    refine W.eq (g2 := F0 m 555 ls [.int w]) rfl ?_
    refine lv_istore (pc := 555) (lv' := [(7, .int w), (6, .int 2), (0, .ref b), (1, .ref (q0 0)), (2, .ref (qm 0)), (3, .ref o), (4, .ref o2), (5, .int i)]) hx hb dL_law_555 hl (by decide) rfl (fun ls hl => ?_)
    refine lv_aload_n (pc := 557) hx hb dL_law_557 rfl (lv_at hl 4 rfl) ?_
    refine call_VRp (pc := 558) (rest := []) (As := []) C h (k_X5_thrown (q := qm) τ' rfl) cm_L_131 (mW_c0 ..) rfl (wL_M ..) rfl rfl hl.1 (Nat.le_of_ble_eq_true rfl) dL_law_558 ⟨(Nat.le_of_ble_eq_true rfl), (Nat.le_of_ble_eq_true rfl)⟩ rfl rfl ⟨by show _ ≤ 601024; omega, by show _ ≤ 7293034; omega⟩ (fun H locs h => ?_)
    refine W.eq (g2 := F0 m 561 ls [.int (τ' 24 0)]) rfl ?_
    refine lv_iload (pc := 561) hx hb dL_law_561 (lv_at hl 1 rfl) ?_
    refine lv_icmp_eq (pc := 563) (tgt := 568) hx hb dL_law_563 (by decide) (fun _ => ?_) (fun c9 => absurd hthr c9)
    refine lv_iload (pc := 568) hx hb dL_law_568 (lv_at hl 1 rfl) ?_
    refine lv_if_ne (pc := 570) (tgt := 585) hx hb dL_law_570 (by decide) (fun _ => ?_) (fun c9 => absurd c9 (by decide))
    refine lv_goto (pc := 585) (tgt := 2364) hx hb dL_law_585 (by decide) ?_
    exact W.widen (by omega) (by omega) (kk _ _ _ _ _ _ _ _ _ hI2 h ls (lv_sub hl [2, 3, 4, 5, 6, 7] rfl))
set_option maxHeartbeats 1000000 in
set_option maxRecDepth 100000 in
theorem law_whyNot {Inv : IT} (hn6 : ∀ t n σ0 σ τ, Inv t n σ0 σ τ → n ≤ 6) (S : SA_whyNot Inv) {t n : Nat} {q0 : Nat → Nat} {q : Nat → Nat → Nat} {qm : Nat → Nat} {σ0 τ : Nat → Nat → Int32} {σ : Nat → Nat → Nat → Int32} {o o2 : Nat} {f : Nat → Int64} {f2 : Nat → UInt64} {i : Int32} (ht : t < 512) (hI : Inv t n σ0 σ τ)
    (X : LX p l s m args meth c D cA b L xs) (h : St D (nA s) s.heap (wL n q0 q qm cA σ0 σ τ o o2 f f2) H locs) (hi : HI i L) (hl : lv_has ls 8 (L0 b (q0 0) (qm 0) o o2 i)) (hc : cells + 20 ≤ 601024) (hs : slots + 263 ≤ 7293034)
    (kk : LK p l e s m args below meth c D cA b q0 qm o o2 Inv t i cells slots Q) : W p l e room_1 s m args below meth c H locs cells slots Q (F0 m 588 ls []) := by
  obtain ⟨C, hl0, hX, hN, hscr, hbl⟩ := X
  obtain ⟨hi0, hi1, hi2, hi3, hi4, hi5⟩ := hi
  obtain ⟨hx, hb, hml, hown, hts, hK, hlk⟩ := id C
  have hbA : ¬ nA s b := Nat.not_le.mpr hbl
  have hn := hn6 _ _ _ _ _ hI
  obtain ⟨w, τ', h5, ⟨hf, hI2, hthr⟩ | ⟨hf, hI2, hthr⟩⟩ := S _ _ _ _ _ _ _ _ ht hI
  · refine lv_aload_n (pc := 588) hx hb dL_law_588 rfl (lv_at hl 1 rfl) ?_
    refine lv_aload_n (pc := 589) hx hb dL_law_589 rfl (lv_at hl 0 rfl) ?_
    refine lv_iload (pc := 590) hx hb dL_law_590 (lv_at hl 5 rfl) ?_
    refine lv_iconst (pc := 592) (v := 1) hx hb dL_law_592 (by decide) ?_
    refine lv_iadd (pc := 593) hx hb dL_law_593 ?_
    refine va_sld (pc := 594) hx hb hscr hbl hbA h.2.2.1 hi1 dL_law_594 ?_
    refine lv_aload_n (pc := 595) hx hb dL_law_595 rfl (lv_at hl 0 rfl) ?_
    refine lv_iload (pc := 596) hx hb dL_law_596 (lv_at hl 5 rfl) ?_
    refine lv_iconst (pc := 598) (v := 2) hx hb dL_law_598 (by decide) ?_
    refine lv_iadd (pc := 599) hx hb dL_law_599 ?_
    refine va_sld (pc := 600) hx hb hscr hbl hbA h.2.2.1 hi2 dL_law_600 ?_
    refine lv_aload_n (pc := 601) hx hb dL_law_601 rfl (lv_at hl 0 rfl) ?_
    refine lv_iload (pc := 602) hx hb dL_law_602 (lv_at hl 5 rfl) ?_
    refine lv_iconst (pc := 604) (v := 3) hx hb dL_law_604 (by decide) ?_
    refine lv_iadd (pc := 605) hx hb dL_law_605 ?_
    refine va_sld (pc := 606) hx hb hscr hbl hbA h.2.2.1 hi3 dL_law_606 ?_
    refine lv_aload_n (pc := 607) hx hb dL_law_607 rfl (lv_at hl 3 rfl) ?_
    refine call_W (pc := 608) (rest := []) (As := [.ref (q0 0), .int (xs (i + 1).toNatClampNeg), .int (xs (i + 2).toNatClampNeg), .int (xs (i + 3).toNatClampNeg), .ref o]) (ws' := wL n q0 q qm cA σ0 σ τ o o2 (vp_updL f 0 w.toInt64) f2) C hl0 hX hN h (w_whyNot hn σ0 σ (xs (i + 1).toNatClampNeg) (xs (i + 2).toNatClampNeg) (xs (i + 3).toNatClampNeg) hf o f) cx_L_153 (wL_L ..) (wL_L n q0 q qm cA σ0 σ τ o o2 (vp_updL f 0 w.toInt64) f2).symm (xL_fst ..) rfl rfl hl.1 (Nat.le_of_ble_eq_true rfl) dL_law_608 ⟨(Nat.le_of_ble_eq_true rfl), (Nat.le_of_ble_eq_true rfl)⟩ rfl rfl ⟨by show cells + 1 ≤ 601024; omega, by show slots + 6 ≤ 7293034; omega⟩ (fun H locs h => ?_)
    refine W.eq (g2 := F0 m 611 ls [.int 0]) rfl ?_
    refine lv_istore (pc := 611) (lv' := [(6, .int 0), (0, .ref b), (1, .ref (q0 0)), (2, .ref (qm 0)), (3, .ref o), (4, .ref o2), (5, .int i)]) hx hb dL_law_611 hl (by decide) rfl (fun ls hl => ?_)
    refine lv_aload_n (pc := 613) hx hb dL_law_613 rfl (lv_at hl 3 rfl) ?_
    refine lv_aload_n (pc := 614) hx hb dL_law_614 rfl (lv_at hl 1 rfl) ?_
    refine lv_iload (pc := 615) hx hb dL_law_615 (lv_at hl 6 rfl) ?_
    refine lv_iconst (pc := 617) (v := 1) hx hb dL_law_617 (by decide) ?_
    refine lv_iadd (pc := 618) hx hb dL_law_618 ?_
    refine va_sld (pc := 619) hx hb hscr hbl hbA h.2.2.1 hi1 dL_law_619 ?_
    refine lv_aload_n (pc := 620) hx hb dL_law_620 rfl (lv_at hl 1 rfl) ?_
    refine lv_iload (pc := 621) hx hb dL_law_621 (lv_at hl 6 rfl) ?_
    refine lv_iconst (pc := 623) (v := 2) hx hb dL_law_623 (by decide) ?_
    refine lv_iadd (pc := 624) hx hb dL_law_624 ?_
    refine va_sld (pc := 625) hx hb hscr hbl hbA h.2.2.1 hi2 dL_law_625 ?_
    refine lv_aload_n (pc := 626) hx hb dL_law_626 rfl (lv_at hl 1 rfl) ?_
    refine lv_iload (pc := 627) hx hb dL_law_627 (lv_at hl 6 rfl) ?_
    refine lv_iconst (pc := 629) (v := 3) hx hb dL_law_629 (by decide) ?_
    refine lv_iadd (pc := 630) hx hb dL_law_630 ?_
    refine va_sld (pc := 631) hx hb hscr hbl hbA h.2.2.1 hi3 dL_law_631 ?_
    refine call_VUp (pc := 632) (rest := []) (As := [.int (xs (i + 1).toNatClampNeg), .int (xs (i + 2).toNatClampNeg), .int (xs (i + 3).toNatClampNeg)]) (wc' := mW qm cA τ') (ws' := wL n q0 q qm cA σ0 σ τ' o o2 (vp_updL f 0 w.toInt64) f2) C h (k_X5_whyNot (q := qm) τ (xs (i + 1).toNatClampNeg) (xs (i + 2).toNatClampNeg) (xs (i + 3).toNatClampNeg) h5) cm_L_155 (mW_c0 ..) rfl (wL_M ..) (wL_M n q0 q qm cA σ0 σ τ' o o2 (vp_updL f 0 w.toInt64) f2).symm (mW_fst ..) rfl rfl hl.1 (Nat.le_of_ble_eq_true rfl) dL_law_632 ⟨(Nat.le_of_ble_eq_true rfl), (Nat.le_of_ble_eq_true rfl)⟩ rfl rfl ⟨by show _ ≤ 601024; omega, by show _ ≤ 7293034; omega⟩ (fun H locs h => ?_)
    refine W.eq (g2 := F0 m 635 ls [.int w]) rfl ?_
    refine lv_istore (pc := 635) (lv' := [(7, .int w), (6, .int 0), (0, .ref b), (1, .ref (q0 0)), (2, .ref (qm 0)), (3, .ref o), (4, .ref o2), (5, .int i)]) hx hb dL_law_635 hl (by decide) rfl (fun ls hl => ?_)
    refine lv_aload_n (pc := 637) hx hb dL_law_637 rfl (lv_at hl 4 rfl) ?_
    refine call_VRp (pc := 638) (rest := []) (As := []) C h (k_X5_thrown (q := qm) τ' rfl) cm_L_131 (mW_c0 ..) rfl (wL_M ..) rfl rfl hl.1 (Nat.le_of_ble_eq_true rfl) dL_law_638 ⟨(Nat.le_of_ble_eq_true rfl), (Nat.le_of_ble_eq_true rfl)⟩ rfl rfl ⟨by show _ ≤ 601024; omega, by show _ ≤ 7293034; omega⟩ (fun H locs h => ?_)
    refine W.eq (g2 := F0 m 641 ls [.int (τ' 24 0)]) rfl ?_
    refine lv_iload (pc := 641) hx hb dL_law_641 (lv_at hl 1 rfl) ?_
    refine lv_icmp_eq (pc := 643) (tgt := 648) hx hb dL_law_643 (by decide) (fun _ => ?_) (fun c9 => absurd hthr c9)
    refine lv_iload (pc := 648) hx hb dL_law_648 (lv_at hl 1 rfl) ?_
    refine lv_if_ne (pc := 650) (tgt := 665) hx hb dL_law_650 (by decide) (fun c9 => absurd rfl c9) (fun _ => ?_)
    refine lv_aload_n (pc := 653) hx hb dL_law_653 rfl (lv_at hl 5 rfl) ?_
    refine lv_iconst (pc := 654) (v := 0) hx hb dL_law_654 (by decide) ?_
    refine va_lald (pc := 655) hx hb hK.1 h.1 0 3 (wL_o ..) rfl (show inb (0 : Int32) 1 from by decide) dL_law_655 ?_
    refine W.eq (g2 := F0 m 656 ls [.long w.toInt64]) rfl ?_
    refine lv_iload (pc := 656) hx hb dL_law_656 (lv_at hl 0 rfl) ?_
    refine lv_i2l (pc := 658) (v := w.toInt64) hx hb dL_law_658 rfl ?_
    refine W.lcmp (pc := 659) hx hb dL_law_659 ?_
    rw [cmp_self]
    refine lv_if_eq (pc := 660) (tgt := 665) hx hb dL_law_660 (by decide) (fun _ => ?_) (fun c9 => absurd rfl c9)
    refine lv_goto (pc := 665) (tgt := 2364) hx hb dL_law_665 (by decide) ?_
    exact W.widen (by omega) (by omega) (kk _ _ _ _ _ _ _ _ _ hI2 h ls (lv_sub hl [2, 3, 4, 5, 6, 7] rfl))
  · refine lv_aload_n (pc := 588) hx hb dL_law_588 rfl (lv_at hl 1 rfl) ?_
    refine lv_aload_n (pc := 589) hx hb dL_law_589 rfl (lv_at hl 0 rfl) ?_
    refine lv_iload (pc := 590) hx hb dL_law_590 (lv_at hl 5 rfl) ?_
    refine lv_iconst (pc := 592) (v := 1) hx hb dL_law_592 (by decide) ?_
    refine lv_iadd (pc := 593) hx hb dL_law_593 ?_
    refine va_sld (pc := 594) hx hb hscr hbl hbA h.2.2.1 hi1 dL_law_594 ?_
    refine lv_aload_n (pc := 595) hx hb dL_law_595 rfl (lv_at hl 0 rfl) ?_
    refine lv_iload (pc := 596) hx hb dL_law_596 (lv_at hl 5 rfl) ?_
    refine lv_iconst (pc := 598) (v := 2) hx hb dL_law_598 (by decide) ?_
    refine lv_iadd (pc := 599) hx hb dL_law_599 ?_
    refine va_sld (pc := 600) hx hb hscr hbl hbA h.2.2.1 hi2 dL_law_600 ?_
    refine lv_aload_n (pc := 601) hx hb dL_law_601 rfl (lv_at hl 0 rfl) ?_
    refine lv_iload (pc := 602) hx hb dL_law_602 (lv_at hl 5 rfl) ?_
    refine lv_iconst (pc := 604) (v := 3) hx hb dL_law_604 (by decide) ?_
    refine lv_iadd (pc := 605) hx hb dL_law_605 ?_
    refine va_sld (pc := 606) hx hb hscr hbl hbA h.2.2.1 hi3 dL_law_606 ?_
    refine lv_aload_n (pc := 607) hx hb dL_law_607 rfl (lv_at hl 3 rfl) ?_
    refine call_W (pc := 608) (rest := []) (As := [.ref (q0 0), .int (xs (i + 1).toNatClampNeg), .int (xs (i + 2).toNatClampNeg), .int (xs (i + 3).toNatClampNeg), .ref o]) (ws' := wL n q0 q qm cA σ0 σ τ o o2 f f2) C hl0 hX hN h (wT_whyNot_0 hn σ0 σ (xs (i + 1).toNatClampNeg) (xs (i + 2).toNatClampNeg) (xs (i + 3).toNatClampNeg) hf o f) cx_L_153 (wL_L ..) (wL_L n q0 q qm cA σ0 σ τ o o2 f f2).symm rfl rfl rfl hl.1 (Nat.le_of_ble_eq_true rfl) dL_law_608 ⟨(Nat.le_of_ble_eq_true rfl), (Nat.le_of_ble_eq_true rfl)⟩ rfl rfl ⟨by show cells + 1 ≤ 601024; omega, by show slots + 6 ≤ 7293034; omega⟩ (fun H locs h => ?_)
    refine W.eq (g2 := F0 m 611 ls [.int 1]) rfl ?_
    refine lv_istore (pc := 611) (lv' := [(6, .int 1), (0, .ref b), (1, .ref (q0 0)), (2, .ref (qm 0)), (3, .ref o), (4, .ref o2), (5, .int i)]) hx hb dL_law_611 hl (by decide) rfl (fun ls hl => ?_)
    refine lv_aload_n (pc := 613) hx hb dL_law_613 rfl (lv_at hl 3 rfl) ?_
    refine lv_aload_n (pc := 614) hx hb dL_law_614 rfl (lv_at hl 1 rfl) ?_
    refine lv_iload (pc := 615) hx hb dL_law_615 (lv_at hl 6 rfl) ?_
    refine lv_iconst (pc := 617) (v := 1) hx hb dL_law_617 (by decide) ?_
    refine lv_iadd (pc := 618) hx hb dL_law_618 ?_
    refine va_sld (pc := 619) hx hb hscr hbl hbA h.2.2.1 hi1 dL_law_619 ?_
    refine lv_aload_n (pc := 620) hx hb dL_law_620 rfl (lv_at hl 1 rfl) ?_
    refine lv_iload (pc := 621) hx hb dL_law_621 (lv_at hl 6 rfl) ?_
    refine lv_iconst (pc := 623) (v := 2) hx hb dL_law_623 (by decide) ?_
    refine lv_iadd (pc := 624) hx hb dL_law_624 ?_
    refine va_sld (pc := 625) hx hb hscr hbl hbA h.2.2.1 hi2 dL_law_625 ?_
    refine lv_aload_n (pc := 626) hx hb dL_law_626 rfl (lv_at hl 1 rfl) ?_
    refine lv_iload (pc := 627) hx hb dL_law_627 (lv_at hl 6 rfl) ?_
    refine lv_iconst (pc := 629) (v := 3) hx hb dL_law_629 (by decide) ?_
    refine lv_iadd (pc := 630) hx hb dL_law_630 ?_
    refine va_sld (pc := 631) hx hb hscr hbl hbA h.2.2.1 hi3 dL_law_631 ?_
    refine call_VUp (pc := 632) (rest := []) (As := [.int (xs (i + 1).toNatClampNeg), .int (xs (i + 2).toNatClampNeg), .int (xs (i + 3).toNatClampNeg)]) (wc' := mW qm cA τ') (ws' := wL n q0 q qm cA σ0 σ τ' o o2 f f2) C h (k_X5_whyNot (q := qm) τ (xs (i + 1).toNatClampNeg) (xs (i + 2).toNatClampNeg) (xs (i + 3).toNatClampNeg) h5) cm_L_155 (mW_c0 ..) rfl (wL_M ..) (wL_M n q0 q qm cA σ0 σ τ' o o2 f f2).symm (mW_fst ..) rfl rfl hl.1 (Nat.le_of_ble_eq_true rfl) dL_law_632 ⟨(Nat.le_of_ble_eq_true rfl), (Nat.le_of_ble_eq_true rfl)⟩ rfl rfl ⟨by show _ ≤ 601024; omega, by show _ ≤ 7293034; omega⟩ (fun H locs h => ?_)
    refine W.eq (g2 := F0 m 635 ls [.int w]) rfl ?_
    refine lv_istore (pc := 635) (lv' := [(7, .int w), (6, .int 1), (0, .ref b), (1, .ref (q0 0)), (2, .ref (qm 0)), (3, .ref o), (4, .ref o2), (5, .int i)]) hx hb dL_law_635 hl (by decide) rfl (fun ls hl => ?_)
    refine lv_aload_n (pc := 637) hx hb dL_law_637 rfl (lv_at hl 4 rfl) ?_
    refine call_VRp (pc := 638) (rest := []) (As := []) C h (k_X5_thrown (q := qm) τ' rfl) cm_L_131 (mW_c0 ..) rfl (wL_M ..) rfl rfl hl.1 (Nat.le_of_ble_eq_true rfl) dL_law_638 ⟨(Nat.le_of_ble_eq_true rfl), (Nat.le_of_ble_eq_true rfl)⟩ rfl rfl ⟨by show _ ≤ 601024; omega, by show _ ≤ 7293034; omega⟩ (fun H locs h => ?_)
    refine W.eq (g2 := F0 m 641 ls [.int (τ' 24 0)]) rfl ?_
    refine lv_iload (pc := 641) hx hb dL_law_641 (lv_at hl 1 rfl) ?_
    refine lv_icmp_eq (pc := 643) (tgt := 648) hx hb dL_law_643 (by decide) (fun _ => ?_) (fun c9 => absurd hthr c9)
    refine lv_iload (pc := 648) hx hb dL_law_648 (lv_at hl 1 rfl) ?_
    refine lv_if_ne (pc := 650) (tgt := 665) hx hb dL_law_650 (by decide) (fun _ => ?_) (fun c9 => absurd c9 (by decide))
    refine lv_goto (pc := 665) (tgt := 2364) hx hb dL_law_665 (by decide) ?_
    exact W.widen (by omega) (by omega) (kk _ _ _ _ _ _ _ _ _ hI2 h ls (lv_sub hl [2, 3, 4, 5, 6, 7] rfl))
end
