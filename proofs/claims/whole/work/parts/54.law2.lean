section
variable {p : Program} {l : Launch} {e : Env} {s : State} {m : MethodId} {args : Array Value} {below : List Frame} {meth : Method} {c : Code} {H : Heap} {locs : List Loc} {cells slots : Nat} {Q : State → Prop} {D : va_G} {cA : Nat → ClassId} {b L : Nat} {xs : Nat → Int32} {ls : Array Slot}
set_option maxHeartbeats 1000000 in
set_option maxRecDepth 100000 in
theorem law_pass {Inv : IT} (hn6 : ∀ t n σ0 σ τ, Inv t n σ0 σ τ → n ≤ 6) (S : SA_pass Inv) {t n : Nat} {q0 : Nat → Nat} {q : Nat → Nat → Nat} {qm : Nat → Nat} {σ0 τ : Nat → Nat → Int32} {σ : Nat → Nat → Nat → Int32} {o o2 : Nat} {f : Nat → Int64} {f2 : Nat → UInt64} {i : Int32} (ht : t < 512) (hI : Inv t n σ0 σ τ)
    (X : LX p l s m args meth c D cA b L xs) (h : St D (nA s) s.heap (wL n q0 q qm cA σ0 σ τ o o2 f f2) H locs) (hi : HI i L) (hl : lv_has ls 8 (L0 b (q0 0) (qm 0) o o2 i)) (hc : cells + 20 ≤ 601024) (hs : slots + 263 ≤ 7293034)
    (kk : LK p l e s m args below meth c D cA b q0 qm o o2 Inv t i cells slots Q) : W p l e room_1 s m args below meth c H locs cells slots Q (F0 m 1132 ls []) := by
  obtain ⟨C, hl0, hX, hN, hscr, hbl⟩ := X
  obtain ⟨hi0, hi1, hi2, hi3, hi4, hi5⟩ := hi
  obtain ⟨hx, hb, hml, hown, hts, hK, hlk⟩ := id C
  have hbA : ¬ nA s b := Nat.not_le.mpr hbl
  have hn := hn6 _ _ _ _ _ hI
  obtain ⟨w, τ', h5, ⟨σ0', σ', hf, hI2, hthr⟩ | ⟨hf, hI2, hthr⟩⟩ := S _ _ _ _ _ _ ht hI
  · refine lv_aload_n (pc := 1132) hx hb dL_law_1132 rfl (lv_at hl 1 rfl) ?_
    refine lv_aload_n (pc := 1133) hx hb dL_law_1133 rfl (lv_at hl 0 rfl) ?_
    refine lv_iload (pc := 1134) hx hb dL_law_1134 (lv_at hl 5 rfl) ?_
    refine lv_iconst (pc := 1136) (v := 1) hx hb dL_law_1136 (by decide) ?_
    refine lv_iadd (pc := 1137) hx hb dL_law_1137 ?_
    refine va_sld (pc := 1138) hx hb hscr hbl hbA h.2.2.1 hi1 dL_law_1138 ?_
    refine lv_aload_n (pc := 1139) hx hb dL_law_1139 rfl (lv_at hl 3 rfl) ?_
    refine call_W (pc := 1140) (rest := []) (As := [.ref (q0 0), .int (xs (i + 1).toNatClampNeg), .ref o]) (ws' := wL n q0 q qm cA σ0' σ' τ o o2 (vp_updL f 0 w.toInt64) f2) C hl0 hX hN h (w_pass hn σ0 σ (xs (i + 1).toNatClampNeg) hf o f) cx_L_178 (wL_L ..) (wL_L n q0 q qm cA σ0' σ' τ o o2 (vp_updL f 0 w.toInt64) f2).symm (xL_fst ..) rfl rfl hl.1 (Nat.le_of_ble_eq_true rfl) dL_law_1140 ⟨(Nat.le_of_ble_eq_true rfl), (Nat.le_of_ble_eq_true rfl)⟩ rfl rfl ⟨by show cells + 1 ≤ 601024; omega, by show slots + 6 ≤ 7293034; omega⟩ (fun H locs h => ?_)
    refine W.eq (g2 := F0 m 1143 ls [.int 0]) rfl ?_
    refine lv_istore (pc := 1143) (lv' := [(6, .int 0), (0, .ref b), (1, .ref (q0 0)), (2, .ref (qm 0)), (3, .ref o), (4, .ref o2), (5, .int i)]) hx hb dL_law_1143 hl (by decide) rfl (fun ls hl => ?_)
    refine lv_aload_n (pc := 1145) hx hb dL_law_1145 rfl (lv_at hl 3 rfl) ?_
    refine lv_aload_n (pc := 1146) hx hb dL_law_1146 rfl (lv_at hl 1 rfl) ?_
    refine lv_iload (pc := 1147) hx hb dL_law_1147 (lv_at hl 6 rfl) ?_
    refine lv_iconst (pc := 1149) (v := 1) hx hb dL_law_1149 (by decide) ?_
    refine lv_iadd (pc := 1150) hx hb dL_law_1150 ?_
    refine va_sld (pc := 1151) hx hb hscr hbl hbA h.2.2.1 hi1 dL_law_1151 ?_
    refine call_VUp (pc := 1152) (rest := []) (As := [.int (xs (i + 1).toNatClampNeg)]) (wc' := mW qm cA τ') (ws' := wL n q0 q qm cA σ0' σ' τ' o o2 (vp_updL f 0 w.toInt64) f2) C h (k_X5_pass (q := qm) τ (xs (i + 1).toNatClampNeg) h5) cm_L_180 (mW_c0 ..) rfl (wL_M ..) (wL_M n q0 q qm cA σ0' σ' τ' o o2 (vp_updL f 0 w.toInt64) f2).symm (mW_fst ..) rfl rfl hl.1 (Nat.le_of_ble_eq_true rfl) dL_law_1152 ⟨(Nat.le_of_ble_eq_true rfl), (Nat.le_of_ble_eq_true rfl)⟩ rfl rfl ⟨by show _ ≤ 601024; omega, by show _ ≤ 7293034; omega⟩ (fun H locs h => ?_)
    refine W.eq (g2 := F0 m 1155 ls [.int w]) rfl ?_
    refine lv_istore (pc := 1155) (lv' := [(7, .int w), (6, .int 0), (0, .ref b), (1, .ref (q0 0)), (2, .ref (qm 0)), (3, .ref o), (4, .ref o2), (5, .int i)]) hx hb dL_law_1155 hl (by decide) rfl (fun ls hl => ?_)
    refine lv_aload_n (pc := 1157) hx hb dL_law_1157 rfl (lv_at hl 4 rfl) ?_
    refine call_VRp (pc := 1158) (rest := []) (As := []) C h (k_X5_thrown (q := qm) τ' rfl) cm_L_131 (mW_c0 ..) rfl (wL_M ..) rfl rfl hl.1 (Nat.le_of_ble_eq_true rfl) dL_law_1158 ⟨(Nat.le_of_ble_eq_true rfl), (Nat.le_of_ble_eq_true rfl)⟩ rfl rfl ⟨by show _ ≤ 601024; omega, by show _ ≤ 7293034; omega⟩ (fun H locs h => ?_)
    refine W.eq (g2 := F0 m 1161 ls [.int (τ' 24 0)]) rfl ?_
    refine lv_iload (pc := 1161) hx hb dL_law_1161 (lv_at hl 1 rfl) ?_
    refine lv_icmp_eq (pc := 1163) (tgt := 1168) hx hb dL_law_1163 (by decide) (fun _ => ?_) (fun c9 => absurd hthr c9)
    refine lv_iload (pc := 1168) hx hb dL_law_1168 (lv_at hl 1 rfl) ?_
    refine lv_if_ne (pc := 1170) (tgt := 1185) hx hb dL_law_1170 (by decide) (fun c9 => absurd rfl c9) (fun _ => ?_)
    refine lv_aload_n (pc := 1173) hx hb dL_law_1173 rfl (lv_at hl 5 rfl) ?_
    refine lv_iconst (pc := 1174) (v := 0) hx hb dL_law_1174 (by decide) ?_
    refine va_lald (pc := 1175) hx hb hK.1 h.1 0 3 (wL_o ..) rfl (show inb (0 : Int32) 1 from by decide) dL_law_1175 ?_
    refine W.eq (g2 := F0 m 1176 ls [.long w.toInt64]) rfl ?_
    refine lv_iload (pc := 1176) hx hb dL_law_1176 (lv_at hl 0 rfl) ?_
    refine lv_i2l (pc := 1178) (v := w.toInt64) hx hb dL_law_1178 rfl ?_
    refine W.lcmp (pc := 1179) hx hb dL_law_1179 ?_
    rw [cmp_self]
    refine lv_if_eq (pc := 1180) (tgt := 1185) hx hb dL_law_1180 (by decide) (fun _ => ?_) (fun c9 => absurd rfl c9)
    refine lv_goto (pc := 1185) (tgt := 2364) hx hb dL_law_1185 (by decide) ?_
    exact W.widen (by omega) (by omega) (kk _ _ _ _ _ _ _ _ _ hI2 h ls (lv_sub hl [2, 3, 4, 5, 6, 7] rfl))
  · refine lv_aload_n (pc := 1132) hx hb dL_law_1132 rfl (lv_at hl 1 rfl) ?_
    refine lv_aload_n (pc := 1133) hx hb dL_law_1133 rfl (lv_at hl 0 rfl) ?_
    refine lv_iload (pc := 1134) hx hb dL_law_1134 (lv_at hl 5 rfl) ?_
    refine lv_iconst (pc := 1136) (v := 1) hx hb dL_law_1136 (by decide) ?_
    refine lv_iadd (pc := 1137) hx hb dL_law_1137 ?_
    refine va_sld (pc := 1138) hx hb hscr hbl hbA h.2.2.1 hi1 dL_law_1138 ?_
    refine lv_aload_n (pc := 1139) hx hb dL_law_1139 rfl (lv_at hl 3 rfl) ?_
    refine call_W (pc := 1140) (rest := []) (As := [.ref (q0 0), .int (xs (i + 1).toNatClampNeg), .ref o]) (ws' := wL n q0 q qm cA σ0 σ τ o o2 f f2) C hl0 hX hN h (wT_pass_0 hn σ0 σ (xs (i + 1).toNatClampNeg) hf o f) cx_L_178 (wL_L ..) (wL_L n q0 q qm cA σ0 σ τ o o2 f f2).symm rfl rfl rfl hl.1 (Nat.le_of_ble_eq_true rfl) dL_law_1140 ⟨(Nat.le_of_ble_eq_true rfl), (Nat.le_of_ble_eq_true rfl)⟩ rfl rfl ⟨by show cells + 1 ≤ 601024; omega, by show slots + 6 ≤ 7293034; omega⟩ (fun H locs h => ?_)
    refine W.eq (g2 := F0 m 1143 ls [.int 1]) rfl ?_
    refine lv_istore (pc := 1143) (lv' := [(6, .int 1), (0, .ref b), (1, .ref (q0 0)), (2, .ref (qm 0)), (3, .ref o), (4, .ref o2), (5, .int i)]) hx hb dL_law_1143 hl (by decide) rfl (fun ls hl => ?_)
    refine lv_aload_n (pc := 1145) hx hb dL_law_1145 rfl (lv_at hl 3 rfl) ?_
    refine lv_aload_n (pc := 1146) hx hb dL_law_1146 rfl (lv_at hl 1 rfl) ?_
    refine lv_iload (pc := 1147) hx hb dL_law_1147 (lv_at hl 6 rfl) ?_
    refine lv_iconst (pc := 1149) (v := 1) hx hb dL_law_1149 (by decide) ?_
    refine lv_iadd (pc := 1150) hx hb dL_law_1150 ?_
    refine va_sld (pc := 1151) hx hb hscr hbl hbA h.2.2.1 hi1 dL_law_1151 ?_
    refine call_VUp (pc := 1152) (rest := []) (As := [.int (xs (i + 1).toNatClampNeg)]) (wc' := mW qm cA τ') (ws' := wL n q0 q qm cA σ0 σ τ' o o2 f f2) C h (k_X5_pass (q := qm) τ (xs (i + 1).toNatClampNeg) h5) cm_L_180 (mW_c0 ..) rfl (wL_M ..) (wL_M n q0 q qm cA σ0 σ τ' o o2 f f2).symm (mW_fst ..) rfl rfl hl.1 (Nat.le_of_ble_eq_true rfl) dL_law_1152 ⟨(Nat.le_of_ble_eq_true rfl), (Nat.le_of_ble_eq_true rfl)⟩ rfl rfl ⟨by show _ ≤ 601024; omega, by show _ ≤ 7293034; omega⟩ (fun H locs h => ?_)
    refine W.eq (g2 := F0 m 1155 ls [.int w]) rfl ?_
    refine lv_istore (pc := 1155) (lv' := [(7, .int w), (6, .int 1), (0, .ref b), (1, .ref (q0 0)), (2, .ref (qm 0)), (3, .ref o), (4, .ref o2), (5, .int i)]) hx hb dL_law_1155 hl (by decide) rfl (fun ls hl => ?_)
    refine lv_aload_n (pc := 1157) hx hb dL_law_1157 rfl (lv_at hl 4 rfl) ?_
    refine call_VRp (pc := 1158) (rest := []) (As := []) C h (k_X5_thrown (q := qm) τ' rfl) cm_L_131 (mW_c0 ..) rfl (wL_M ..) rfl rfl hl.1 (Nat.le_of_ble_eq_true rfl) dL_law_1158 ⟨(Nat.le_of_ble_eq_true rfl), (Nat.le_of_ble_eq_true rfl)⟩ rfl rfl ⟨by show _ ≤ 601024; omega, by show _ ≤ 7293034; omega⟩ (fun H locs h => ?_)
    refine W.eq (g2 := F0 m 1161 ls [.int (τ' 24 0)]) rfl ?_
    refine lv_iload (pc := 1161) hx hb dL_law_1161 (lv_at hl 1 rfl) ?_
    refine lv_icmp_eq (pc := 1163) (tgt := 1168) hx hb dL_law_1163 (by decide) (fun _ => ?_) (fun c9 => absurd hthr c9)
    refine lv_iload (pc := 1168) hx hb dL_law_1168 (lv_at hl 1 rfl) ?_
    refine lv_if_ne (pc := 1170) (tgt := 1185) hx hb dL_law_1170 (by decide) (fun _ => ?_) (fun c9 => absurd c9 (by decide))
    refine lv_goto (pc := 1185) (tgt := 2364) hx hb dL_law_1185 (by decide) ?_
    exact W.widen (by omega) (by omega) (kk _ _ _ _ _ _ _ _ _ hI2 h ls (lv_sub hl [2, 3, 4, 5, 6, 7] rfl))
set_option maxHeartbeats 1000000 in
set_option maxRecDepth 100000 in
theorem law_today {Inv : IT} (hn6 : ∀ t n σ0 σ τ, Inv t n σ0 σ τ → n ≤ 6) (S : SA_today Inv) {t n : Nat} {q0 : Nat → Nat} {q : Nat → Nat → Nat} {qm : Nat → Nat} {σ0 τ : Nat → Nat → Int32} {σ : Nat → Nat → Nat → Int32} {o o2 : Nat} {f : Nat → Int64} {f2 : Nat → UInt64} {i : Int32} (ht : t < 512) (hI : Inv t n σ0 σ τ)
    (X : LX p l s m args meth c D cA b L xs) (h : St D (nA s) s.heap (wL n q0 q qm cA σ0 σ τ o o2 f f2) H locs) (hi : HI i L) (hl : lv_has ls 8 (L0 b (q0 0) (qm 0) o o2 i)) (hc : cells + 20 ≤ 601024) (hs : slots + 263 ≤ 7293034)
    (kk : LK p l e s m args below meth c D cA b q0 qm o o2 Inv t i cells slots Q) : W p l e room_1 s m args below meth c H locs cells slots Q (F0 m 1188 ls []) := by
  obtain ⟨C, hl0, hX, hN, hscr, hbl⟩ := X
  obtain ⟨hi0, hi1, hi2, hi3, hi4, hi5⟩ := hi
  obtain ⟨hx, hb, hml, hown, hts, hK, hlk⟩ := id C
  have hbA : ¬ nA s b := Nat.not_le.mpr hbl
  have hn := hn6 _ _ _ _ _ hI
  obtain ⟨τ', h5, hI2⟩ := S _ _ _ _ _ ht hI
  refine lv_aload_n (pc := 1188) hx hb dL_law_1188 rfl (lv_at hl 1 rfl) ?_
  refine call_VRp (pc := 1189) (rest := []) (As := []) C h (k_X4_today hn (q := q) σ0 σ rfl) cm_L_181 (cm_xL ..) rfl (wL_S ..) rfl rfl hl.1 (Nat.le_of_ble_eq_true rfl) dL_law_1189 ⟨(Nat.le_of_ble_eq_true rfl), (Nat.le_of_ble_eq_true rfl)⟩ rfl rfl ⟨by show _ ≤ 601024; omega, by show _ ≤ 7293034; omega⟩ (fun H locs h => ?_)
  refine W.eq (g2 := F0 m 1192 ls [.int (f_X4_today n σ0 σ)]) rfl ?_
  refine lv_aload_n (pc := 1192) hx hb dL_law_1192 rfl (lv_at hl 2 rfl) ?_
  refine call_VUp (pc := 1193) (rest := [.int (f_X4_today n σ0 σ)]) (As := []) (wc' := mW qm cA τ') (ws' := wL n q0 q qm cA σ0 σ τ' o o2 f f2) C h (k_X5_today (q := qm) τ h5) cm_L_184 (mW_c0 ..) rfl (wL_M ..) (wL_M n q0 q qm cA σ0 σ τ' o o2 f f2).symm (mW_fst ..) rfl rfl hl.1 (Nat.le_of_ble_eq_true rfl) dL_law_1193 ⟨(Nat.le_of_ble_eq_true rfl), (Nat.le_of_ble_eq_true rfl)⟩ rfl rfl ⟨by show _ ≤ 601024; omega, by show _ ≤ 7293034; omega⟩ (fun H locs h => ?_)
  refine W.eq (g2 := F0 m 1196 ls [.int (f_X4_today n σ0 σ), .int (f_X4_today n σ0 σ)]) rfl ?_
  refine lv_icmp_eq (pc := 1196) (tgt := 2364) hx hb dL_law_1196 (by decide) (fun _ => ?_) (fun c9 => absurd rfl c9)
  exact W.widen (by omega) (by omega) (kk _ _ _ _ _ _ _ _ _ hI2 h ls hl)
set_option maxHeartbeats 1000000 in
set_option maxRecDepth 100000 in
theorem law_nextReminder {Inv : IT} (hn6 : ∀ t n σ0 σ τ, Inv t n σ0 σ τ → n ≤ 6) (S : SA_nextReminder Inv) {t n : Nat} {q0 : Nat → Nat} {q : Nat → Nat → Nat} {qm : Nat → Nat} {σ0 τ : Nat → Nat → Int32} {σ : Nat → Nat → Nat → Int32} {o o2 : Nat} {f : Nat → Int64} {f2 : Nat → UInt64} {i : Int32} (ht : t < 512) (hI : Inv t n σ0 σ τ)
    (X : LX p l s m args meth c D cA b L xs) (h : St D (nA s) s.heap (wL n q0 q qm cA σ0 σ τ o o2 f f2) H locs) (hi : HI i L) (hl : lv_has ls 8 (L0 b (q0 0) (qm 0) o o2 i)) (hc : cells + 20 ≤ 601024) (hs : slots + 263 ≤ 7293034)
    (kk : LK p l e s m args below meth c D cA b q0 qm o o2 Inv t i cells slots Q) : W p l e room_1 s m args below meth c H locs cells slots Q (F0 m 1201 ls []) := by
  obtain ⟨C, hl0, hX, hN, hscr, hbl⟩ := X
  obtain ⟨hi0, hi1, hi2, hi3, hi4, hi5⟩ := hi
  obtain ⟨hx, hb, hml, hown, hts, hK, hlk⟩ := id C
  have hbA : ¬ nA s b := Nat.not_le.mpr hbl
  have hn := hn6 _ _ _ _ _ hI
  obtain ⟨w, τ', h5, ⟨hf, hI2, hthr⟩ | ⟨hf, hI2, hthr⟩⟩ := S _ _ _ _ _ _ ht hI
  · refine lv_aload_n (pc := 1201) hx hb dL_law_1201 rfl (lv_at hl 1 rfl) ?_
    refine lv_aload_n (pc := 1202) hx hb dL_law_1202 rfl (lv_at hl 0 rfl) ?_
    refine lv_iload (pc := 1203) hx hb dL_law_1203 (lv_at hl 5 rfl) ?_
    refine lv_iconst (pc := 1205) (v := 1) hx hb dL_law_1205 (by decide) ?_
    refine lv_iadd (pc := 1206) hx hb dL_law_1206 ?_
    refine va_sld (pc := 1207) hx hb hscr hbl hbA h.2.2.1 hi1 dL_law_1207 ?_
    refine lv_aload_n (pc := 1208) hx hb dL_law_1208 rfl (lv_at hl 3 rfl) ?_
    refine call_W (pc := 1209) (rest := []) (As := [.ref (q0 0), .int (xs (i + 1).toNatClampNeg), .ref o]) (ws' := wL n q0 q qm cA σ0 σ τ o o2 (vp_updL f 0 w.toInt64) f2) C hl0 hX hN h (w_nextReminder hn σ0 σ (xs (i + 1).toNatClampNeg) hf o f) cx_L_185 (wL_L ..) (wL_L n q0 q qm cA σ0 σ τ o o2 (vp_updL f 0 w.toInt64) f2).symm (xL_fst ..) rfl rfl hl.1 (Nat.le_of_ble_eq_true rfl) dL_law_1209 ⟨(Nat.le_of_ble_eq_true rfl), (Nat.le_of_ble_eq_true rfl)⟩ rfl rfl ⟨by show cells + 1 ≤ 601024; omega, by show slots + 6 ≤ 7293034; omega⟩ (fun H locs h => ?_)
    refine W.eq (g2 := F0 m 1212 ls [.int 0]) rfl ?_
    refine lv_istore (pc := 1212) (lv' := [(6, .int 0), (0, .ref b), (1, .ref (q0 0)), (2, .ref (qm 0)), (3, .ref o), (4, .ref o2), (5, .int i)]) hx hb dL_law_1212 hl (by decide) rfl (fun ls hl => ?_)
    refine lv_aload_n (pc := 1214) hx hb dL_law_1214 rfl (lv_at hl 3 rfl) ?_
    refine lv_aload_n (pc := 1215) hx hb dL_law_1215 rfl (lv_at hl 1 rfl) ?_
    refine lv_iload (pc := 1216) hx hb dL_law_1216 (lv_at hl 6 rfl) ?_
    refine lv_iconst (pc := 1218) (v := 1) hx hb dL_law_1218 (by decide) ?_
    refine lv_iadd (pc := 1219) hx hb dL_law_1219 ?_
    refine va_sld (pc := 1220) hx hb hscr hbl hbA h.2.2.1 hi1 dL_law_1220 ?_
    refine call_VUp (pc := 1221) (rest := []) (As := [.int (xs (i + 1).toNatClampNeg)]) (wc' := mW qm cA τ') (ws' := wL n q0 q qm cA σ0 σ τ' o o2 (vp_updL f 0 w.toInt64) f2) C h (k_X5_nextReminder (q := qm) τ (xs (i + 1).toNatClampNeg) h5) cm_L_187 (mW_c0 ..) rfl (wL_M ..) (wL_M n q0 q qm cA σ0 σ τ' o o2 (vp_updL f 0 w.toInt64) f2).symm (mW_fst ..) rfl rfl hl.1 (Nat.le_of_ble_eq_true rfl) dL_law_1221 ⟨(Nat.le_of_ble_eq_true rfl), (Nat.le_of_ble_eq_true rfl)⟩ rfl rfl ⟨by show _ ≤ 601024; omega, by show _ ≤ 7293034; omega⟩ (fun H locs h => ?_)
    refine W.eq (g2 := F0 m 1224 ls [.int w]) rfl ?_
    refine lv_istore (pc := 1224) (lv' := [(7, .int w), (6, .int 0), (0, .ref b), (1, .ref (q0 0)), (2, .ref (qm 0)), (3, .ref o), (4, .ref o2), (5, .int i)]) hx hb dL_law_1224 hl (by decide) rfl (fun ls hl => ?_)
    refine lv_aload_n (pc := 1226) hx hb dL_law_1226 rfl (lv_at hl 4 rfl) ?_
    refine call_VRp (pc := 1227) (rest := []) (As := []) C h (k_X5_thrown (q := qm) τ' rfl) cm_L_131 (mW_c0 ..) rfl (wL_M ..) rfl rfl hl.1 (Nat.le_of_ble_eq_true rfl) dL_law_1227 ⟨(Nat.le_of_ble_eq_true rfl), (Nat.le_of_ble_eq_true rfl)⟩ rfl rfl ⟨by show _ ≤ 601024; omega, by show _ ≤ 7293034; omega⟩ (fun H locs h => ?_)
    refine W.eq (g2 := F0 m 1230 ls [.int (τ' 24 0)]) rfl ?_
    refine lv_iload (pc := 1230) hx hb dL_law_1230 (lv_at hl 1 rfl) ?_
    refine lv_icmp_eq (pc := 1232) (tgt := 1237) hx hb dL_law_1232 (by decide) (fun _ => ?_) (fun c9 => absurd hthr c9)
    refine lv_iload (pc := 1237) hx hb dL_law_1237 (lv_at hl 1 rfl) ?_
    refine lv_if_ne (pc := 1239) (tgt := 1254) hx hb dL_law_1239 (by decide) (fun c9 => absurd rfl c9) (fun _ => ?_)
    refine lv_aload_n (pc := 1242) hx hb dL_law_1242 rfl (lv_at hl 5 rfl) ?_
    refine lv_iconst (pc := 1243) (v := 0) hx hb dL_law_1243 (by decide) ?_
    refine va_lald (pc := 1244) hx hb hK.1 h.1 0 3 (wL_o ..) rfl (show inb (0 : Int32) 1 from by decide) dL_law_1244 ?_
    refine W.eq (g2 := F0 m 1245 ls [.long w.toInt64]) rfl ?_
    refine lv_iload (pc := 1245) hx hb dL_law_1245 (lv_at hl 0 rfl) ?_
    refine lv_i2l (pc := 1247) (v := w.toInt64) hx hb dL_law_1247 rfl ?_
    refine W.lcmp (pc := 1248) hx hb dL_law_1248 ?_
    rw [cmp_self]
    refine lv_if_eq (pc := 1249) (tgt := 1254) hx hb dL_law_1249 (by decide) (fun _ => ?_) (fun c9 => absurd rfl c9)
    refine lv_goto (pc := 1254) (tgt := 2364) hx hb dL_law_1254 (by decide) ?_
    exact W.widen (by omega) (by omega) (kk _ _ _ _ _ _ _ _ _ hI2 h ls (lv_sub hl [2, 3, 4, 5, 6, 7] rfl))
  · refine lv_aload_n (pc := 1201) hx hb dL_law_1201 rfl (lv_at hl 1 rfl) ?_
    refine lv_aload_n (pc := 1202) hx hb dL_law_1202 rfl (lv_at hl 0 rfl) ?_
    refine lv_iload (pc := 1203) hx hb dL_law_1203 (lv_at hl 5 rfl) ?_
    refine lv_iconst (pc := 1205) (v := 1) hx hb dL_law_1205 (by decide) ?_
    refine lv_iadd (pc := 1206) hx hb dL_law_1206 ?_
    refine va_sld (pc := 1207) hx hb hscr hbl hbA h.2.2.1 hi1 dL_law_1207 ?_
    refine lv_aload_n (pc := 1208) hx hb dL_law_1208 rfl (lv_at hl 3 rfl) ?_
    refine call_W (pc := 1209) (rest := []) (As := [.ref (q0 0), .int (xs (i + 1).toNatClampNeg), .ref o]) (ws' := wL n q0 q qm cA σ0 σ τ o o2 f f2) C hl0 hX hN h (wT_nextReminder_0 hn σ0 σ (xs (i + 1).toNatClampNeg) hf o f) cx_L_185 (wL_L ..) (wL_L n q0 q qm cA σ0 σ τ o o2 f f2).symm rfl rfl rfl hl.1 (Nat.le_of_ble_eq_true rfl) dL_law_1209 ⟨(Nat.le_of_ble_eq_true rfl), (Nat.le_of_ble_eq_true rfl)⟩ rfl rfl ⟨by show cells + 1 ≤ 601024; omega, by show slots + 6 ≤ 7293034; omega⟩ (fun H locs h => ?_)
    refine W.eq (g2 := F0 m 1212 ls [.int 1]) rfl ?_
    refine lv_istore (pc := 1212) (lv' := [(6, .int 1), (0, .ref b), (1, .ref (q0 0)), (2, .ref (qm 0)), (3, .ref o), (4, .ref o2), (5, .int i)]) hx hb dL_law_1212 hl (by decide) rfl (fun ls hl => ?_)
    refine lv_aload_n (pc := 1214) hx hb dL_law_1214 rfl (lv_at hl 3 rfl) ?_
    refine lv_aload_n (pc := 1215) hx hb dL_law_1215 rfl (lv_at hl 1 rfl) ?_
    refine lv_iload (pc := 1216) hx hb dL_law_1216 (lv_at hl 6 rfl) ?_
    refine lv_iconst (pc := 1218) (v := 1) hx hb dL_law_1218 (by decide) ?_
    refine lv_iadd (pc := 1219) hx hb dL_law_1219 ?_
    refine va_sld (pc := 1220) hx hb hscr hbl hbA h.2.2.1 hi1 dL_law_1220 ?_
    refine call_VUp (pc := 1221) (rest := []) (As := [.int (xs (i + 1).toNatClampNeg)]) (wc' := mW qm cA τ') (ws' := wL n q0 q qm cA σ0 σ τ' o o2 f f2) C h (k_X5_nextReminder (q := qm) τ (xs (i + 1).toNatClampNeg) h5) cm_L_187 (mW_c0 ..) rfl (wL_M ..) (wL_M n q0 q qm cA σ0 σ τ' o o2 f f2).symm (mW_fst ..) rfl rfl hl.1 (Nat.le_of_ble_eq_true rfl) dL_law_1221 ⟨(Nat.le_of_ble_eq_true rfl), (Nat.le_of_ble_eq_true rfl)⟩ rfl rfl ⟨by show _ ≤ 601024; omega, by show _ ≤ 7293034; omega⟩ (fun H locs h => ?_)
    refine W.eq (g2 := F0 m 1224 ls [.int w]) rfl ?_
    refine lv_istore (pc := 1224) (lv' := [(7, .int w), (6, .int 1), (0, .ref b), (1, .ref (q0 0)), (2, .ref (qm 0)), (3, .ref o), (4, .ref o2), (5, .int i)]) hx hb dL_law_1224 hl (by decide) rfl (fun ls hl => ?_)
    refine lv_aload_n (pc := 1226) hx hb dL_law_1226 rfl (lv_at hl 4 rfl) ?_
    refine call_VRp (pc := 1227) (rest := []) (As := []) C h (k_X5_thrown (q := qm) τ' rfl) cm_L_131 (mW_c0 ..) rfl (wL_M ..) rfl rfl hl.1 (Nat.le_of_ble_eq_true rfl) dL_law_1227 ⟨(Nat.le_of_ble_eq_true rfl), (Nat.le_of_ble_eq_true rfl)⟩ rfl rfl ⟨by show _ ≤ 601024; omega, by show _ ≤ 7293034; omega⟩ (fun H locs h => ?_)
    refine W.eq (g2 := F0 m 1230 ls [.int (τ' 24 0)]) rfl ?_
    refine lv_iload (pc := 1230) hx hb dL_law_1230 (lv_at hl 1 rfl) ?_
    refine lv_icmp_eq (pc := 1232) (tgt := 1237) hx hb dL_law_1232 (by decide) (fun _ => ?_) (fun c9 => absurd hthr c9)
    refine lv_iload (pc := 1237) hx hb dL_law_1237 (lv_at hl 1 rfl) ?_
    refine lv_if_ne (pc := 1239) (tgt := 1254) hx hb dL_law_1239 (by decide) (fun _ => ?_) (fun c9 => absurd c9 (by decide))
    refine lv_goto (pc := 1254) (tgt := 2364) hx hb dL_law_1254 (by decide) ?_
    exact W.widen (by omega) (by omega) (kk _ _ _ _ _ _ _ _ _ hI2 h ls (lv_sub hl [2, 3, 4, 5, 6, 7] rfl))
set_option maxHeartbeats 1000000 in
set_option maxRecDepth 100000 in
theorem law_envelopes {Inv : IT} (hn6 : ∀ t n σ0 σ τ, Inv t n σ0 σ τ → n ≤ 6) (S : SA_envelopes Inv) {t n : Nat} {q0 : Nat → Nat} {q : Nat → Nat → Nat} {qm : Nat → Nat} {σ0 τ : Nat → Nat → Int32} {σ : Nat → Nat → Nat → Int32} {o o2 : Nat} {f : Nat → Int64} {f2 : Nat → UInt64} {i : Int32} (ht : t < 512) (hI : Inv t n σ0 σ τ)
    (X : LX p l s m args meth c D cA b L xs) (h : St D (nA s) s.heap (wL n q0 q qm cA σ0 σ τ o o2 f f2) H locs) (hi : HI i L) (hl : lv_has ls 8 (L0 b (q0 0) (qm 0) o o2 i)) (hc : cells + 20 ≤ 601024) (hs : slots + 263 ≤ 7293034)
    (kk : LK p l e s m args below meth c D cA b q0 qm o o2 Inv t i cells slots Q) : W p l e room_1 s m args below meth c H locs cells slots Q (F0 m 1257 ls []) := by
  obtain ⟨C, hl0, hX, hN, hscr, hbl⟩ := X
  obtain ⟨hi0, hi1, hi2, hi3, hi4, hi5⟩ := hi
  obtain ⟨hx, hb, hml, hown, hts, hK, hlk⟩ := id C
  have hbA : ¬ nA s b := Nat.not_le.mpr hbl
  have hn := hn6 _ _ _ _ _ hI
  obtain ⟨τ', h5, hI2⟩ := S _ _ _ _ _ ht hI
  refine lv_aload_n (pc := 1257) hx hb dL_law_1257 rfl (lv_at hl 1 rfl) ?_
  refine call_VRp (pc := 1258) (rest := []) (As := []) C h (k_X4_envelopes hn (q := q) σ0 σ rfl) cm_L_188 (cm_xL ..) rfl (wL_S ..) rfl rfl hl.1 (Nat.le_of_ble_eq_true rfl) dL_law_1258 ⟨(Nat.le_of_ble_eq_true rfl), (Nat.le_of_ble_eq_true rfl)⟩ rfl rfl ⟨by show _ ≤ 601024; omega, by show _ ≤ 7293034; omega⟩ (fun H locs h => ?_)
  refine W.eq (g2 := F0 m 1261 ls [.int (f_X4_envelopes n σ0 σ)]) rfl ?_
  refine lv_aload_n (pc := 1261) hx hb dL_law_1261 rfl (lv_at hl 2 rfl) ?_
  refine call_VUp (pc := 1262) (rest := [.int (f_X4_envelopes n σ0 σ)]) (As := []) (wc' := mW qm cA τ') (ws' := wL n q0 q qm cA σ0 σ τ' o o2 f f2) C h (k_X5_envelopes (q := qm) τ h5) cm_L_191 (mW_c0 ..) rfl (wL_M ..) (wL_M n q0 q qm cA σ0 σ τ' o o2 f f2).symm (mW_fst ..) rfl rfl hl.1 (Nat.le_of_ble_eq_true rfl) dL_law_1262 ⟨(Nat.le_of_ble_eq_true rfl), (Nat.le_of_ble_eq_true rfl)⟩ rfl rfl ⟨by show _ ≤ 601024; omega, by show _ ≤ 7293034; omega⟩ (fun H locs h => ?_)
  refine W.eq (g2 := F0 m 1265 ls [.int (f_X4_envelopes n σ0 σ), .int (f_X4_envelopes n σ0 σ)]) rfl ?_
  refine lv_icmp_eq (pc := 1265) (tgt := 2364) hx hb dL_law_1265 (by decide) (fun _ => ?_) (fun c9 => absurd rfl c9)
  exact W.widen (by omega) (by omega) (kk _ _ _ _ _ _ _ _ _ hI2 h ls hl)
set_option maxHeartbeats 1000000 in
set_option maxRecDepth 100000 in
theorem law_state {Inv : IT} (hn6 : ∀ t n σ0 σ τ, Inv t n σ0 σ τ → n ≤ 6) (S : SA_state Inv) {t n : Nat} {q0 : Nat → Nat} {q : Nat → Nat → Nat} {qm : Nat → Nat} {σ0 τ : Nat → Nat → Int32} {σ : Nat → Nat → Nat → Int32} {o o2 : Nat} {f : Nat → Int64} {f2 : Nat → UInt64} {i : Int32} (ht : t < 512) (hI : Inv t n σ0 σ τ)
    (X : LX p l s m args meth c D cA b L xs) (h : St D (nA s) s.heap (wL n q0 q qm cA σ0 σ τ o o2 f f2) H locs) (hi : HI i L) (hl : lv_has ls 8 (L0 b (q0 0) (qm 0) o o2 i)) (hc : cells + 20 ≤ 601024) (hs : slots + 263 ≤ 7293034)
    (kk : LK p l e s m args below meth c D cA b q0 qm o o2 Inv t i cells slots Q) : W p l e room_1 s m args below meth c H locs cells slots Q (F0 m 1270 ls []) := by
  obtain ⟨C, hl0, hX, hN, hscr, hbl⟩ := X
  obtain ⟨hi0, hi1, hi2, hi3, hi4, hi5⟩ := hi
  obtain ⟨hx, hb, hml, hown, hts, hK, hlk⟩ := id C
  have hbA : ¬ nA s b := Nat.not_le.mpr hbl
  have hn := hn6 _ _ _ _ _ hI
  obtain ⟨w, τ', h5, ⟨hf, hI2, hthr⟩ | ⟨hf, hI2, hthr⟩⟩ := S _ _ _ _ _ _ ht hI
  · refine lv_aload_n (pc := 1270) hx hb dL_law_1270 rfl (lv_at hl 1 rfl) ?_
    refine lv_aload_n (pc := 1271) hx hb dL_law_1271 rfl (lv_at hl 0 rfl) ?_
    refine lv_iload (pc := 1272) hx hb dL_law_1272 (lv_at hl 5 rfl) ?_
    refine lv_iconst (pc := 1274) (v := 1) hx hb dL_law_1274 (by decide) ?_
    refine lv_iadd (pc := 1275) hx hb dL_law_1275 ?_
    refine va_sld (pc := 1276) hx hb hscr hbl hbA h.2.2.1 hi1 dL_law_1276 ?_
    refine lv_aload_n (pc := 1277) hx hb dL_law_1277 rfl (lv_at hl 3 rfl) ?_
    refine call_W (pc := 1278) (rest := []) (As := [.ref (q0 0), .int (xs (i + 1).toNatClampNeg), .ref o]) (ws' := wL n q0 q qm cA σ0 σ τ o o2 (vp_updL f 0 w.toInt64) f2) C hl0 hX hN h (w_state hn σ0 σ (xs (i + 1).toNatClampNeg) hf o f) cx_L_192 (wL_L ..) (wL_L n q0 q qm cA σ0 σ τ o o2 (vp_updL f 0 w.toInt64) f2).symm (xL_fst ..) rfl rfl hl.1 (Nat.le_of_ble_eq_true rfl) dL_law_1278 ⟨(Nat.le_of_ble_eq_true rfl), (Nat.le_of_ble_eq_true rfl)⟩ rfl rfl ⟨by show cells + 1 ≤ 601024; omega, by show slots + 6 ≤ 7293034; omega⟩ (fun H locs h => ?_)
    refine W.eq (g2 := F0 m 1281 ls [.int 0]) rfl ?_
    refine lv_istore (pc := 1281) (lv' := [(6, .int 0), (0, .ref b), (1, .ref (q0 0)), (2, .ref (qm 0)), (3, .ref o), (4, .ref o2), (5, .int i)]) hx hb dL_law_1281 hl (by decide) rfl (fun ls hl => ?_)
    refine lv_aload_n (pc := 1283) hx hb dL_law_1283 rfl (lv_at hl 3 rfl) ?_
    refine lv_aload_n (pc := 1284) hx hb dL_law_1284 rfl (lv_at hl 1 rfl) ?_
    refine lv_iload (pc := 1285) hx hb dL_law_1285 (lv_at hl 6 rfl) ?_
    refine lv_iconst (pc := 1287) (v := 1) hx hb dL_law_1287 (by decide) ?_
    refine lv_iadd (pc := 1288) hx hb dL_law_1288 ?_
    refine va_sld (pc := 1289) hx hb hscr hbl hbA h.2.2.1 hi1 dL_law_1289 ?_
    refine call_VUp (pc := 1290) (rest := []) (As := [.int (xs (i + 1).toNatClampNeg)]) (wc' := mW qm cA τ') (ws' := wL n q0 q qm cA σ0 σ τ' o o2 (vp_updL f 0 w.toInt64) f2) C h (k_X5_state (q := qm) τ (xs (i + 1).toNatClampNeg) h5) cm_L_194 (mW_c0 ..) rfl (wL_M ..) (wL_M n q0 q qm cA σ0 σ τ' o o2 (vp_updL f 0 w.toInt64) f2).symm (mW_fst ..) rfl rfl hl.1 (Nat.le_of_ble_eq_true rfl) dL_law_1290 ⟨(Nat.le_of_ble_eq_true rfl), (Nat.le_of_ble_eq_true rfl)⟩ rfl rfl ⟨by show _ ≤ 601024; omega, by show _ ≤ 7293034; omega⟩ (fun H locs h => ?_)
    refine W.eq (g2 := F0 m 1293 ls [.int w]) rfl ?_
    refine lv_istore (pc := 1293) (lv' := [(7, .int w), (6, .int 0), (0, .ref b), (1, .ref (q0 0)), (2, .ref (qm 0)), (3, .ref o), (4, .ref o2), (5, .int i)]) hx hb dL_law_1293 hl (by decide) rfl (fun ls hl => ?_)
    refine lv_aload_n (pc := 1295) hx hb dL_law_1295 rfl (lv_at hl 4 rfl) ?_
    refine call_VRp (pc := 1296) (rest := []) (As := []) C h (k_X5_thrown (q := qm) τ' rfl) cm_L_131 (mW_c0 ..) rfl (wL_M ..) rfl rfl hl.1 (Nat.le_of_ble_eq_true rfl) dL_law_1296 ⟨(Nat.le_of_ble_eq_true rfl), (Nat.le_of_ble_eq_true rfl)⟩ rfl rfl ⟨by show _ ≤ 601024; omega, by show _ ≤ 7293034; omega⟩ (fun H locs h => ?_)
    refine W.eq (g2 := F0 m 1299 ls [.int (τ' 24 0)]) rfl ?_
    refine lv_iload (pc := 1299) hx hb dL_law_1299 (lv_at hl 1 rfl) ?_
    refine lv_icmp_eq (pc := 1301) (tgt := 1306) hx hb dL_law_1301 (by decide) (fun _ => ?_) (fun c9 => absurd hthr c9)
    refine lv_iload (pc := 1306) hx hb dL_law_1306 (lv_at hl 1 rfl) ?_
    refine lv_if_ne (pc := 1308) (tgt := 1323) hx hb dL_law_1308 (by decide) (fun c9 => absurd rfl c9) (fun _ => ?_)
    refine lv_aload_n (pc := 1311) hx hb dL_law_1311 rfl (lv_at hl 5 rfl) ?_
    refine lv_iconst (pc := 1312) (v := 0) hx hb dL_law_1312 (by decide) ?_
    refine va_lald (pc := 1313) hx hb hK.1 h.1 0 3 (wL_o ..) rfl (show inb (0 : Int32) 1 from by decide) dL_law_1313 ?_
    refine W.eq (g2 := F0 m 1314 ls [.long w.toInt64]) rfl ?_
    refine lv_iload (pc := 1314) hx hb dL_law_1314 (lv_at hl 0 rfl) ?_
    refine lv_i2l (pc := 1316) (v := w.toInt64) hx hb dL_law_1316 rfl ?_
    refine W.lcmp (pc := 1317) hx hb dL_law_1317 ?_
    rw [cmp_self]
    refine lv_if_eq (pc := 1318) (tgt := 1323) hx hb dL_law_1318 (by decide) (fun _ => ?_) (fun c9 => absurd rfl c9)
    refine lv_goto (pc := 1323) (tgt := 2364) hx hb dL_law_1323 (by decide) ?_
    exact W.widen (by omega) (by omega) (kk _ _ _ _ _ _ _ _ _ hI2 h ls (lv_sub hl [2, 3, 4, 5, 6, 7] rfl))
  · refine lv_aload_n (pc := 1270) hx hb dL_law_1270 rfl (lv_at hl 1 rfl) ?_
    refine lv_aload_n (pc := 1271) hx hb dL_law_1271 rfl (lv_at hl 0 rfl) ?_
    refine lv_iload (pc := 1272) hx hb dL_law_1272 (lv_at hl 5 rfl) ?_
    refine lv_iconst (pc := 1274) (v := 1) hx hb dL_law_1274 (by decide) ?_
    refine lv_iadd (pc := 1275) hx hb dL_law_1275 ?_
    refine va_sld (pc := 1276) hx hb hscr hbl hbA h.2.2.1 hi1 dL_law_1276 ?_
    refine lv_aload_n (pc := 1277) hx hb dL_law_1277 rfl (lv_at hl 3 rfl) ?_
    refine call_W (pc := 1278) (rest := []) (As := [.ref (q0 0), .int (xs (i + 1).toNatClampNeg), .ref o]) (ws' := wL n q0 q qm cA σ0 σ τ o o2 f f2) C hl0 hX hN h (wT_state_0 hn σ0 σ (xs (i + 1).toNatClampNeg) hf o f) cx_L_192 (wL_L ..) (wL_L n q0 q qm cA σ0 σ τ o o2 f f2).symm rfl rfl rfl hl.1 (Nat.le_of_ble_eq_true rfl) dL_law_1278 ⟨(Nat.le_of_ble_eq_true rfl), (Nat.le_of_ble_eq_true rfl)⟩ rfl rfl ⟨by show cells + 1 ≤ 601024; omega, by show slots + 6 ≤ 7293034; omega⟩ (fun H locs h => ?_)
    refine W.eq (g2 := F0 m 1281 ls [.int 1]) rfl ?_
    refine lv_istore (pc := 1281) (lv' := [(6, .int 1), (0, .ref b), (1, .ref (q0 0)), (2, .ref (qm 0)), (3, .ref o), (4, .ref o2), (5, .int i)]) hx hb dL_law_1281 hl (by decide) rfl (fun ls hl => ?_)
    refine lv_aload_n (pc := 1283) hx hb dL_law_1283 rfl (lv_at hl 3 rfl) ?_
    refine lv_aload_n (pc := 1284) hx hb dL_law_1284 rfl (lv_at hl 1 rfl) ?_
    refine lv_iload (pc := 1285) hx hb dL_law_1285 (lv_at hl 6 rfl) ?_
    refine lv_iconst (pc := 1287) (v := 1) hx hb dL_law_1287 (by decide) ?_
    refine lv_iadd (pc := 1288) hx hb dL_law_1288 ?_
    refine va_sld (pc := 1289) hx hb hscr hbl hbA h.2.2.1 hi1 dL_law_1289 ?_
    refine call_VUp (pc := 1290) (rest := []) (As := [.int (xs (i + 1).toNatClampNeg)]) (wc' := mW qm cA τ') (ws' := wL n q0 q qm cA σ0 σ τ' o o2 f f2) C h (k_X5_state (q := qm) τ (xs (i + 1).toNatClampNeg) h5) cm_L_194 (mW_c0 ..) rfl (wL_M ..) (wL_M n q0 q qm cA σ0 σ τ' o o2 f f2).symm (mW_fst ..) rfl rfl hl.1 (Nat.le_of_ble_eq_true rfl) dL_law_1290 ⟨(Nat.le_of_ble_eq_true rfl), (Nat.le_of_ble_eq_true rfl)⟩ rfl rfl ⟨by show _ ≤ 601024; omega, by show _ ≤ 7293034; omega⟩ (fun H locs h => ?_)
    refine W.eq (g2 := F0 m 1293 ls [.int w]) rfl ?_
    refine lv_istore (pc := 1293) (lv' := [(7, .int w), (6, .int 1), (0, .ref b), (1, .ref (q0 0)), (2, .ref (qm 0)), (3, .ref o), (4, .ref o2), (5, .int i)]) hx hb dL_law_1293 hl (by decide) rfl (fun ls hl => ?_)
    refine lv_aload_n (pc := 1295) hx hb dL_law_1295 rfl (lv_at hl 4 rfl) ?_
    refine call_VRp (pc := 1296) (rest := []) (As := []) C h (k_X5_thrown (q := qm) τ' rfl) cm_L_131 (mW_c0 ..) rfl (wL_M ..) rfl rfl hl.1 (Nat.le_of_ble_eq_true rfl) dL_law_1296 ⟨(Nat.le_of_ble_eq_true rfl), (Nat.le_of_ble_eq_true rfl)⟩ rfl rfl ⟨by show _ ≤ 601024; omega, by show _ ≤ 7293034; omega⟩ (fun H locs h => ?_)
    refine W.eq (g2 := F0 m 1299 ls [.int (τ' 24 0)]) rfl ?_
    refine lv_iload (pc := 1299) hx hb dL_law_1299 (lv_at hl 1 rfl) ?_
    refine lv_icmp_eq (pc := 1301) (tgt := 1306) hx hb dL_law_1301 (by decide) (fun _ => ?_) (fun c9 => absurd hthr c9)
    refine lv_iload (pc := 1306) hx hb dL_law_1306 (lv_at hl 1 rfl) ?_
    refine lv_if_ne (pc := 1308) (tgt := 1323) hx hb dL_law_1308 (by decide) (fun _ => ?_) (fun c9 => absurd c9 (by decide))
    refine lv_goto (pc := 1323) (tgt := 2364) hx hb dL_law_1323 (by decide) ?_
    exact W.widen (by omega) (by omega) (kk _ _ _ _ _ _ _ _ _ hI2 h ls (lv_sub hl [2, 3, 4, 5, 6, 7] rfl))
set_option maxHeartbeats 1000000 in
set_option maxRecDepth 100000 in
theorem law_slots {Inv : IT} (hn6 : ∀ t n σ0 σ τ, Inv t n σ0 σ τ → n ≤ 6) (S : SA_slots Inv) {t n : Nat} {q0 : Nat → Nat} {q : Nat → Nat → Nat} {qm : Nat → Nat} {σ0 τ : Nat → Nat → Int32} {σ : Nat → Nat → Nat → Int32} {o o2 : Nat} {f : Nat → Int64} {f2 : Nat → UInt64} {i : Int32} (ht : t < 512) (hI : Inv t n σ0 σ τ)
    (X : LX p l s m args meth c D cA b L xs) (h : St D (nA s) s.heap (wL n q0 q qm cA σ0 σ τ o o2 f f2) H locs) (hi : HI i L) (hl : lv_has ls 8 (L0 b (q0 0) (qm 0) o o2 i)) (hc : cells + 20 ≤ 601024) (hs : slots + 263 ≤ 7293034)
    (kk : LK p l e s m args below meth c D cA b q0 qm o o2 Inv t i cells slots Q) : W p l e room_1 s m args below meth c H locs cells slots Q (F0 m 1326 ls []) := by
  obtain ⟨C, hl0, hX, hN, hscr, hbl⟩ := X
  obtain ⟨hi0, hi1, hi2, hi3, hi4, hi5⟩ := hi
  obtain ⟨hx, hb, hml, hown, hts, hK, hlk⟩ := id C
  have hbA : ¬ nA s b := Nat.not_le.mpr hbl
  have hn := hn6 _ _ _ _ _ hI
  obtain ⟨w, τ', h5, ⟨hf, hI2, hthr⟩ | ⟨hf, hI2, hthr⟩⟩ := S _ _ _ _ _ _ ht hI
  · refine lv_aload_n (pc := 1326) hx hb dL_law_1326 rfl (lv_at hl 1 rfl) ?_
    refine lv_aload_n (pc := 1327) hx hb dL_law_1327 rfl (lv_at hl 0 rfl) ?_
    refine lv_iload (pc := 1328) hx hb dL_law_1328 (lv_at hl 5 rfl) ?_
    refine lv_iconst (pc := 1330) (v := 1) hx hb dL_law_1330 (by decide) ?_
    refine lv_iadd (pc := 1331) hx hb dL_law_1331 ?_
    refine va_sld (pc := 1332) hx hb hscr hbl hbA h.2.2.1 hi1 dL_law_1332 ?_
    refine lv_aload_n (pc := 1333) hx hb dL_law_1333 rfl (lv_at hl 3 rfl) ?_
    refine call_W (pc := 1334) (rest := []) (As := [.ref (q0 0), .int (xs (i + 1).toNatClampNeg), .ref o]) (ws' := wL n q0 q qm cA σ0 σ τ o o2 (vp_updL f 0 w.toInt64) f2) C hl0 hX hN h (w_slots hn σ0 σ (xs (i + 1).toNatClampNeg) hf o f) cx_L_195 (wL_L ..) (wL_L n q0 q qm cA σ0 σ τ o o2 (vp_updL f 0 w.toInt64) f2).symm (xL_fst ..) rfl rfl hl.1 (Nat.le_of_ble_eq_true rfl) dL_law_1334 ⟨(Nat.le_of_ble_eq_true rfl), (Nat.le_of_ble_eq_true rfl)⟩ rfl rfl ⟨by show cells + 1 ≤ 601024; omega, by show slots + 6 ≤ 7293034; omega⟩ (fun H locs h => ?_)
    refine W.eq (g2 := F0 m 1337 ls [.int 0]) rfl ?_
    refine lv_istore (pc := 1337) (lv' := [(6, .int 0), (0, .ref b), (1, .ref (q0 0)), (2, .ref (qm 0)), (3, .ref o), (4, .ref o2), (5, .int i)]) hx hb dL_law_1337 hl (by decide) rfl (fun ls hl => ?_)
    refine lv_aload_n (pc := 1339) hx hb dL_law_1339 rfl (lv_at hl 3 rfl) ?_
    refine lv_aload_n (pc := 1340) hx hb dL_law_1340 rfl (lv_at hl 1 rfl) ?_
    refine lv_iload (pc := 1341) hx hb dL_law_1341 (lv_at hl 6 rfl) ?_
    refine lv_iconst (pc := 1343) (v := 1) hx hb dL_law_1343 (by decide) ?_
    refine lv_iadd (pc := 1344) hx hb dL_law_1344 ?_
    refine va_sld (pc := 1345) hx hb hscr hbl hbA h.2.2.1 hi1 dL_law_1345 ?_
    refine call_VUp (pc := 1346) (rest := []) (As := [.int (xs (i + 1).toNatClampNeg)]) (wc' := mW qm cA τ') (ws' := wL n q0 q qm cA σ0 σ τ' o o2 (vp_updL f 0 w.toInt64) f2) C h (k_X5_slots (q := qm) τ (xs (i + 1).toNatClampNeg) h5) cm_L_197 (mW_c0 ..) rfl (wL_M ..) (wL_M n q0 q qm cA σ0 σ τ' o o2 (vp_updL f 0 w.toInt64) f2).symm (mW_fst ..) rfl rfl hl.1 (Nat.le_of_ble_eq_true rfl) dL_law_1346 ⟨(Nat.le_of_ble_eq_true rfl), (Nat.le_of_ble_eq_true rfl)⟩ rfl rfl ⟨by show _ ≤ 601024; omega, by show _ ≤ 7293034; omega⟩ (fun H locs h => ?_)
    refine W.eq (g2 := F0 m 1349 ls [.int w]) rfl ?_
    refine lv_istore (pc := 1349) (lv' := [(7, .int w), (6, .int 0), (0, .ref b), (1, .ref (q0 0)), (2, .ref (qm 0)), (3, .ref o), (4, .ref o2), (5, .int i)]) hx hb dL_law_1349 hl (by decide) rfl (fun ls hl => ?_)
    refine lv_aload_n (pc := 1351) hx hb dL_law_1351 rfl (lv_at hl 4 rfl) ?_
    refine call_VRp (pc := 1352) (rest := []) (As := []) C h (k_X5_thrown (q := qm) τ' rfl) cm_L_131 (mW_c0 ..) rfl (wL_M ..) rfl rfl hl.1 (Nat.le_of_ble_eq_true rfl) dL_law_1352 ⟨(Nat.le_of_ble_eq_true rfl), (Nat.le_of_ble_eq_true rfl)⟩ rfl rfl ⟨by show _ ≤ 601024; omega, by show _ ≤ 7293034; omega⟩ (fun H locs h => ?_)
    refine W.eq (g2 := F0 m 1355 ls [.int (τ' 24 0)]) rfl ?_
    refine lv_iload (pc := 1355) hx hb dL_law_1355 (lv_at hl 1 rfl) ?_
    refine lv_icmp_eq (pc := 1357) (tgt := 1362) hx hb dL_law_1357 (by decide) (fun _ => ?_) (fun c9 => absurd hthr c9)
    refine lv_iload (pc := 1362) hx hb dL_law_1362 (lv_at hl 1 rfl) ?_
    refine lv_if_ne (pc := 1364) (tgt := 1379) hx hb dL_law_1364 (by decide) (fun c9 => absurd rfl c9) (fun _ => ?_)
    refine lv_aload_n (pc := 1367) hx hb dL_law_1367 rfl (lv_at hl 5 rfl) ?_
    refine lv_iconst (pc := 1368) (v := 0) hx hb dL_law_1368 (by decide) ?_
    refine va_lald (pc := 1369) hx hb hK.1 h.1 0 3 (wL_o ..) rfl (show inb (0 : Int32) 1 from by decide) dL_law_1369 ?_
    refine W.eq (g2 := F0 m 1370 ls [.long w.toInt64]) rfl ?_
    refine lv_iload (pc := 1370) hx hb dL_law_1370 (lv_at hl 0 rfl) ?_
    refine lv_i2l (pc := 1372) (v := w.toInt64) hx hb dL_law_1372 rfl ?_
    refine W.lcmp (pc := 1373) hx hb dL_law_1373 ?_
    rw [cmp_self]
    refine lv_if_eq (pc := 1374) (tgt := 1379) hx hb dL_law_1374 (by decide) (fun _ => ?_) (fun c9 => absurd rfl c9)
    refine lv_goto (pc := 1379) (tgt := 2364) hx hb dL_law_1379 (by decide) ?_
    exact W.widen (by omega) (by omega) (kk _ _ _ _ _ _ _ _ _ hI2 h ls (lv_sub hl [2, 3, 4, 5, 6, 7] rfl))
  · refine lv_aload_n (pc := 1326) hx hb dL_law_1326 rfl (lv_at hl 1 rfl) ?_
    refine lv_aload_n (pc := 1327) hx hb dL_law_1327 rfl (lv_at hl 0 rfl) ?_
    refine lv_iload (pc := 1328) hx hb dL_law_1328 (lv_at hl 5 rfl) ?_
    refine lv_iconst (pc := 1330) (v := 1) hx hb dL_law_1330 (by decide) ?_
    refine lv_iadd (pc := 1331) hx hb dL_law_1331 ?_
    refine va_sld (pc := 1332) hx hb hscr hbl hbA h.2.2.1 hi1 dL_law_1332 ?_
    refine lv_aload_n (pc := 1333) hx hb dL_law_1333 rfl (lv_at hl 3 rfl) ?_
    refine call_W (pc := 1334) (rest := []) (As := [.ref (q0 0), .int (xs (i + 1).toNatClampNeg), .ref o]) (ws' := wL n q0 q qm cA σ0 σ τ o o2 f f2) C hl0 hX hN h (wT_slots_0 hn σ0 σ (xs (i + 1).toNatClampNeg) hf o f) cx_L_195 (wL_L ..) (wL_L n q0 q qm cA σ0 σ τ o o2 f f2).symm rfl rfl rfl hl.1 (Nat.le_of_ble_eq_true rfl) dL_law_1334 ⟨(Nat.le_of_ble_eq_true rfl), (Nat.le_of_ble_eq_true rfl)⟩ rfl rfl ⟨by show cells + 1 ≤ 601024; omega, by show slots + 6 ≤ 7293034; omega⟩ (fun H locs h => ?_)
    refine W.eq (g2 := F0 m 1337 ls [.int 1]) rfl ?_
    refine lv_istore (pc := 1337) (lv' := [(6, .int 1), (0, .ref b), (1, .ref (q0 0)), (2, .ref (qm 0)), (3, .ref o), (4, .ref o2), (5, .int i)]) hx hb dL_law_1337 hl (by decide) rfl (fun ls hl => ?_)
    refine lv_aload_n (pc := 1339) hx hb dL_law_1339 rfl (lv_at hl 3 rfl) ?_
    refine lv_aload_n (pc := 1340) hx hb dL_law_1340 rfl (lv_at hl 1 rfl) ?_
    refine lv_iload (pc := 1341) hx hb dL_law_1341 (lv_at hl 6 rfl) ?_
    refine lv_iconst (pc := 1343) (v := 1) hx hb dL_law_1343 (by decide) ?_
    refine lv_iadd (pc := 1344) hx hb dL_law_1344 ?_
    refine va_sld (pc := 1345) hx hb hscr hbl hbA h.2.2.1 hi1 dL_law_1345 ?_
    refine call_VUp (pc := 1346) (rest := []) (As := [.int (xs (i + 1).toNatClampNeg)]) (wc' := mW qm cA τ') (ws' := wL n q0 q qm cA σ0 σ τ' o o2 f f2) C h (k_X5_slots (q := qm) τ (xs (i + 1).toNatClampNeg) h5) cm_L_197 (mW_c0 ..) rfl (wL_M ..) (wL_M n q0 q qm cA σ0 σ τ' o o2 f f2).symm (mW_fst ..) rfl rfl hl.1 (Nat.le_of_ble_eq_true rfl) dL_law_1346 ⟨(Nat.le_of_ble_eq_true rfl), (Nat.le_of_ble_eq_true rfl)⟩ rfl rfl ⟨by show _ ≤ 601024; omega, by show _ ≤ 7293034; omega⟩ (fun H locs h => ?_)
    refine W.eq (g2 := F0 m 1349 ls [.int w]) rfl ?_
    refine lv_istore (pc := 1349) (lv' := [(7, .int w), (6, .int 1), (0, .ref b), (1, .ref (q0 0)), (2, .ref (qm 0)), (3, .ref o), (4, .ref o2), (5, .int i)]) hx hb dL_law_1349 hl (by decide) rfl (fun ls hl => ?_)
    refine lv_aload_n (pc := 1351) hx hb dL_law_1351 rfl (lv_at hl 4 rfl) ?_
    refine call_VRp (pc := 1352) (rest := []) (As := []) C h (k_X5_thrown (q := qm) τ' rfl) cm_L_131 (mW_c0 ..) rfl (wL_M ..) rfl rfl hl.1 (Nat.le_of_ble_eq_true rfl) dL_law_1352 ⟨(Nat.le_of_ble_eq_true rfl), (Nat.le_of_ble_eq_true rfl)⟩ rfl rfl ⟨by show _ ≤ 601024; omega, by show _ ≤ 7293034; omega⟩ (fun H locs h => ?_)
    refine W.eq (g2 := F0 m 1355 ls [.int (τ' 24 0)]) rfl ?_
    refine lv_iload (pc := 1355) hx hb dL_law_1355 (lv_at hl 1 rfl) ?_
    refine lv_icmp_eq (pc := 1357) (tgt := 1362) hx hb dL_law_1357 (by decide) (fun _ => ?_) (fun c9 => absurd hthr c9)
    refine lv_iload (pc := 1362) hx hb dL_law_1362 (lv_at hl 1 rfl) ?_
    refine lv_if_ne (pc := 1364) (tgt := 1379) hx hb dL_law_1364 (by decide) (fun _ => ?_) (fun c9 => absurd c9 (by decide))
    refine lv_goto (pc := 1379) (tgt := 2364) hx hb dL_law_1379 (by decide) ?_
    exact W.widen (by omega) (by omega) (kk _ _ _ _ _ _ _ _ _ hI2 h ls (lv_sub hl [2, 3, 4, 5, 6, 7] rfl))
set_option maxHeartbeats 1000000 in
set_option maxRecDepth 100000 in
theorem law_slotState {Inv : IT} (hn6 : ∀ t n σ0 σ τ, Inv t n σ0 σ τ → n ≤ 6) (S : SA_slotState Inv) {t n : Nat} {q0 : Nat → Nat} {q : Nat → Nat → Nat} {qm : Nat → Nat} {σ0 τ : Nat → Nat → Int32} {σ : Nat → Nat → Nat → Int32} {o o2 : Nat} {f : Nat → Int64} {f2 : Nat → UInt64} {i : Int32} (ht : t < 512) (hI : Inv t n σ0 σ τ)
    (X : LX p l s m args meth c D cA b L xs) (h : St D (nA s) s.heap (wL n q0 q qm cA σ0 σ τ o o2 f f2) H locs) (hi : HI i L) (hl : lv_has ls 8 (L0 b (q0 0) (qm 0) o o2 i)) (hc : cells + 20 ≤ 601024) (hs : slots + 263 ≤ 7293034)
    (kk : LK p l e s m args below meth c D cA b q0 qm o o2 Inv t i cells slots Q) : W p l e room_1 s m args below meth c H locs cells slots Q (F0 m 1382 ls []) := by
  obtain ⟨C, hl0, hX, hN, hscr, hbl⟩ := X
  obtain ⟨hi0, hi1, hi2, hi3, hi4, hi5⟩ := hi
  obtain ⟨hx, hb, hml, hown, hts, hK, hlk⟩ := id C
  have hbA : ¬ nA s b := Nat.not_le.mpr hbl
  have hn := hn6 _ _ _ _ _ hI
  obtain ⟨w, τ', h5, ⟨hf, hI2, hthr⟩ | ⟨hf, hI2, hthr⟩⟩ := S _ _ _ _ _ _ _ ht hI
  · refine lv_aload_n (pc := 1382) hx hb dL_law_1382 rfl (lv_at hl 1 rfl) ?_
    refine lv_aload_n (pc := 1383) hx hb dL_law_1383 rfl (lv_at hl 0 rfl) ?_
    refine lv_iload (pc := 1384) hx hb dL_law_1384 (lv_at hl 5 rfl) ?_
    refine lv_iconst (pc := 1386) (v := 1) hx hb dL_law_1386 (by decide) ?_
    refine lv_iadd (pc := 1387) hx hb dL_law_1387 ?_
    refine va_sld (pc := 1388) hx hb hscr hbl hbA h.2.2.1 hi1 dL_law_1388 ?_
    refine lv_aload_n (pc := 1389) hx hb dL_law_1389 rfl (lv_at hl 0 rfl) ?_
    refine lv_iload (pc := 1390) hx hb dL_law_1390 (lv_at hl 5 rfl) ?_
    refine lv_iconst (pc := 1392) (v := 2) hx hb dL_law_1392 (by decide) ?_
    refine lv_iadd (pc := 1393) hx hb dL_law_1393 ?_
    refine va_sld (pc := 1394) hx hb hscr hbl hbA h.2.2.1 hi2 dL_law_1394 ?_
    refine lv_aload_n (pc := 1395) hx hb dL_law_1395 rfl (lv_at hl 3 rfl) ?_
    refine call_W (pc := 1396) (rest := []) (As := [.ref (q0 0), .int (xs (i + 1).toNatClampNeg), .int (xs (i + 2).toNatClampNeg), .ref o]) (ws' := wL n q0 q qm cA σ0 σ τ o o2 (vp_updL f 0 w.toInt64) f2) C hl0 hX hN h (w_slotState hn σ0 σ (xs (i + 1).toNatClampNeg) (xs (i + 2).toNatClampNeg) hf o f) cx_L_198 (wL_L ..) (wL_L n q0 q qm cA σ0 σ τ o o2 (vp_updL f 0 w.toInt64) f2).symm (xL_fst ..) rfl rfl hl.1 (Nat.le_of_ble_eq_true rfl) dL_law_1396 ⟨(Nat.le_of_ble_eq_true rfl), (Nat.le_of_ble_eq_true rfl)⟩ rfl rfl ⟨by show cells + 1 ≤ 601024; omega, by show slots + 6 ≤ 7293034; omega⟩ (fun H locs h => ?_)
    refine W.eq (g2 := F0 m 1399 ls [.int 0]) rfl ?_
    refine lv_istore (pc := 1399) (lv' := [(6, .int 0), (0, .ref b), (1, .ref (q0 0)), (2, .ref (qm 0)), (3, .ref o), (4, .ref o2), (5, .int i)]) hx hb dL_law_1399 hl (by decide) rfl (fun ls hl => ?_)
    refine lv_aload_n (pc := 1401) hx hb dL_law_1401 rfl (lv_at hl 3 rfl) ?_
    refine lv_aload_n (pc := 1402) hx hb dL_law_1402 rfl (lv_at hl 1 rfl) ?_
    refine lv_iload (pc := 1403) hx hb dL_law_1403 (lv_at hl 6 rfl) ?_
    refine lv_iconst (pc := 1405) (v := 1) hx hb dL_law_1405 (by decide) ?_
    refine lv_iadd (pc := 1406) hx hb dL_law_1406 ?_
    refine va_sld (pc := 1407) hx hb hscr hbl hbA h.2.2.1 hi1 dL_law_1407 ?_
    refine lv_aload_n (pc := 1408) hx hb dL_law_1408 rfl (lv_at hl 1 rfl) ?_
    refine lv_iload (pc := 1409) hx hb dL_law_1409 (lv_at hl 6 rfl) ?_
    refine lv_iconst (pc := 1411) (v := 2) hx hb dL_law_1411 (by decide) ?_
    refine lv_iadd (pc := 1412) hx hb dL_law_1412 ?_
    refine va_sld (pc := 1413) hx hb hscr hbl hbA h.2.2.1 hi2 dL_law_1413 ?_
    refine call_VUp (pc := 1414) (rest := []) (As := [.int (xs (i + 1).toNatClampNeg), .int (xs (i + 2).toNatClampNeg)]) (wc' := mW qm cA τ') (ws' := wL n q0 q qm cA σ0 σ τ' o o2 (vp_updL f 0 w.toInt64) f2) C h (k_X5_slotState (q := qm) τ (xs (i + 1).toNatClampNeg) (xs (i + 2).toNatClampNeg) h5) cm_L_200 (mW_c0 ..) rfl (wL_M ..) (wL_M n q0 q qm cA σ0 σ τ' o o2 (vp_updL f 0 w.toInt64) f2).symm (mW_fst ..) rfl rfl hl.1 (Nat.le_of_ble_eq_true rfl) dL_law_1414 ⟨(Nat.le_of_ble_eq_true rfl), (Nat.le_of_ble_eq_true rfl)⟩ rfl rfl ⟨by show _ ≤ 601024; omega, by show _ ≤ 7293034; omega⟩ (fun H locs h => ?_)
    refine W.eq (g2 := F0 m 1417 ls [.int w]) rfl ?_
    refine lv_istore (pc := 1417) (lv' := [(7, .int w), (6, .int 0), (0, .ref b), (1, .ref (q0 0)), (2, .ref (qm 0)), (3, .ref o), (4, .ref o2), (5, .int i)]) hx hb dL_law_1417 hl (by decide) rfl (fun ls hl => ?_)
    refine lv_aload_n (pc := 1419) hx hb dL_law_1419 rfl (lv_at hl 4 rfl) ?_
    refine call_VRp (pc := 1420) (rest := []) (As := []) C h (k_X5_thrown (q := qm) τ' rfl) cm_L_131 (mW_c0 ..) rfl (wL_M ..) rfl rfl hl.1 (Nat.le_of_ble_eq_true rfl) dL_law_1420 ⟨(Nat.le_of_ble_eq_true rfl), (Nat.le_of_ble_eq_true rfl)⟩ rfl rfl ⟨by show _ ≤ 601024; omega, by show _ ≤ 7293034; omega⟩ (fun H locs h => ?_)
    refine W.eq (g2 := F0 m 1423 ls [.int (τ' 24 0)]) rfl ?_
    refine lv_iload (pc := 1423) hx hb dL_law_1423 (lv_at hl 1 rfl) ?_
    refine lv_icmp_eq (pc := 1425) (tgt := 1430) hx hb dL_law_1425 (by decide) (fun _ => ?_) (fun c9 => absurd hthr c9)
    refine lv_iload (pc := 1430) hx hb dL_law_1430 (lv_at hl 1 rfl) ?_
    refine lv_if_ne (pc := 1432) (tgt := 1447) hx hb dL_law_1432 (by decide) (fun c9 => absurd rfl c9) (fun _ => ?_)
    refine lv_aload_n (pc := 1435) hx hb dL_law_1435 rfl (lv_at hl 5 rfl) ?_
    refine lv_iconst (pc := 1436) (v := 0) hx hb dL_law_1436 (by decide) ?_
    refine va_lald (pc := 1437) hx hb hK.1 h.1 0 3 (wL_o ..) rfl (show inb (0 : Int32) 1 from by decide) dL_law_1437 ?_
    refine W.eq (g2 := F0 m 1438 ls [.long w.toInt64]) rfl ?_
    refine lv_iload (pc := 1438) hx hb dL_law_1438 (lv_at hl 0 rfl) ?_
    refine lv_i2l (pc := 1440) (v := w.toInt64) hx hb dL_law_1440 rfl ?_
    refine W.lcmp (pc := 1441) hx hb dL_law_1441 ?_
    rw [cmp_self]
    refine lv_if_eq (pc := 1442) (tgt := 1447) hx hb dL_law_1442 (by decide) (fun _ => ?_) (fun c9 => absurd rfl c9)
    refine lv_goto (pc := 1447) (tgt := 2364) hx hb dL_law_1447 (by decide) ?_
    exact W.widen (by omega) (by omega) (kk _ _ _ _ _ _ _ _ _ hI2 h ls (lv_sub hl [2, 3, 4, 5, 6, 7] rfl))
  · refine lv_aload_n (pc := 1382) hx hb dL_law_1382 rfl (lv_at hl 1 rfl) ?_
    refine lv_aload_n (pc := 1383) hx hb dL_law_1383 rfl (lv_at hl 0 rfl) ?_
    refine lv_iload (pc := 1384) hx hb dL_law_1384 (lv_at hl 5 rfl) ?_
    refine lv_iconst (pc := 1386) (v := 1) hx hb dL_law_1386 (by decide) ?_
    refine lv_iadd (pc := 1387) hx hb dL_law_1387 ?_
    refine va_sld (pc := 1388) hx hb hscr hbl hbA h.2.2.1 hi1 dL_law_1388 ?_
    refine lv_aload_n (pc := 1389) hx hb dL_law_1389 rfl (lv_at hl 0 rfl) ?_
    refine lv_iload (pc := 1390) hx hb dL_law_1390 (lv_at hl 5 rfl) ?_
    refine lv_iconst (pc := 1392) (v := 2) hx hb dL_law_1392 (by decide) ?_
    refine lv_iadd (pc := 1393) hx hb dL_law_1393 ?_
    refine va_sld (pc := 1394) hx hb hscr hbl hbA h.2.2.1 hi2 dL_law_1394 ?_
    refine lv_aload_n (pc := 1395) hx hb dL_law_1395 rfl (lv_at hl 3 rfl) ?_
    refine call_W (pc := 1396) (rest := []) (As := [.ref (q0 0), .int (xs (i + 1).toNatClampNeg), .int (xs (i + 2).toNatClampNeg), .ref o]) (ws' := wL n q0 q qm cA σ0 σ τ o o2 f f2) C hl0 hX hN h (wT_slotState_0 hn σ0 σ (xs (i + 1).toNatClampNeg) (xs (i + 2).toNatClampNeg) hf o f) cx_L_198 (wL_L ..) (wL_L n q0 q qm cA σ0 σ τ o o2 f f2).symm rfl rfl rfl hl.1 (Nat.le_of_ble_eq_true rfl) dL_law_1396 ⟨(Nat.le_of_ble_eq_true rfl), (Nat.le_of_ble_eq_true rfl)⟩ rfl rfl ⟨by show cells + 1 ≤ 601024; omega, by show slots + 6 ≤ 7293034; omega⟩ (fun H locs h => ?_)
    refine W.eq (g2 := F0 m 1399 ls [.int 1]) rfl ?_
    refine lv_istore (pc := 1399) (lv' := [(6, .int 1), (0, .ref b), (1, .ref (q0 0)), (2, .ref (qm 0)), (3, .ref o), (4, .ref o2), (5, .int i)]) hx hb dL_law_1399 hl (by decide) rfl (fun ls hl => ?_)
    refine lv_aload_n (pc := 1401) hx hb dL_law_1401 rfl (lv_at hl 3 rfl) ?_
    refine lv_aload_n (pc := 1402) hx hb dL_law_1402 rfl (lv_at hl 1 rfl) ?_
    refine lv_iload (pc := 1403) hx hb dL_law_1403 (lv_at hl 6 rfl) ?_
    refine lv_iconst (pc := 1405) (v := 1) hx hb dL_law_1405 (by decide) ?_
    refine lv_iadd (pc := 1406) hx hb dL_law_1406 ?_
    refine va_sld (pc := 1407) hx hb hscr hbl hbA h.2.2.1 hi1 dL_law_1407 ?_
    refine lv_aload_n (pc := 1408) hx hb dL_law_1408 rfl (lv_at hl 1 rfl) ?_
    refine lv_iload (pc := 1409) hx hb dL_law_1409 (lv_at hl 6 rfl) ?_
    refine lv_iconst (pc := 1411) (v := 2) hx hb dL_law_1411 (by decide) ?_
    refine lv_iadd (pc := 1412) hx hb dL_law_1412 ?_
    refine va_sld (pc := 1413) hx hb hscr hbl hbA h.2.2.1 hi2 dL_law_1413 ?_
    refine call_VUp (pc := 1414) (rest := []) (As := [.int (xs (i + 1).toNatClampNeg), .int (xs (i + 2).toNatClampNeg)]) (wc' := mW qm cA τ') (ws' := wL n q0 q qm cA σ0 σ τ' o o2 f f2) C h (k_X5_slotState (q := qm) τ (xs (i + 1).toNatClampNeg) (xs (i + 2).toNatClampNeg) h5) cm_L_200 (mW_c0 ..) rfl (wL_M ..) (wL_M n q0 q qm cA σ0 σ τ' o o2 f f2).symm (mW_fst ..) rfl rfl hl.1 (Nat.le_of_ble_eq_true rfl) dL_law_1414 ⟨(Nat.le_of_ble_eq_true rfl), (Nat.le_of_ble_eq_true rfl)⟩ rfl rfl ⟨by show _ ≤ 601024; omega, by show _ ≤ 7293034; omega⟩ (fun H locs h => ?_)
    refine W.eq (g2 := F0 m 1417 ls [.int w]) rfl ?_
    refine lv_istore (pc := 1417) (lv' := [(7, .int w), (6, .int 1), (0, .ref b), (1, .ref (q0 0)), (2, .ref (qm 0)), (3, .ref o), (4, .ref o2), (5, .int i)]) hx hb dL_law_1417 hl (by decide) rfl (fun ls hl => ?_)
    refine lv_aload_n (pc := 1419) hx hb dL_law_1419 rfl (lv_at hl 4 rfl) ?_
    refine call_VRp (pc := 1420) (rest := []) (As := []) C h (k_X5_thrown (q := qm) τ' rfl) cm_L_131 (mW_c0 ..) rfl (wL_M ..) rfl rfl hl.1 (Nat.le_of_ble_eq_true rfl) dL_law_1420 ⟨(Nat.le_of_ble_eq_true rfl), (Nat.le_of_ble_eq_true rfl)⟩ rfl rfl ⟨by show _ ≤ 601024; omega, by show _ ≤ 7293034; omega⟩ (fun H locs h => ?_)
    refine W.eq (g2 := F0 m 1423 ls [.int (τ' 24 0)]) rfl ?_
    refine lv_iload (pc := 1423) hx hb dL_law_1423 (lv_at hl 1 rfl) ?_
    refine lv_icmp_eq (pc := 1425) (tgt := 1430) hx hb dL_law_1425 (by decide) (fun _ => ?_) (fun c9 => absurd hthr c9)
    refine lv_iload (pc := 1430) hx hb dL_law_1430 (lv_at hl 1 rfl) ?_
    refine lv_if_ne (pc := 1432) (tgt := 1447) hx hb dL_law_1432 (by decide) (fun _ => ?_) (fun c9 => absurd c9 (by decide))
    refine lv_goto (pc := 1447) (tgt := 2364) hx hb dL_law_1447 (by decide) ?_
    exact W.widen (by omega) (by omega) (kk _ _ _ _ _ _ _ _ _ hI2 h ls (lv_sub hl [2, 3, 4, 5, 6, 7] rfl))
end
