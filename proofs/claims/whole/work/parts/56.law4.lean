section
variable {p : Program} {l : Launch} {e : Env} {s : State} {m : MethodId} {args : Array Value} {below : List Frame} {meth : Method} {c : Code} {H : Heap} {locs : List Loc} {cells slots : Nat} {Q : State → Prop} {D : va_G} {cA : Nat → ClassId} {b L : Nat} {xs : Nat → Int32} {ls : Array Slot}
set_option maxHeartbeats 1000000 in
set_option maxRecDepth 100000 in
theorem law_events {Inv : IT} (hn6 : ∀ t n σ0 σ τ, Inv t n σ0 σ τ → n ≤ 6) (S : SA_events Inv) {t n : Nat} {q0 : Nat → Nat} {q : Nat → Nat → Nat} {qm : Nat → Nat} {σ0 τ : Nat → Nat → Int32} {σ : Nat → Nat → Nat → Int32} {o o2 : Nat} {f : Nat → Int64} {f2 : Nat → UInt64} {i : Int32} (ht : t < 512) (hI : Inv t n σ0 σ τ)
    (X : LX p l s m args meth c D cA b L xs) (h : St D (nA s) s.heap (wL n q0 q qm cA σ0 σ τ o o2 f f2) H locs) (hi : HI i L) (hl : lv_has ls 8 (L0 b (q0 0) (qm 0) o o2 i)) (hc : cells + 20 ≤ 601024) (hs : slots + 263 ≤ 7293034)
    (kk : LK p l e s m args below meth c D cA b q0 qm o o2 Inv t i cells slots Q) : W p l e room_1 s m args below meth c H locs cells slots Q (F0 m 1900 ls []) := by
  obtain ⟨C, hl0, hX, hN, hscr, hbl⟩ := X
  obtain ⟨hi0, hi1, hi2, hi3, hi4, hi5⟩ := hi
  obtain ⟨hx, hb, hml, hown, hts, hK, hlk⟩ := id C
  have hbA : ¬ nA s b := Nat.not_le.mpr hbl
  have hn := hn6 _ _ _ _ _ hI
  obtain ⟨w, τ', h5, ⟨hf, hI2, hthr⟩ | ⟨hf, hI2, hthr⟩⟩ := S _ _ _ _ _ _ ht hI
  · refine lv_aload_n (pc := 1900) hx hb dL_law_1900 rfl (lv_at hl 1 rfl) ?_
    refine lv_aload_n (pc := 1901) hx hb dL_law_1901 rfl (lv_at hl 0 rfl) ?_
    refine lv_iload (pc := 1902) hx hb dL_law_1902 (lv_at hl 5 rfl) ?_
    refine lv_iconst (pc := 1904) (v := 1) hx hb dL_law_1904 (by decide) ?_
    refine lv_iadd (pc := 1905) hx hb dL_law_1905 ?_
    refine va_sld (pc := 1906) hx hb hscr hbl hbA h.2.2.1 hi1 dL_law_1906 ?_
    refine lv_aload_n (pc := 1907) hx hb dL_law_1907 rfl (lv_at hl 3 rfl) ?_
    refine call_W (pc := 1908) (rest := []) (As := [.ref (q0 0), .int (xs (i + 1).toNatClampNeg), .ref o]) (ws' := wL n q0 q qm cA σ0 σ τ o o2 (vp_updL f 0 w.toInt64) f2) C hl0 hX hN h (w_events hn σ0 σ (xs (i + 1).toNatClampNeg) hf o f) cx_L_223 (wL_L ..) (wL_L n q0 q qm cA σ0 σ τ o o2 (vp_updL f 0 w.toInt64) f2).symm (xL_fst ..) rfl rfl hl.1 (Nat.le_of_ble_eq_true rfl) dL_law_1908 ⟨(Nat.le_of_ble_eq_true rfl), (Nat.le_of_ble_eq_true rfl)⟩ rfl rfl ⟨by show cells + 1 ≤ 601024; omega, by show slots + 6 ≤ 7293034; omega⟩ (fun H locs h => ?_)
    refine W.eq (g2 := F0 m 1911 ls [.int 0]) rfl ?_
    refine lv_istore (pc := 1911) (lv' := [(6, .int 0), (0, .ref b), (1, .ref (q0 0)), (2, .ref (qm 0)), (3, .ref o), (4, .ref o2), (5, .int i)]) hx hb dL_law_1911 hl (by decide) rfl (fun ls hl => ?_)
    refine lv_aload_n (pc := 1913) hx hb dL_law_1913 rfl (lv_at hl 3 rfl) ?_
    refine lv_aload_n (pc := 1914) hx hb dL_law_1914 rfl (lv_at hl 1 rfl) ?_
    refine lv_iload (pc := 1915) hx hb dL_law_1915 (lv_at hl 6 rfl) ?_
    refine lv_iconst (pc := 1917) (v := 1) hx hb dL_law_1917 (by decide) ?_
    refine lv_iadd (pc := 1918) hx hb dL_law_1918 ?_
    refine va_sld (pc := 1919) hx hb hscr hbl hbA h.2.2.1 hi1 dL_law_1919 ?_
    refine call_VUp (pc := 1920) (rest := []) (As := [.int (xs (i + 1).toNatClampNeg)]) (wc' := mW qm cA τ') (ws' := wL n q0 q qm cA σ0 σ τ' o o2 (vp_updL f 0 w.toInt64) f2) C h (k_X5_events (q := qm) τ (xs (i + 1).toNatClampNeg) h5) cm_L_225 (mW_c0 ..) rfl (wL_M ..) (wL_M n q0 q qm cA σ0 σ τ' o o2 (vp_updL f 0 w.toInt64) f2).symm (mW_fst ..) rfl rfl hl.1 (Nat.le_of_ble_eq_true rfl) dL_law_1920 ⟨(Nat.le_of_ble_eq_true rfl), (Nat.le_of_ble_eq_true rfl)⟩ rfl rfl ⟨by show _ ≤ 601024; omega, by show _ ≤ 7293034; omega⟩ (fun H locs h => ?_)
    refine W.eq (g2 := F0 m 1923 ls [.int w]) rfl ?_
    refine lv_istore (pc := 1923) (lv' := [(7, .int w), (6, .int 0), (0, .ref b), (1, .ref (q0 0)), (2, .ref (qm 0)), (3, .ref o), (4, .ref o2), (5, .int i)]) hx hb dL_law_1923 hl (by decide) rfl (fun ls hl => ?_)
    refine lv_aload_n (pc := 1925) hx hb dL_law_1925 rfl (lv_at hl 4 rfl) ?_
    refine call_VRp (pc := 1926) (rest := []) (As := []) C h (k_X5_thrown (q := qm) τ' rfl) cm_L_131 (mW_c0 ..) rfl (wL_M ..) rfl rfl hl.1 (Nat.le_of_ble_eq_true rfl) dL_law_1926 ⟨(Nat.le_of_ble_eq_true rfl), (Nat.le_of_ble_eq_true rfl)⟩ rfl rfl ⟨by show _ ≤ 601024; omega, by show _ ≤ 7293034; omega⟩ (fun H locs h => ?_)
    refine W.eq (g2 := F0 m 1929 ls [.int (τ' 24 0)]) rfl ?_
    refine lv_iload (pc := 1929) hx hb dL_law_1929 (lv_at hl 1 rfl) ?_
    refine lv_icmp_eq (pc := 1931) (tgt := 1936) hx hb dL_law_1931 (by decide) (fun _ => ?_) (fun c9 => absurd hthr c9)
    refine lv_iload (pc := 1936) hx hb dL_law_1936 (lv_at hl 1 rfl) ?_
    refine lv_if_ne (pc := 1938) (tgt := 1953) hx hb dL_law_1938 (by decide) (fun c9 => absurd rfl c9) (fun _ => ?_)
    refine lv_aload_n (pc := 1941) hx hb dL_law_1941 rfl (lv_at hl 5 rfl) ?_
    refine lv_iconst (pc := 1942) (v := 0) hx hb dL_law_1942 (by decide) ?_
    refine va_lald (pc := 1943) hx hb hK.1 h.1 0 3 (wL_o ..) rfl (show inb (0 : Int32) 1 from by decide) dL_law_1943 ?_
    refine W.eq (g2 := F0 m 1944 ls [.long w.toInt64]) rfl ?_
    refine lv_iload (pc := 1944) hx hb dL_law_1944 (lv_at hl 0 rfl) ?_
    refine lv_i2l (pc := 1946) (v := w.toInt64) hx hb dL_law_1946 rfl ?_
    refine W.lcmp (pc := 1947) hx hb dL_law_1947 ?_
    rw [cmp_self]
    refine lv_if_eq (pc := 1948) (tgt := 1953) hx hb dL_law_1948 (by decide) (fun _ => ?_) (fun c9 => absurd rfl c9)
    refine lv_goto (pc := 1953) (tgt := 2364) hx hb dL_law_1953 (by decide) ?_
    exact W.widen (by omega) (by omega) (kk _ _ _ _ _ _ _ _ _ hI2 h ls (lv_sub hl [2, 3, 4, 5, 6, 7] rfl))
  · refine lv_aload_n (pc := 1900) hx hb dL_law_1900 rfl (lv_at hl 1 rfl) ?_
    refine lv_aload_n (pc := 1901) hx hb dL_law_1901 rfl (lv_at hl 0 rfl) ?_
    refine lv_iload (pc := 1902) hx hb dL_law_1902 (lv_at hl 5 rfl) ?_
    refine lv_iconst (pc := 1904) (v := 1) hx hb dL_law_1904 (by decide) ?_
    refine lv_iadd (pc := 1905) hx hb dL_law_1905 ?_
    refine va_sld (pc := 1906) hx hb hscr hbl hbA h.2.2.1 hi1 dL_law_1906 ?_
    refine lv_aload_n (pc := 1907) hx hb dL_law_1907 rfl (lv_at hl 3 rfl) ?_
    refine call_W (pc := 1908) (rest := []) (As := [.ref (q0 0), .int (xs (i + 1).toNatClampNeg), .ref o]) (ws' := wL n q0 q qm cA σ0 σ τ o o2 f f2) C hl0 hX hN h (wT_events_0 hn σ0 σ (xs (i + 1).toNatClampNeg) hf o f) cx_L_223 (wL_L ..) (wL_L n q0 q qm cA σ0 σ τ o o2 f f2).symm rfl rfl rfl hl.1 (Nat.le_of_ble_eq_true rfl) dL_law_1908 ⟨(Nat.le_of_ble_eq_true rfl), (Nat.le_of_ble_eq_true rfl)⟩ rfl rfl ⟨by show cells + 1 ≤ 601024; omega, by show slots + 6 ≤ 7293034; omega⟩ (fun H locs h => ?_)
    refine W.eq (g2 := F0 m 1911 ls [.int 1]) rfl ?_
    refine lv_istore (pc := 1911) (lv' := [(6, .int 1), (0, .ref b), (1, .ref (q0 0)), (2, .ref (qm 0)), (3, .ref o), (4, .ref o2), (5, .int i)]) hx hb dL_law_1911 hl (by decide) rfl (fun ls hl => ?_)
    refine lv_aload_n (pc := 1913) hx hb dL_law_1913 rfl (lv_at hl 3 rfl) ?_
    refine lv_aload_n (pc := 1914) hx hb dL_law_1914 rfl (lv_at hl 1 rfl) ?_
    refine lv_iload (pc := 1915) hx hb dL_law_1915 (lv_at hl 6 rfl) ?_
    refine lv_iconst (pc := 1917) (v := 1) hx hb dL_law_1917 (by decide) ?_
    refine lv_iadd (pc := 1918) hx hb dL_law_1918 ?_
    refine va_sld (pc := 1919) hx hb hscr hbl hbA h.2.2.1 hi1 dL_law_1919 ?_
    refine call_VUp (pc := 1920) (rest := []) (As := [.int (xs (i + 1).toNatClampNeg)]) (wc' := mW qm cA τ') (ws' := wL n q0 q qm cA σ0 σ τ' o o2 f f2) C h (k_X5_events (q := qm) τ (xs (i + 1).toNatClampNeg) h5) cm_L_225 (mW_c0 ..) rfl (wL_M ..) (wL_M n q0 q qm cA σ0 σ τ' o o2 f f2).symm (mW_fst ..) rfl rfl hl.1 (Nat.le_of_ble_eq_true rfl) dL_law_1920 ⟨(Nat.le_of_ble_eq_true rfl), (Nat.le_of_ble_eq_true rfl)⟩ rfl rfl ⟨by show _ ≤ 601024; omega, by show _ ≤ 7293034; omega⟩ (fun H locs h => ?_)
    refine W.eq (g2 := F0 m 1923 ls [.int w]) rfl ?_
    refine lv_istore (pc := 1923) (lv' := [(7, .int w), (6, .int 1), (0, .ref b), (1, .ref (q0 0)), (2, .ref (qm 0)), (3, .ref o), (4, .ref o2), (5, .int i)]) hx hb dL_law_1923 hl (by decide) rfl (fun ls hl => ?_)
    refine lv_aload_n (pc := 1925) hx hb dL_law_1925 rfl (lv_at hl 4 rfl) ?_
    refine call_VRp (pc := 1926) (rest := []) (As := []) C h (k_X5_thrown (q := qm) τ' rfl) cm_L_131 (mW_c0 ..) rfl (wL_M ..) rfl rfl hl.1 (Nat.le_of_ble_eq_true rfl) dL_law_1926 ⟨(Nat.le_of_ble_eq_true rfl), (Nat.le_of_ble_eq_true rfl)⟩ rfl rfl ⟨by show _ ≤ 601024; omega, by show _ ≤ 7293034; omega⟩ (fun H locs h => ?_)
    refine W.eq (g2 := F0 m 1929 ls [.int (τ' 24 0)]) rfl ?_
    refine lv_iload (pc := 1929) hx hb dL_law_1929 (lv_at hl 1 rfl) ?_
    refine lv_icmp_eq (pc := 1931) (tgt := 1936) hx hb dL_law_1931 (by decide) (fun _ => ?_) (fun c9 => absurd hthr c9)
    refine lv_iload (pc := 1936) hx hb dL_law_1936 (lv_at hl 1 rfl) ?_
    refine lv_if_ne (pc := 1938) (tgt := 1953) hx hb dL_law_1938 (by decide) (fun _ => ?_) (fun c9 => absurd c9 (by decide))
    refine lv_goto (pc := 1953) (tgt := 2364) hx hb dL_law_1953 (by decide) ?_
    exact W.widen (by omega) (by omega) (kk _ _ _ _ _ _ _ _ _ hI2 h ls (lv_sub hl [2, 3, 4, 5, 6, 7] rfl))
set_option maxHeartbeats 1000000 in
set_option maxRecDepth 100000 in
theorem law_kindOf {Inv : IT} (hn6 : ∀ t n σ0 σ τ, Inv t n σ0 σ τ → n ≤ 6) (S : SA_kindOf Inv) {t n : Nat} {q0 : Nat → Nat} {q : Nat → Nat → Nat} {qm : Nat → Nat} {σ0 τ : Nat → Nat → Int32} {σ : Nat → Nat → Nat → Int32} {o o2 : Nat} {f : Nat → Int64} {f2 : Nat → UInt64} {i : Int32} (ht : t < 512) (hI : Inv t n σ0 σ τ)
    (X : LX p l s m args meth c D cA b L xs) (h : St D (nA s) s.heap (wL n q0 q qm cA σ0 σ τ o o2 f f2) H locs) (hi : HI i L) (hl : lv_has ls 8 (L0 b (q0 0) (qm 0) o o2 i)) (hc : cells + 20 ≤ 601024) (hs : slots + 263 ≤ 7293034)
    (kk : LK p l e s m args below meth c D cA b q0 qm o o2 Inv t i cells slots Q) : W p l e room_1 s m args below meth c H locs cells slots Q (F0 m 1956 ls []) := by
  obtain ⟨C, hl0, hX, hN, hscr, hbl⟩ := X
  obtain ⟨hi0, hi1, hi2, hi3, hi4, hi5⟩ := hi
  obtain ⟨hx, hb, hml, hown, hts, hK, hlk⟩ := id C
  have hbA : ¬ nA s b := Nat.not_le.mpr hbl
  have hn := hn6 _ _ _ _ _ hI
  obtain ⟨w, τ', h5, ⟨hf, hI2, hthr⟩ | ⟨hf, hI2, hthr⟩⟩ := S _ _ _ _ _ _ _ ht hI
  · refine lv_aload_n (pc := 1956) hx hb dL_law_1956 rfl (lv_at hl 1 rfl) ?_
    refine lv_aload_n (pc := 1957) hx hb dL_law_1957 rfl (lv_at hl 0 rfl) ?_
    refine lv_iload (pc := 1958) hx hb dL_law_1958 (lv_at hl 5 rfl) ?_
    refine lv_iconst (pc := 1960) (v := 1) hx hb dL_law_1960 (by decide) ?_
    refine lv_iadd (pc := 1961) hx hb dL_law_1961 ?_
    refine va_sld (pc := 1962) hx hb hscr hbl hbA h.2.2.1 hi1 dL_law_1962 ?_
    refine lv_aload_n (pc := 1963) hx hb dL_law_1963 rfl (lv_at hl 0 rfl) ?_
    refine lv_iload (pc := 1964) hx hb dL_law_1964 (lv_at hl 5 rfl) ?_
    refine lv_iconst (pc := 1966) (v := 2) hx hb dL_law_1966 (by decide) ?_
    refine lv_iadd (pc := 1967) hx hb dL_law_1967 ?_
    refine va_sld (pc := 1968) hx hb hscr hbl hbA h.2.2.1 hi2 dL_law_1968 ?_
    refine lv_aload_n (pc := 1969) hx hb dL_law_1969 rfl (lv_at hl 3 rfl) ?_
    refine call_W (pc := 1970) (rest := []) (As := [.ref (q0 0), .int (xs (i + 1).toNatClampNeg), .int (xs (i + 2).toNatClampNeg), .ref o]) (ws' := wL n q0 q qm cA σ0 σ τ o o2 (vp_updL f 0 w.toInt64) f2) C hl0 hX hN h (w_kindOf hn σ0 σ (xs (i + 1).toNatClampNeg) (xs (i + 2).toNatClampNeg) hf o f) cx_L_226 (wL_L ..) (wL_L n q0 q qm cA σ0 σ τ o o2 (vp_updL f 0 w.toInt64) f2).symm (xL_fst ..) rfl rfl hl.1 (Nat.le_of_ble_eq_true rfl) dL_law_1970 ⟨(Nat.le_of_ble_eq_true rfl), (Nat.le_of_ble_eq_true rfl)⟩ rfl rfl ⟨by show cells + 1 ≤ 601024; omega, by show slots + 6 ≤ 7293034; omega⟩ (fun H locs h => ?_)
    refine W.eq (g2 := F0 m 1973 ls [.int 0]) rfl ?_
    refine lv_istore (pc := 1973) (lv' := [(6, .int 0), (0, .ref b), (1, .ref (q0 0)), (2, .ref (qm 0)), (3, .ref o), (4, .ref o2), (5, .int i)]) hx hb dL_law_1973 hl (by decide) rfl (fun ls hl => ?_)
    refine lv_aload_n (pc := 1975) hx hb dL_law_1975 rfl (lv_at hl 3 rfl) ?_
    refine lv_aload_n (pc := 1976) hx hb dL_law_1976 rfl (lv_at hl 1 rfl) ?_
    refine lv_iload (pc := 1977) hx hb dL_law_1977 (lv_at hl 6 rfl) ?_
    refine lv_iconst (pc := 1979) (v := 1) hx hb dL_law_1979 (by decide) ?_
    refine lv_iadd (pc := 1980) hx hb dL_law_1980 ?_
    refine va_sld (pc := 1981) hx hb hscr hbl hbA h.2.2.1 hi1 dL_law_1981 ?_
    refine lv_aload_n (pc := 1982) hx hb dL_law_1982 rfl (lv_at hl 1 rfl) ?_
    refine lv_iload (pc := 1983) hx hb dL_law_1983 (lv_at hl 6 rfl) ?_
    refine lv_iconst (pc := 1985) (v := 2) hx hb dL_law_1985 (by decide) ?_
    refine lv_iadd (pc := 1986) hx hb dL_law_1986 ?_
    refine va_sld (pc := 1987) hx hb hscr hbl hbA h.2.2.1 hi2 dL_law_1987 ?_
    refine call_VUp (pc := 1988) (rest := []) (As := [.int (xs (i + 1).toNatClampNeg), .int (xs (i + 2).toNatClampNeg)]) (wc' := mW qm cA τ') (ws' := wL n q0 q qm cA σ0 σ τ' o o2 (vp_updL f 0 w.toInt64) f2) C h (k_X5_kindOf (q := qm) τ (xs (i + 1).toNatClampNeg) (xs (i + 2).toNatClampNeg) h5) cm_L_228 (mW_c0 ..) rfl (wL_M ..) (wL_M n q0 q qm cA σ0 σ τ' o o2 (vp_updL f 0 w.toInt64) f2).symm (mW_fst ..) rfl rfl hl.1 (Nat.le_of_ble_eq_true rfl) dL_law_1988 ⟨(Nat.le_of_ble_eq_true rfl), (Nat.le_of_ble_eq_true rfl)⟩ rfl rfl ⟨by show _ ≤ 601024; omega, by show _ ≤ 7293034; omega⟩ (fun H locs h => ?_)
    refine W.eq (g2 := F0 m 1991 ls [.int w]) rfl ?_
    refine lv_istore (pc := 1991) (lv' := [(7, .int w), (6, .int 0), (0, .ref b), (1, .ref (q0 0)), (2, .ref (qm 0)), (3, .ref o), (4, .ref o2), (5, .int i)]) hx hb dL_law_1991 hl (by decide) rfl (fun ls hl => ?_)
    refine lv_aload_n (pc := 1993) hx hb dL_law_1993 rfl (lv_at hl 4 rfl) ?_
    refine call_VRp (pc := 1994) (rest := []) (As := []) C h (k_X5_thrown (q := qm) τ' rfl) cm_L_131 (mW_c0 ..) rfl (wL_M ..) rfl rfl hl.1 (Nat.le_of_ble_eq_true rfl) dL_law_1994 ⟨(Nat.le_of_ble_eq_true rfl), (Nat.le_of_ble_eq_true rfl)⟩ rfl rfl ⟨by show _ ≤ 601024; omega, by show _ ≤ 7293034; omega⟩ (fun H locs h => ?_)
    refine W.eq (g2 := F0 m 1997 ls [.int (τ' 24 0)]) rfl ?_
    refine lv_iload (pc := 1997) hx hb dL_law_1997 (lv_at hl 1 rfl) ?_
    refine lv_icmp_eq (pc := 1999) (tgt := 2004) hx hb dL_law_1999 (by decide) (fun _ => ?_) (fun c9 => absurd hthr c9)
    refine lv_iload (pc := 2004) hx hb dL_law_2004 (lv_at hl 1 rfl) ?_
    refine lv_if_ne (pc := 2006) (tgt := 2021) hx hb dL_law_2006 (by decide) (fun c9 => absurd rfl c9) (fun _ => ?_)
    refine lv_aload_n (pc := 2009) hx hb dL_law_2009 rfl (lv_at hl 5 rfl) ?_
    refine lv_iconst (pc := 2010) (v := 0) hx hb dL_law_2010 (by decide) ?_
    refine va_lald (pc := 2011) hx hb hK.1 h.1 0 3 (wL_o ..) rfl (show inb (0 : Int32) 1 from by decide) dL_law_2011 ?_
    refine W.eq (g2 := F0 m 2012 ls [.long w.toInt64]) rfl ?_
    refine lv_iload (pc := 2012) hx hb dL_law_2012 (lv_at hl 0 rfl) ?_
    refine lv_i2l (pc := 2014) (v := w.toInt64) hx hb dL_law_2014 rfl ?_
    refine W.lcmp (pc := 2015) hx hb dL_law_2015 ?_
    rw [cmp_self]
    refine lv_if_eq (pc := 2016) (tgt := 2021) hx hb dL_law_2016 (by decide) (fun _ => ?_) (fun c9 => absurd rfl c9)
    refine lv_goto (pc := 2021) (tgt := 2364) hx hb dL_law_2021 (by decide) ?_
    exact W.widen (by omega) (by omega) (kk _ _ _ _ _ _ _ _ _ hI2 h ls (lv_sub hl [2, 3, 4, 5, 6, 7] rfl))
  · refine lv_aload_n (pc := 1956) hx hb dL_law_1956 rfl (lv_at hl 1 rfl) ?_
    refine lv_aload_n (pc := 1957) hx hb dL_law_1957 rfl (lv_at hl 0 rfl) ?_
    refine lv_iload (pc := 1958) hx hb dL_law_1958 (lv_at hl 5 rfl) ?_
    refine lv_iconst (pc := 1960) (v := 1) hx hb dL_law_1960 (by decide) ?_
    refine lv_iadd (pc := 1961) hx hb dL_law_1961 ?_
    refine va_sld (pc := 1962) hx hb hscr hbl hbA h.2.2.1 hi1 dL_law_1962 ?_
    refine lv_aload_n (pc := 1963) hx hb dL_law_1963 rfl (lv_at hl 0 rfl) ?_
    refine lv_iload (pc := 1964) hx hb dL_law_1964 (lv_at hl 5 rfl) ?_
    refine lv_iconst (pc := 1966) (v := 2) hx hb dL_law_1966 (by decide) ?_
    refine lv_iadd (pc := 1967) hx hb dL_law_1967 ?_
    refine va_sld (pc := 1968) hx hb hscr hbl hbA h.2.2.1 hi2 dL_law_1968 ?_
    refine lv_aload_n (pc := 1969) hx hb dL_law_1969 rfl (lv_at hl 3 rfl) ?_
    refine call_W (pc := 1970) (rest := []) (As := [.ref (q0 0), .int (xs (i + 1).toNatClampNeg), .int (xs (i + 2).toNatClampNeg), .ref o]) (ws' := wL n q0 q qm cA σ0 σ τ o o2 f f2) C hl0 hX hN h (wT_kindOf_0 hn σ0 σ (xs (i + 1).toNatClampNeg) (xs (i + 2).toNatClampNeg) hf o f) cx_L_226 (wL_L ..) (wL_L n q0 q qm cA σ0 σ τ o o2 f f2).symm rfl rfl rfl hl.1 (Nat.le_of_ble_eq_true rfl) dL_law_1970 ⟨(Nat.le_of_ble_eq_true rfl), (Nat.le_of_ble_eq_true rfl)⟩ rfl rfl ⟨by show cells + 1 ≤ 601024; omega, by show slots + 6 ≤ 7293034; omega⟩ (fun H locs h => ?_)
    refine W.eq (g2 := F0 m 1973 ls [.int 1]) rfl ?_
    refine lv_istore (pc := 1973) (lv' := [(6, .int 1), (0, .ref b), (1, .ref (q0 0)), (2, .ref (qm 0)), (3, .ref o), (4, .ref o2), (5, .int i)]) hx hb dL_law_1973 hl (by decide) rfl (fun ls hl => ?_)
    refine lv_aload_n (pc := 1975) hx hb dL_law_1975 rfl (lv_at hl 3 rfl) ?_
    refine lv_aload_n (pc := 1976) hx hb dL_law_1976 rfl (lv_at hl 1 rfl) ?_
    refine lv_iload (pc := 1977) hx hb dL_law_1977 (lv_at hl 6 rfl) ?_
    refine lv_iconst (pc := 1979) (v := 1) hx hb dL_law_1979 (by decide) ?_
    refine lv_iadd (pc := 1980) hx hb dL_law_1980 ?_
    refine va_sld (pc := 1981) hx hb hscr hbl hbA h.2.2.1 hi1 dL_law_1981 ?_
    refine lv_aload_n (pc := 1982) hx hb dL_law_1982 rfl (lv_at hl 1 rfl) ?_
    refine lv_iload (pc := 1983) hx hb dL_law_1983 (lv_at hl 6 rfl) ?_
    refine lv_iconst (pc := 1985) (v := 2) hx hb dL_law_1985 (by decide) ?_
    refine lv_iadd (pc := 1986) hx hb dL_law_1986 ?_
    refine va_sld (pc := 1987) hx hb hscr hbl hbA h.2.2.1 hi2 dL_law_1987 ?_
    refine call_VUp (pc := 1988) (rest := []) (As := [.int (xs (i + 1).toNatClampNeg), .int (xs (i + 2).toNatClampNeg)]) (wc' := mW qm cA τ') (ws' := wL n q0 q qm cA σ0 σ τ' o o2 f f2) C h (k_X5_kindOf (q := qm) τ (xs (i + 1).toNatClampNeg) (xs (i + 2).toNatClampNeg) h5) cm_L_228 (mW_c0 ..) rfl (wL_M ..) (wL_M n q0 q qm cA σ0 σ τ' o o2 f f2).symm (mW_fst ..) rfl rfl hl.1 (Nat.le_of_ble_eq_true rfl) dL_law_1988 ⟨(Nat.le_of_ble_eq_true rfl), (Nat.le_of_ble_eq_true rfl)⟩ rfl rfl ⟨by show _ ≤ 601024; omega, by show _ ≤ 7293034; omega⟩ (fun H locs h => ?_)
    refine W.eq (g2 := F0 m 1991 ls [.int w]) rfl ?_
    refine lv_istore (pc := 1991) (lv' := [(7, .int w), (6, .int 1), (0, .ref b), (1, .ref (q0 0)), (2, .ref (qm 0)), (3, .ref o), (4, .ref o2), (5, .int i)]) hx hb dL_law_1991 hl (by decide) rfl (fun ls hl => ?_)
    refine lv_aload_n (pc := 1993) hx hb dL_law_1993 rfl (lv_at hl 4 rfl) ?_
    refine call_VRp (pc := 1994) (rest := []) (As := []) C h (k_X5_thrown (q := qm) τ' rfl) cm_L_131 (mW_c0 ..) rfl (wL_M ..) rfl rfl hl.1 (Nat.le_of_ble_eq_true rfl) dL_law_1994 ⟨(Nat.le_of_ble_eq_true rfl), (Nat.le_of_ble_eq_true rfl)⟩ rfl rfl ⟨by show _ ≤ 601024; omega, by show _ ≤ 7293034; omega⟩ (fun H locs h => ?_)
    refine W.eq (g2 := F0 m 1997 ls [.int (τ' 24 0)]) rfl ?_
    refine lv_iload (pc := 1997) hx hb dL_law_1997 (lv_at hl 1 rfl) ?_
    refine lv_icmp_eq (pc := 1999) (tgt := 2004) hx hb dL_law_1999 (by decide) (fun _ => ?_) (fun c9 => absurd hthr c9)
    refine lv_iload (pc := 2004) hx hb dL_law_2004 (lv_at hl 1 rfl) ?_
    refine lv_if_ne (pc := 2006) (tgt := 2021) hx hb dL_law_2006 (by decide) (fun _ => ?_) (fun c9 => absurd c9 (by decide))
    refine lv_goto (pc := 2021) (tgt := 2364) hx hb dL_law_2021 (by decide) ?_
    exact W.widen (by omega) (by omega) (kk _ _ _ _ _ _ _ _ _ hI2 h ls (lv_sub hl [2, 3, 4, 5, 6, 7] rfl))
set_option maxHeartbeats 1000000 in
set_option maxRecDepth 100000 in
theorem law_personOf {Inv : IT} (hn6 : ∀ t n σ0 σ τ, Inv t n σ0 σ τ → n ≤ 6) (S : SA_personOf Inv) {t n : Nat} {q0 : Nat → Nat} {q : Nat → Nat → Nat} {qm : Nat → Nat} {σ0 τ : Nat → Nat → Int32} {σ : Nat → Nat → Nat → Int32} {o o2 : Nat} {f : Nat → Int64} {f2 : Nat → UInt64} {i : Int32} (ht : t < 512) (hI : Inv t n σ0 σ τ)
    (X : LX p l s m args meth c D cA b L xs) (h : St D (nA s) s.heap (wL n q0 q qm cA σ0 σ τ o o2 f f2) H locs) (hi : HI i L) (hl : lv_has ls 8 (L0 b (q0 0) (qm 0) o o2 i)) (hc : cells + 20 ≤ 601024) (hs : slots + 263 ≤ 7293034)
    (kk : LK p l e s m args below meth c D cA b q0 qm o o2 Inv t i cells slots Q) : W p l e room_1 s m args below meth c H locs cells slots Q (F0 m 2024 ls []) := by
  obtain ⟨C, hl0, hX, hN, hscr, hbl⟩ := X
  obtain ⟨hi0, hi1, hi2, hi3, hi4, hi5⟩ := hi
  obtain ⟨hx, hb, hml, hown, hts, hK, hlk⟩ := id C
  have hbA : ¬ nA s b := Nat.not_le.mpr hbl
  have hn := hn6 _ _ _ _ _ hI
  obtain ⟨w, τ', h5, ⟨hf, hI2, hthr⟩ | ⟨hf, hI2, hthr⟩⟩ := S _ _ _ _ _ _ _ ht hI
  · refine lv_aload_n (pc := 2024) hx hb dL_law_2024 rfl (lv_at hl 1 rfl) ?_
    refine lv_aload_n (pc := 2025) hx hb dL_law_2025 rfl (lv_at hl 0 rfl) ?_
    refine lv_iload (pc := 2026) hx hb dL_law_2026 (lv_at hl 5 rfl) ?_
    refine lv_iconst (pc := 2028) (v := 1) hx hb dL_law_2028 (by decide) ?_
    refine lv_iadd (pc := 2029) hx hb dL_law_2029 ?_
    refine va_sld (pc := 2030) hx hb hscr hbl hbA h.2.2.1 hi1 dL_law_2030 ?_
    refine lv_aload_n (pc := 2031) hx hb dL_law_2031 rfl (lv_at hl 0 rfl) ?_
    refine lv_iload (pc := 2032) hx hb dL_law_2032 (lv_at hl 5 rfl) ?_
    refine lv_iconst (pc := 2034) (v := 2) hx hb dL_law_2034 (by decide) ?_
    refine lv_iadd (pc := 2035) hx hb dL_law_2035 ?_
    refine va_sld (pc := 2036) hx hb hscr hbl hbA h.2.2.1 hi2 dL_law_2036 ?_
    refine lv_aload_n (pc := 2037) hx hb dL_law_2037 rfl (lv_at hl 3 rfl) ?_
    refine call_W (pc := 2038) (rest := []) (As := [.ref (q0 0), .int (xs (i + 1).toNatClampNeg), .int (xs (i + 2).toNatClampNeg), .ref o]) (ws' := wL n q0 q qm cA σ0 σ τ o o2 (vp_updL f 0 w.toInt64) f2) C hl0 hX hN h (w_personOf hn σ0 σ (xs (i + 1).toNatClampNeg) (xs (i + 2).toNatClampNeg) hf o f) cx_L_229 (wL_L ..) (wL_L n q0 q qm cA σ0 σ τ o o2 (vp_updL f 0 w.toInt64) f2).symm (xL_fst ..) rfl rfl hl.1 (Nat.le_of_ble_eq_true rfl) dL_law_2038 ⟨(Nat.le_of_ble_eq_true rfl), (Nat.le_of_ble_eq_true rfl)⟩ rfl rfl ⟨by show cells + 1 ≤ 601024; omega, by show slots + 6 ≤ 7293034; omega⟩ (fun H locs h => ?_)
    refine W.eq (g2 := F0 m 2041 ls [.int 0]) rfl ?_
    refine lv_istore (pc := 2041) (lv' := [(6, .int 0), (0, .ref b), (1, .ref (q0 0)), (2, .ref (qm 0)), (3, .ref o), (4, .ref o2), (5, .int i)]) hx hb dL_law_2041 hl (by decide) rfl (fun ls hl => ?_)
    refine lv_aload_n (pc := 2043) hx hb dL_law_2043 rfl (lv_at hl 3 rfl) ?_
    refine lv_aload_n (pc := 2044) hx hb dL_law_2044 rfl (lv_at hl 1 rfl) ?_
    refine lv_iload (pc := 2045) hx hb dL_law_2045 (lv_at hl 6 rfl) ?_
    refine lv_iconst (pc := 2047) (v := 1) hx hb dL_law_2047 (by decide) ?_
    refine lv_iadd (pc := 2048) hx hb dL_law_2048 ?_
    refine va_sld (pc := 2049) hx hb hscr hbl hbA h.2.2.1 hi1 dL_law_2049 ?_
    refine lv_aload_n (pc := 2050) hx hb dL_law_2050 rfl (lv_at hl 1 rfl) ?_
    refine lv_iload (pc := 2051) hx hb dL_law_2051 (lv_at hl 6 rfl) ?_
    refine lv_iconst (pc := 2053) (v := 2) hx hb dL_law_2053 (by decide) ?_
    refine lv_iadd (pc := 2054) hx hb dL_law_2054 ?_
    refine va_sld (pc := 2055) hx hb hscr hbl hbA h.2.2.1 hi2 dL_law_2055 ?_
    refine call_VUp (pc := 2056) (rest := []) (As := [.int (xs (i + 1).toNatClampNeg), .int (xs (i + 2).toNatClampNeg)]) (wc' := mW qm cA τ') (ws' := wL n q0 q qm cA σ0 σ τ' o o2 (vp_updL f 0 w.toInt64) f2) C h (k_X5_personOf (q := qm) τ (xs (i + 1).toNatClampNeg) (xs (i + 2).toNatClampNeg) h5) cm_L_231 (mW_c0 ..) rfl (wL_M ..) (wL_M n q0 q qm cA σ0 σ τ' o o2 (vp_updL f 0 w.toInt64) f2).symm (mW_fst ..) rfl rfl hl.1 (Nat.le_of_ble_eq_true rfl) dL_law_2056 ⟨(Nat.le_of_ble_eq_true rfl), (Nat.le_of_ble_eq_true rfl)⟩ rfl rfl ⟨by show _ ≤ 601024; omega, by show _ ≤ 7293034; omega⟩ (fun H locs h => ?_)
    refine W.eq (g2 := F0 m 2059 ls [.int w]) rfl ?_
    refine lv_istore (pc := 2059) (lv' := [(7, .int w), (6, .int 0), (0, .ref b), (1, .ref (q0 0)), (2, .ref (qm 0)), (3, .ref o), (4, .ref o2), (5, .int i)]) hx hb dL_law_2059 hl (by decide) rfl (fun ls hl => ?_)
    refine lv_aload_n (pc := 2061) hx hb dL_law_2061 rfl (lv_at hl 4 rfl) ?_
    refine call_VRp (pc := 2062) (rest := []) (As := []) C h (k_X5_thrown (q := qm) τ' rfl) cm_L_131 (mW_c0 ..) rfl (wL_M ..) rfl rfl hl.1 (Nat.le_of_ble_eq_true rfl) dL_law_2062 ⟨(Nat.le_of_ble_eq_true rfl), (Nat.le_of_ble_eq_true rfl)⟩ rfl rfl ⟨by show _ ≤ 601024; omega, by show _ ≤ 7293034; omega⟩ (fun H locs h => ?_)
    refine W.eq (g2 := F0 m 2065 ls [.int (τ' 24 0)]) rfl ?_
    refine lv_iload (pc := 2065) hx hb dL_law_2065 (lv_at hl 1 rfl) ?_
    refine lv_icmp_eq (pc := 2067) (tgt := 2072) hx hb dL_law_2067 (by decide) (fun _ => ?_) (fun c9 => absurd hthr c9)
    refine lv_iload (pc := 2072) hx hb dL_law_2072 (lv_at hl 1 rfl) ?_
    refine lv_if_ne (pc := 2074) (tgt := 2089) hx hb dL_law_2074 (by decide) (fun c9 => absurd rfl c9) (fun _ => ?_)
    refine lv_aload_n (pc := 2077) hx hb dL_law_2077 rfl (lv_at hl 5 rfl) ?_
    refine lv_iconst (pc := 2078) (v := 0) hx hb dL_law_2078 (by decide) ?_
    refine va_lald (pc := 2079) hx hb hK.1 h.1 0 3 (wL_o ..) rfl (show inb (0 : Int32) 1 from by decide) dL_law_2079 ?_
    refine W.eq (g2 := F0 m 2080 ls [.long w.toInt64]) rfl ?_
    refine lv_iload (pc := 2080) hx hb dL_law_2080 (lv_at hl 0 rfl) ?_
    refine lv_i2l (pc := 2082) (v := w.toInt64) hx hb dL_law_2082 rfl ?_
    refine W.lcmp (pc := 2083) hx hb dL_law_2083 ?_
    rw [cmp_self]
    refine lv_if_eq (pc := 2084) (tgt := 2089) hx hb dL_law_2084 (by decide) (fun _ => ?_) (fun c9 => absurd rfl c9)
    refine lv_goto (pc := 2089) (tgt := 2364) hx hb dL_law_2089 (by decide) ?_
    exact W.widen (by omega) (by omega) (kk _ _ _ _ _ _ _ _ _ hI2 h ls (lv_sub hl [2, 3, 4, 5, 6, 7] rfl))
  · refine lv_aload_n (pc := 2024) hx hb dL_law_2024 rfl (lv_at hl 1 rfl) ?_
    refine lv_aload_n (pc := 2025) hx hb dL_law_2025 rfl (lv_at hl 0 rfl) ?_
    refine lv_iload (pc := 2026) hx hb dL_law_2026 (lv_at hl 5 rfl) ?_
    refine lv_iconst (pc := 2028) (v := 1) hx hb dL_law_2028 (by decide) ?_
    refine lv_iadd (pc := 2029) hx hb dL_law_2029 ?_
    refine va_sld (pc := 2030) hx hb hscr hbl hbA h.2.2.1 hi1 dL_law_2030 ?_
    refine lv_aload_n (pc := 2031) hx hb dL_law_2031 rfl (lv_at hl 0 rfl) ?_
    refine lv_iload (pc := 2032) hx hb dL_law_2032 (lv_at hl 5 rfl) ?_
    refine lv_iconst (pc := 2034) (v := 2) hx hb dL_law_2034 (by decide) ?_
    refine lv_iadd (pc := 2035) hx hb dL_law_2035 ?_
    refine va_sld (pc := 2036) hx hb hscr hbl hbA h.2.2.1 hi2 dL_law_2036 ?_
    refine lv_aload_n (pc := 2037) hx hb dL_law_2037 rfl (lv_at hl 3 rfl) ?_
    refine call_W (pc := 2038) (rest := []) (As := [.ref (q0 0), .int (xs (i + 1).toNatClampNeg), .int (xs (i + 2).toNatClampNeg), .ref o]) (ws' := wL n q0 q qm cA σ0 σ τ o o2 f f2) C hl0 hX hN h (wT_personOf_0 hn σ0 σ (xs (i + 1).toNatClampNeg) (xs (i + 2).toNatClampNeg) hf o f) cx_L_229 (wL_L ..) (wL_L n q0 q qm cA σ0 σ τ o o2 f f2).symm rfl rfl rfl hl.1 (Nat.le_of_ble_eq_true rfl) dL_law_2038 ⟨(Nat.le_of_ble_eq_true rfl), (Nat.le_of_ble_eq_true rfl)⟩ rfl rfl ⟨by show cells + 1 ≤ 601024; omega, by show slots + 6 ≤ 7293034; omega⟩ (fun H locs h => ?_)
    refine W.eq (g2 := F0 m 2041 ls [.int 1]) rfl ?_
    refine lv_istore (pc := 2041) (lv' := [(6, .int 1), (0, .ref b), (1, .ref (q0 0)), (2, .ref (qm 0)), (3, .ref o), (4, .ref o2), (5, .int i)]) hx hb dL_law_2041 hl (by decide) rfl (fun ls hl => ?_)
    refine lv_aload_n (pc := 2043) hx hb dL_law_2043 rfl (lv_at hl 3 rfl) ?_
    refine lv_aload_n (pc := 2044) hx hb dL_law_2044 rfl (lv_at hl 1 rfl) ?_
    refine lv_iload (pc := 2045) hx hb dL_law_2045 (lv_at hl 6 rfl) ?_
    refine lv_iconst (pc := 2047) (v := 1) hx hb dL_law_2047 (by decide) ?_
    refine lv_iadd (pc := 2048) hx hb dL_law_2048 ?_
    refine va_sld (pc := 2049) hx hb hscr hbl hbA h.2.2.1 hi1 dL_law_2049 ?_
    refine lv_aload_n (pc := 2050) hx hb dL_law_2050 rfl (lv_at hl 1 rfl) ?_
    refine lv_iload (pc := 2051) hx hb dL_law_2051 (lv_at hl 6 rfl) ?_
    refine lv_iconst (pc := 2053) (v := 2) hx hb dL_law_2053 (by decide) ?_
    refine lv_iadd (pc := 2054) hx hb dL_law_2054 ?_
    refine va_sld (pc := 2055) hx hb hscr hbl hbA h.2.2.1 hi2 dL_law_2055 ?_
    refine call_VUp (pc := 2056) (rest := []) (As := [.int (xs (i + 1).toNatClampNeg), .int (xs (i + 2).toNatClampNeg)]) (wc' := mW qm cA τ') (ws' := wL n q0 q qm cA σ0 σ τ' o o2 f f2) C h (k_X5_personOf (q := qm) τ (xs (i + 1).toNatClampNeg) (xs (i + 2).toNatClampNeg) h5) cm_L_231 (mW_c0 ..) rfl (wL_M ..) (wL_M n q0 q qm cA σ0 σ τ' o o2 f f2).symm (mW_fst ..) rfl rfl hl.1 (Nat.le_of_ble_eq_true rfl) dL_law_2056 ⟨(Nat.le_of_ble_eq_true rfl), (Nat.le_of_ble_eq_true rfl)⟩ rfl rfl ⟨by show _ ≤ 601024; omega, by show _ ≤ 7293034; omega⟩ (fun H locs h => ?_)
    refine W.eq (g2 := F0 m 2059 ls [.int w]) rfl ?_
    refine lv_istore (pc := 2059) (lv' := [(7, .int w), (6, .int 1), (0, .ref b), (1, .ref (q0 0)), (2, .ref (qm 0)), (3, .ref o), (4, .ref o2), (5, .int i)]) hx hb dL_law_2059 hl (by decide) rfl (fun ls hl => ?_)
    refine lv_aload_n (pc := 2061) hx hb dL_law_2061 rfl (lv_at hl 4 rfl) ?_
    refine call_VRp (pc := 2062) (rest := []) (As := []) C h (k_X5_thrown (q := qm) τ' rfl) cm_L_131 (mW_c0 ..) rfl (wL_M ..) rfl rfl hl.1 (Nat.le_of_ble_eq_true rfl) dL_law_2062 ⟨(Nat.le_of_ble_eq_true rfl), (Nat.le_of_ble_eq_true rfl)⟩ rfl rfl ⟨by show _ ≤ 601024; omega, by show _ ≤ 7293034; omega⟩ (fun H locs h => ?_)
    refine W.eq (g2 := F0 m 2065 ls [.int (τ' 24 0)]) rfl ?_
    refine lv_iload (pc := 2065) hx hb dL_law_2065 (lv_at hl 1 rfl) ?_
    refine lv_icmp_eq (pc := 2067) (tgt := 2072) hx hb dL_law_2067 (by decide) (fun _ => ?_) (fun c9 => absurd hthr c9)
    refine lv_iload (pc := 2072) hx hb dL_law_2072 (lv_at hl 1 rfl) ?_
    refine lv_if_ne (pc := 2074) (tgt := 2089) hx hb dL_law_2074 (by decide) (fun _ => ?_) (fun c9 => absurd c9 (by decide))
    refine lv_goto (pc := 2089) (tgt := 2364) hx hb dL_law_2089 (by decide) ?_
    exact W.widen (by omega) (by omega) (kk _ _ _ _ _ _ _ _ _ hI2 h ls (lv_sub hl [2, 3, 4, 5, 6, 7] rfl))
set_option maxHeartbeats 1000000 in
set_option maxRecDepth 100000 in
theorem law_dayOf {Inv : IT} (hn6 : ∀ t n σ0 σ τ, Inv t n σ0 σ τ → n ≤ 6) (S : SA_dayOf Inv) {t n : Nat} {q0 : Nat → Nat} {q : Nat → Nat → Nat} {qm : Nat → Nat} {σ0 τ : Nat → Nat → Int32} {σ : Nat → Nat → Nat → Int32} {o o2 : Nat} {f : Nat → Int64} {f2 : Nat → UInt64} {i : Int32} (ht : t < 512) (hI : Inv t n σ0 σ τ)
    (X : LX p l s m args meth c D cA b L xs) (h : St D (nA s) s.heap (wL n q0 q qm cA σ0 σ τ o o2 f f2) H locs) (hi : HI i L) (hl : lv_has ls 8 (L0 b (q0 0) (qm 0) o o2 i)) (hc : cells + 20 ≤ 601024) (hs : slots + 263 ≤ 7293034)
    (kk : LK p l e s m args below meth c D cA b q0 qm o o2 Inv t i cells slots Q) : W p l e room_1 s m args below meth c H locs cells slots Q (F0 m 2092 ls []) := by
  obtain ⟨C, hl0, hX, hN, hscr, hbl⟩ := X
  obtain ⟨hi0, hi1, hi2, hi3, hi4, hi5⟩ := hi
  obtain ⟨hx, hb, hml, hown, hts, hK, hlk⟩ := id C
  have hbA : ¬ nA s b := Nat.not_le.mpr hbl
  have hn := hn6 _ _ _ _ _ hI
  obtain ⟨w, τ', h5, ⟨hf, hI2, hthr⟩ | ⟨hf, hI2, hthr⟩⟩ := S _ _ _ _ _ _ _ ht hI
  · refine lv_aload_n (pc := 2092) hx hb dL_law_2092 rfl (lv_at hl 1 rfl) ?_
    refine lv_aload_n (pc := 2093) hx hb dL_law_2093 rfl (lv_at hl 0 rfl) ?_
    refine lv_iload (pc := 2094) hx hb dL_law_2094 (lv_at hl 5 rfl) ?_
    refine lv_iconst (pc := 2096) (v := 1) hx hb dL_law_2096 (by decide) ?_
    refine lv_iadd (pc := 2097) hx hb dL_law_2097 ?_
    refine va_sld (pc := 2098) hx hb hscr hbl hbA h.2.2.1 hi1 dL_law_2098 ?_
    refine lv_aload_n (pc := 2099) hx hb dL_law_2099 rfl (lv_at hl 0 rfl) ?_
    refine lv_iload (pc := 2100) hx hb dL_law_2100 (lv_at hl 5 rfl) ?_
    refine lv_iconst (pc := 2102) (v := 2) hx hb dL_law_2102 (by decide) ?_
    refine lv_iadd (pc := 2103) hx hb dL_law_2103 ?_
    refine va_sld (pc := 2104) hx hb hscr hbl hbA h.2.2.1 hi2 dL_law_2104 ?_
    refine lv_aload_n (pc := 2105) hx hb dL_law_2105 rfl (lv_at hl 3 rfl) ?_
    refine call_W (pc := 2106) (rest := []) (As := [.ref (q0 0), .int (xs (i + 1).toNatClampNeg), .int (xs (i + 2).toNatClampNeg), .ref o]) (ws' := wL n q0 q qm cA σ0 σ τ o o2 (vp_updL f 0 w.toInt64) f2) C hl0 hX hN h (w_dayOf hn σ0 σ (xs (i + 1).toNatClampNeg) (xs (i + 2).toNatClampNeg) hf o f) cx_L_232 (wL_L ..) (wL_L n q0 q qm cA σ0 σ τ o o2 (vp_updL f 0 w.toInt64) f2).symm (xL_fst ..) rfl rfl hl.1 (Nat.le_of_ble_eq_true rfl) dL_law_2106 ⟨(Nat.le_of_ble_eq_true rfl), (Nat.le_of_ble_eq_true rfl)⟩ rfl rfl ⟨by show cells + 1 ≤ 601024; omega, by show slots + 6 ≤ 7293034; omega⟩ (fun H locs h => ?_)
    refine W.eq (g2 := F0 m 2109 ls [.int 0]) rfl ?_
    refine lv_istore (pc := 2109) (lv' := [(6, .int 0), (0, .ref b), (1, .ref (q0 0)), (2, .ref (qm 0)), (3, .ref o), (4, .ref o2), (5, .int i)]) hx hb dL_law_2109 hl (by decide) rfl (fun ls hl => ?_)
    refine lv_aload_n (pc := 2111) hx hb dL_law_2111 rfl (lv_at hl 3 rfl) ?_
    refine lv_aload_n (pc := 2112) hx hb dL_law_2112 rfl (lv_at hl 1 rfl) ?_
    refine lv_iload (pc := 2113) hx hb dL_law_2113 (lv_at hl 6 rfl) ?_
    refine lv_iconst (pc := 2115) (v := 1) hx hb dL_law_2115 (by decide) ?_
    refine lv_iadd (pc := 2116) hx hb dL_law_2116 ?_
    refine va_sld (pc := 2117) hx hb hscr hbl hbA h.2.2.1 hi1 dL_law_2117 ?_
    refine lv_aload_n (pc := 2118) hx hb dL_law_2118 rfl (lv_at hl 1 rfl) ?_
    refine lv_iload (pc := 2119) hx hb dL_law_2119 (lv_at hl 6 rfl) ?_
    refine lv_iconst (pc := 2121) (v := 2) hx hb dL_law_2121 (by decide) ?_
    refine lv_iadd (pc := 2122) hx hb dL_law_2122 ?_
    refine va_sld (pc := 2123) hx hb hscr hbl hbA h.2.2.1 hi2 dL_law_2123 ?_
    refine call_VUp (pc := 2124) (rest := []) (As := [.int (xs (i + 1).toNatClampNeg), .int (xs (i + 2).toNatClampNeg)]) (wc' := mW qm cA τ') (ws' := wL n q0 q qm cA σ0 σ τ' o o2 (vp_updL f 0 w.toInt64) f2) C h (k_X5_dayOf (q := qm) τ (xs (i + 1).toNatClampNeg) (xs (i + 2).toNatClampNeg) h5) cm_L_234 (mW_c0 ..) rfl (wL_M ..) (wL_M n q0 q qm cA σ0 σ τ' o o2 (vp_updL f 0 w.toInt64) f2).symm (mW_fst ..) rfl rfl hl.1 (Nat.le_of_ble_eq_true rfl) dL_law_2124 ⟨(Nat.le_of_ble_eq_true rfl), (Nat.le_of_ble_eq_true rfl)⟩ rfl rfl ⟨by show _ ≤ 601024; omega, by show _ ≤ 7293034; omega⟩ (fun H locs h => ?_)
    refine W.eq (g2 := F0 m 2127 ls [.int w]) rfl ?_
    refine lv_istore (pc := 2127) (lv' := [(7, .int w), (6, .int 0), (0, .ref b), (1, .ref (q0 0)), (2, .ref (qm 0)), (3, .ref o), (4, .ref o2), (5, .int i)]) hx hb dL_law_2127 hl (by decide) rfl (fun ls hl => ?_)
    refine lv_aload_n (pc := 2129) hx hb dL_law_2129 rfl (lv_at hl 4 rfl) ?_
    refine call_VRp (pc := 2130) (rest := []) (As := []) C h (k_X5_thrown (q := qm) τ' rfl) cm_L_131 (mW_c0 ..) rfl (wL_M ..) rfl rfl hl.1 (Nat.le_of_ble_eq_true rfl) dL_law_2130 ⟨(Nat.le_of_ble_eq_true rfl), (Nat.le_of_ble_eq_true rfl)⟩ rfl rfl ⟨by show _ ≤ 601024; omega, by show _ ≤ 7293034; omega⟩ (fun H locs h => ?_)
    refine W.eq (g2 := F0 m 2133 ls [.int (τ' 24 0)]) rfl ?_
    refine lv_iload (pc := 2133) hx hb dL_law_2133 (lv_at hl 1 rfl) ?_
    refine lv_icmp_eq (pc := 2135) (tgt := 2140) hx hb dL_law_2135 (by decide) (fun _ => ?_) (fun c9 => absurd hthr c9)
    refine lv_iload (pc := 2140) hx hb dL_law_2140 (lv_at hl 1 rfl) ?_
    refine lv_if_ne (pc := 2142) (tgt := 2157) hx hb dL_law_2142 (by decide) (fun c9 => absurd rfl c9) (fun _ => ?_)
    refine lv_aload_n (pc := 2145) hx hb dL_law_2145 rfl (lv_at hl 5 rfl) ?_
    refine lv_iconst (pc := 2146) (v := 0) hx hb dL_law_2146 (by decide) ?_
    refine va_lald (pc := 2147) hx hb hK.1 h.1 0 3 (wL_o ..) rfl (show inb (0 : Int32) 1 from by decide) dL_law_2147 ?_
    refine W.eq (g2 := F0 m 2148 ls [.long w.toInt64]) rfl ?_
    refine lv_iload (pc := 2148) hx hb dL_law_2148 (lv_at hl 0 rfl) ?_
    refine lv_i2l (pc := 2150) (v := w.toInt64) hx hb dL_law_2150 rfl ?_
    refine W.lcmp (pc := 2151) hx hb dL_law_2151 ?_
    rw [cmp_self]
    refine lv_if_eq (pc := 2152) (tgt := 2157) hx hb dL_law_2152 (by decide) (fun _ => ?_) (fun c9 => absurd rfl c9)
    refine lv_goto (pc := 2157) (tgt := 2364) hx hb dL_law_2157 (by decide) ?_
    exact W.widen (by omega) (by omega) (kk _ _ _ _ _ _ _ _ _ hI2 h ls (lv_sub hl [2, 3, 4, 5, 6, 7] rfl))
  · refine lv_aload_n (pc := 2092) hx hb dL_law_2092 rfl (lv_at hl 1 rfl) ?_
    refine lv_aload_n (pc := 2093) hx hb dL_law_2093 rfl (lv_at hl 0 rfl) ?_
    refine lv_iload (pc := 2094) hx hb dL_law_2094 (lv_at hl 5 rfl) ?_
    refine lv_iconst (pc := 2096) (v := 1) hx hb dL_law_2096 (by decide) ?_
    refine lv_iadd (pc := 2097) hx hb dL_law_2097 ?_
    refine va_sld (pc := 2098) hx hb hscr hbl hbA h.2.2.1 hi1 dL_law_2098 ?_
    refine lv_aload_n (pc := 2099) hx hb dL_law_2099 rfl (lv_at hl 0 rfl) ?_
    refine lv_iload (pc := 2100) hx hb dL_law_2100 (lv_at hl 5 rfl) ?_
    refine lv_iconst (pc := 2102) (v := 2) hx hb dL_law_2102 (by decide) ?_
    refine lv_iadd (pc := 2103) hx hb dL_law_2103 ?_
    refine va_sld (pc := 2104) hx hb hscr hbl hbA h.2.2.1 hi2 dL_law_2104 ?_
    refine lv_aload_n (pc := 2105) hx hb dL_law_2105 rfl (lv_at hl 3 rfl) ?_
    refine call_W (pc := 2106) (rest := []) (As := [.ref (q0 0), .int (xs (i + 1).toNatClampNeg), .int (xs (i + 2).toNatClampNeg), .ref o]) (ws' := wL n q0 q qm cA σ0 σ τ o o2 f f2) C hl0 hX hN h (wT_dayOf_0 hn σ0 σ (xs (i + 1).toNatClampNeg) (xs (i + 2).toNatClampNeg) hf o f) cx_L_232 (wL_L ..) (wL_L n q0 q qm cA σ0 σ τ o o2 f f2).symm rfl rfl rfl hl.1 (Nat.le_of_ble_eq_true rfl) dL_law_2106 ⟨(Nat.le_of_ble_eq_true rfl), (Nat.le_of_ble_eq_true rfl)⟩ rfl rfl ⟨by show cells + 1 ≤ 601024; omega, by show slots + 6 ≤ 7293034; omega⟩ (fun H locs h => ?_)
    refine W.eq (g2 := F0 m 2109 ls [.int 1]) rfl ?_
    refine lv_istore (pc := 2109) (lv' := [(6, .int 1), (0, .ref b), (1, .ref (q0 0)), (2, .ref (qm 0)), (3, .ref o), (4, .ref o2), (5, .int i)]) hx hb dL_law_2109 hl (by decide) rfl (fun ls hl => ?_)
    refine lv_aload_n (pc := 2111) hx hb dL_law_2111 rfl (lv_at hl 3 rfl) ?_
    refine lv_aload_n (pc := 2112) hx hb dL_law_2112 rfl (lv_at hl 1 rfl) ?_
    refine lv_iload (pc := 2113) hx hb dL_law_2113 (lv_at hl 6 rfl) ?_
    refine lv_iconst (pc := 2115) (v := 1) hx hb dL_law_2115 (by decide) ?_
    refine lv_iadd (pc := 2116) hx hb dL_law_2116 ?_
    refine va_sld (pc := 2117) hx hb hscr hbl hbA h.2.2.1 hi1 dL_law_2117 ?_
    refine lv_aload_n (pc := 2118) hx hb dL_law_2118 rfl (lv_at hl 1 rfl) ?_
    refine lv_iload (pc := 2119) hx hb dL_law_2119 (lv_at hl 6 rfl) ?_
    refine lv_iconst (pc := 2121) (v := 2) hx hb dL_law_2121 (by decide) ?_
    refine lv_iadd (pc := 2122) hx hb dL_law_2122 ?_
    refine va_sld (pc := 2123) hx hb hscr hbl hbA h.2.2.1 hi2 dL_law_2123 ?_
    refine call_VUp (pc := 2124) (rest := []) (As := [.int (xs (i + 1).toNatClampNeg), .int (xs (i + 2).toNatClampNeg)]) (wc' := mW qm cA τ') (ws' := wL n q0 q qm cA σ0 σ τ' o o2 f f2) C h (k_X5_dayOf (q := qm) τ (xs (i + 1).toNatClampNeg) (xs (i + 2).toNatClampNeg) h5) cm_L_234 (mW_c0 ..) rfl (wL_M ..) (wL_M n q0 q qm cA σ0 σ τ' o o2 f f2).symm (mW_fst ..) rfl rfl hl.1 (Nat.le_of_ble_eq_true rfl) dL_law_2124 ⟨(Nat.le_of_ble_eq_true rfl), (Nat.le_of_ble_eq_true rfl)⟩ rfl rfl ⟨by show _ ≤ 601024; omega, by show _ ≤ 7293034; omega⟩ (fun H locs h => ?_)
    refine W.eq (g2 := F0 m 2127 ls [.int w]) rfl ?_
    refine lv_istore (pc := 2127) (lv' := [(7, .int w), (6, .int 1), (0, .ref b), (1, .ref (q0 0)), (2, .ref (qm 0)), (3, .ref o), (4, .ref o2), (5, .int i)]) hx hb dL_law_2127 hl (by decide) rfl (fun ls hl => ?_)
    refine lv_aload_n (pc := 2129) hx hb dL_law_2129 rfl (lv_at hl 4 rfl) ?_
    refine call_VRp (pc := 2130) (rest := []) (As := []) C h (k_X5_thrown (q := qm) τ' rfl) cm_L_131 (mW_c0 ..) rfl (wL_M ..) rfl rfl hl.1 (Nat.le_of_ble_eq_true rfl) dL_law_2130 ⟨(Nat.le_of_ble_eq_true rfl), (Nat.le_of_ble_eq_true rfl)⟩ rfl rfl ⟨by show _ ≤ 601024; omega, by show _ ≤ 7293034; omega⟩ (fun H locs h => ?_)
    refine W.eq (g2 := F0 m 2133 ls [.int (τ' 24 0)]) rfl ?_
    refine lv_iload (pc := 2133) hx hb dL_law_2133 (lv_at hl 1 rfl) ?_
    refine lv_icmp_eq (pc := 2135) (tgt := 2140) hx hb dL_law_2135 (by decide) (fun _ => ?_) (fun c9 => absurd hthr c9)
    refine lv_iload (pc := 2140) hx hb dL_law_2140 (lv_at hl 1 rfl) ?_
    refine lv_if_ne (pc := 2142) (tgt := 2157) hx hb dL_law_2142 (by decide) (fun _ => ?_) (fun c9 => absurd c9 (by decide))
    refine lv_goto (pc := 2157) (tgt := 2364) hx hb dL_law_2157 (by decide) ?_
    exact W.widen (by omega) (by omega) (kk _ _ _ _ _ _ _ _ _ hI2 h ls (lv_sub hl [2, 3, 4, 5, 6, 7] rfl))
set_option maxHeartbeats 1000000 in
set_option maxRecDepth 100000 in
theorem law_seal {Inv : IT} (hn6 : ∀ t n σ0 σ τ, Inv t n σ0 σ τ → n ≤ 6) (S : SA_seal Inv) {t n : Nat} {q0 : Nat → Nat} {q : Nat → Nat → Nat} {qm : Nat → Nat} {σ0 τ : Nat → Nat → Int32} {σ : Nat → Nat → Nat → Int32} {o o2 : Nat} {f : Nat → Int64} {f2 : Nat → UInt64} {i : Int32} (ht : t < 512) (hI : Inv t n σ0 σ τ)
    (X : LX p l s m args meth c D cA b L xs) (h : St D (nA s) s.heap (wL n q0 q qm cA σ0 σ τ o o2 f f2) H locs) (hi : HI i L) (hl : lv_has ls 8 (L0 b (q0 0) (qm 0) o o2 i)) (hc : cells + 20 ≤ 601024) (hs : slots + 263 ≤ 7293034)
    (kk : LK p l e s m args below meth c D cA b q0 qm o o2 Inv t i cells slots Q) : W p l e room_1 s m args below meth c H locs cells slots Q (F0 m 2160 ls []) := by
  obtain ⟨C, hl0, hX, hN, hscr, hbl⟩ := X
  obtain ⟨hi0, hi1, hi2, hi3, hi4, hi5⟩ := hi
  obtain ⟨hx, hb, hml, hown, hts, hK, hlk⟩ := id C
  have hbA : ¬ nA s b := Nat.not_le.mpr hbl
  have hn := hn6 _ _ _ _ _ hI
  obtain ⟨w, τ', h5, ⟨hf, hI2, hthr⟩ | ⟨hf, hI2, hthr⟩⟩ := S _ _ _ _ _ _ _ ht hI
  · refine lv_aload_n (pc := 2160) hx hb dL_law_2160 rfl (lv_at hl 1 rfl) ?_
    refine lv_aload_n (pc := 2161) hx hb dL_law_2161 rfl (lv_at hl 0 rfl) ?_
    refine lv_iload (pc := 2162) hx hb dL_law_2162 (lv_at hl 5 rfl) ?_
    refine lv_iconst (pc := 2164) (v := 1) hx hb dL_law_2164 (by decide) ?_
    refine lv_iadd (pc := 2165) hx hb dL_law_2165 ?_
    refine va_sld (pc := 2166) hx hb hscr hbl hbA h.2.2.1 hi1 dL_law_2166 ?_
    refine lv_aload_n (pc := 2167) hx hb dL_law_2167 rfl (lv_at hl 0 rfl) ?_
    refine lv_iload (pc := 2168) hx hb dL_law_2168 (lv_at hl 5 rfl) ?_
    refine lv_iconst (pc := 2170) (v := 2) hx hb dL_law_2170 (by decide) ?_
    refine lv_iadd (pc := 2171) hx hb dL_law_2171 ?_
    refine va_sld (pc := 2172) hx hb hscr hbl hbA h.2.2.1 hi2 dL_law_2172 ?_
    refine lv_aload_n (pc := 2173) hx hb dL_law_2173 rfl (lv_at hl 3 rfl) ?_
    refine call_W (pc := 2174) (rest := []) (As := [.ref (q0 0), .int (xs (i + 1).toNatClampNeg), .int (xs (i + 2).toNatClampNeg), .ref o]) (ws' := wL n q0 q qm cA σ0 σ τ o o2 (vp_updL f 0 w.toInt64) f2) C hl0 hX hN h (w_seal hn σ0 σ (xs (i + 1).toNatClampNeg) (xs (i + 2).toNatClampNeg) hf o f) cx_L_235 (wL_L ..) (wL_L n q0 q qm cA σ0 σ τ o o2 (vp_updL f 0 w.toInt64) f2).symm (xL_fst ..) rfl rfl hl.1 (Nat.le_of_ble_eq_true rfl) dL_law_2174 ⟨(Nat.le_of_ble_eq_true rfl), (Nat.le_of_ble_eq_true rfl)⟩ rfl rfl ⟨by show cells + 1 ≤ 601024; omega, by show slots + 6 ≤ 7293034; omega⟩ (fun H locs h => ?_)
    refine W.eq (g2 := F0 m 2177 ls [.int 0]) rfl ?_
    refine lv_istore (pc := 2177) (lv' := [(6, .int 0), (0, .ref b), (1, .ref (q0 0)), (2, .ref (qm 0)), (3, .ref o), (4, .ref o2), (5, .int i)]) hx hb dL_law_2177 hl (by decide) rfl (fun ls hl => ?_)
    refine lv_aload_n (pc := 2179) hx hb dL_law_2179 rfl (lv_at hl 3 rfl) ?_
    refine lv_aload_n (pc := 2180) hx hb dL_law_2180 rfl (lv_at hl 1 rfl) ?_
    refine lv_iload (pc := 2181) hx hb dL_law_2181 (lv_at hl 6 rfl) ?_
    refine lv_iconst (pc := 2183) (v := 1) hx hb dL_law_2183 (by decide) ?_
    refine lv_iadd (pc := 2184) hx hb dL_law_2184 ?_
    refine va_sld (pc := 2185) hx hb hscr hbl hbA h.2.2.1 hi1 dL_law_2185 ?_
    refine lv_aload_n (pc := 2186) hx hb dL_law_2186 rfl (lv_at hl 1 rfl) ?_
    refine lv_iload (pc := 2187) hx hb dL_law_2187 (lv_at hl 6 rfl) ?_
    refine lv_iconst (pc := 2189) (v := 2) hx hb dL_law_2189 (by decide) ?_
    refine lv_iadd (pc := 2190) hx hb dL_law_2190 ?_
    refine va_sld (pc := 2191) hx hb hscr hbl hbA h.2.2.1 hi2 dL_law_2191 ?_
    refine call_VUp (pc := 2192) (rest := []) (As := [.int (xs (i + 1).toNatClampNeg), .int (xs (i + 2).toNatClampNeg)]) (wc' := mW qm cA τ') (ws' := wL n q0 q qm cA σ0 σ τ' o o2 (vp_updL f 0 w.toInt64) f2) C h (k_X5_seal (q := qm) τ (xs (i + 1).toNatClampNeg) (xs (i + 2).toNatClampNeg) h5) cm_L_237 (mW_c0 ..) rfl (wL_M ..) (wL_M n q0 q qm cA σ0 σ τ' o o2 (vp_updL f 0 w.toInt64) f2).symm (mW_fst ..) rfl rfl hl.1 (Nat.le_of_ble_eq_true rfl) dL_law_2192 ⟨(Nat.le_of_ble_eq_true rfl), (Nat.le_of_ble_eq_true rfl)⟩ rfl rfl ⟨by show _ ≤ 601024; omega, by show _ ≤ 7293034; omega⟩ (fun H locs h => ?_)
    refine W.eq (g2 := F0 m 2195 ls [.int w]) rfl ?_
    refine lv_istore (pc := 2195) (lv' := [(7, .int w), (6, .int 0), (0, .ref b), (1, .ref (q0 0)), (2, .ref (qm 0)), (3, .ref o), (4, .ref o2), (5, .int i)]) hx hb dL_law_2195 hl (by decide) rfl (fun ls hl => ?_)
    refine lv_aload_n (pc := 2197) hx hb dL_law_2197 rfl (lv_at hl 4 rfl) ?_
    refine call_VRp (pc := 2198) (rest := []) (As := []) C h (k_X5_thrown (q := qm) τ' rfl) cm_L_131 (mW_c0 ..) rfl (wL_M ..) rfl rfl hl.1 (Nat.le_of_ble_eq_true rfl) dL_law_2198 ⟨(Nat.le_of_ble_eq_true rfl), (Nat.le_of_ble_eq_true rfl)⟩ rfl rfl ⟨by show _ ≤ 601024; omega, by show _ ≤ 7293034; omega⟩ (fun H locs h => ?_)
    refine W.eq (g2 := F0 m 2201 ls [.int (τ' 24 0)]) rfl ?_
    refine lv_iload (pc := 2201) hx hb dL_law_2201 (lv_at hl 1 rfl) ?_
    refine lv_icmp_eq (pc := 2203) (tgt := 2208) hx hb dL_law_2203 (by decide) (fun _ => ?_) (fun c9 => absurd hthr c9)
    refine lv_iload (pc := 2208) hx hb dL_law_2208 (lv_at hl 1 rfl) ?_
    refine lv_if_ne (pc := 2210) (tgt := 2225) hx hb dL_law_2210 (by decide) (fun c9 => absurd rfl c9) (fun _ => ?_)
    refine lv_aload_n (pc := 2213) hx hb dL_law_2213 rfl (lv_at hl 5 rfl) ?_
    refine lv_iconst (pc := 2214) (v := 0) hx hb dL_law_2214 (by decide) ?_
    refine va_lald (pc := 2215) hx hb hK.1 h.1 0 3 (wL_o ..) rfl (show inb (0 : Int32) 1 from by decide) dL_law_2215 ?_
    refine W.eq (g2 := F0 m 2216 ls [.long w.toInt64]) rfl ?_
    refine lv_iload (pc := 2216) hx hb dL_law_2216 (lv_at hl 0 rfl) ?_
    refine lv_i2l (pc := 2218) (v := w.toInt64) hx hb dL_law_2218 rfl ?_
    refine W.lcmp (pc := 2219) hx hb dL_law_2219 ?_
    rw [cmp_self]
    refine lv_if_eq (pc := 2220) (tgt := 2225) hx hb dL_law_2220 (by decide) (fun _ => ?_) (fun c9 => absurd rfl c9)
    refine lv_goto (pc := 2225) (tgt := 2364) hx hb dL_law_2225 (by decide) ?_
    exact W.widen (by omega) (by omega) (kk _ _ _ _ _ _ _ _ _ hI2 h ls (lv_sub hl [2, 3, 4, 5, 6, 7] rfl))
  · refine lv_aload_n (pc := 2160) hx hb dL_law_2160 rfl (lv_at hl 1 rfl) ?_
    refine lv_aload_n (pc := 2161) hx hb dL_law_2161 rfl (lv_at hl 0 rfl) ?_
    refine lv_iload (pc := 2162) hx hb dL_law_2162 (lv_at hl 5 rfl) ?_
    refine lv_iconst (pc := 2164) (v := 1) hx hb dL_law_2164 (by decide) ?_
    refine lv_iadd (pc := 2165) hx hb dL_law_2165 ?_
    refine va_sld (pc := 2166) hx hb hscr hbl hbA h.2.2.1 hi1 dL_law_2166 ?_
    refine lv_aload_n (pc := 2167) hx hb dL_law_2167 rfl (lv_at hl 0 rfl) ?_
    refine lv_iload (pc := 2168) hx hb dL_law_2168 (lv_at hl 5 rfl) ?_
    refine lv_iconst (pc := 2170) (v := 2) hx hb dL_law_2170 (by decide) ?_
    refine lv_iadd (pc := 2171) hx hb dL_law_2171 ?_
    refine va_sld (pc := 2172) hx hb hscr hbl hbA h.2.2.1 hi2 dL_law_2172 ?_
    refine lv_aload_n (pc := 2173) hx hb dL_law_2173 rfl (lv_at hl 3 rfl) ?_
    refine call_W (pc := 2174) (rest := []) (As := [.ref (q0 0), .int (xs (i + 1).toNatClampNeg), .int (xs (i + 2).toNatClampNeg), .ref o]) (ws' := wL n q0 q qm cA σ0 σ τ o o2 f f2) C hl0 hX hN h (wT_seal_0 hn σ0 σ (xs (i + 1).toNatClampNeg) (xs (i + 2).toNatClampNeg) hf o f) cx_L_235 (wL_L ..) (wL_L n q0 q qm cA σ0 σ τ o o2 f f2).symm rfl rfl rfl hl.1 (Nat.le_of_ble_eq_true rfl) dL_law_2174 ⟨(Nat.le_of_ble_eq_true rfl), (Nat.le_of_ble_eq_true rfl)⟩ rfl rfl ⟨by show cells + 1 ≤ 601024; omega, by show slots + 6 ≤ 7293034; omega⟩ (fun H locs h => ?_)
    refine W.eq (g2 := F0 m 2177 ls [.int 1]) rfl ?_
    refine lv_istore (pc := 2177) (lv' := [(6, .int 1), (0, .ref b), (1, .ref (q0 0)), (2, .ref (qm 0)), (3, .ref o), (4, .ref o2), (5, .int i)]) hx hb dL_law_2177 hl (by decide) rfl (fun ls hl => ?_)
    refine lv_aload_n (pc := 2179) hx hb dL_law_2179 rfl (lv_at hl 3 rfl) ?_
    refine lv_aload_n (pc := 2180) hx hb dL_law_2180 rfl (lv_at hl 1 rfl) ?_
    refine lv_iload (pc := 2181) hx hb dL_law_2181 (lv_at hl 6 rfl) ?_
    refine lv_iconst (pc := 2183) (v := 1) hx hb dL_law_2183 (by decide) ?_
    refine lv_iadd (pc := 2184) hx hb dL_law_2184 ?_
    refine va_sld (pc := 2185) hx hb hscr hbl hbA h.2.2.1 hi1 dL_law_2185 ?_
    refine lv_aload_n (pc := 2186) hx hb dL_law_2186 rfl (lv_at hl 1 rfl) ?_
    refine lv_iload (pc := 2187) hx hb dL_law_2187 (lv_at hl 6 rfl) ?_
    refine lv_iconst (pc := 2189) (v := 2) hx hb dL_law_2189 (by decide) ?_
    refine lv_iadd (pc := 2190) hx hb dL_law_2190 ?_
    refine va_sld (pc := 2191) hx hb hscr hbl hbA h.2.2.1 hi2 dL_law_2191 ?_
    refine call_VUp (pc := 2192) (rest := []) (As := [.int (xs (i + 1).toNatClampNeg), .int (xs (i + 2).toNatClampNeg)]) (wc' := mW qm cA τ') (ws' := wL n q0 q qm cA σ0 σ τ' o o2 f f2) C h (k_X5_seal (q := qm) τ (xs (i + 1).toNatClampNeg) (xs (i + 2).toNatClampNeg) h5) cm_L_237 (mW_c0 ..) rfl (wL_M ..) (wL_M n q0 q qm cA σ0 σ τ' o o2 f f2).symm (mW_fst ..) rfl rfl hl.1 (Nat.le_of_ble_eq_true rfl) dL_law_2192 ⟨(Nat.le_of_ble_eq_true rfl), (Nat.le_of_ble_eq_true rfl)⟩ rfl rfl ⟨by show _ ≤ 601024; omega, by show _ ≤ 7293034; omega⟩ (fun H locs h => ?_)
    refine W.eq (g2 := F0 m 2195 ls [.int w]) rfl ?_
    refine lv_istore (pc := 2195) (lv' := [(7, .int w), (6, .int 1), (0, .ref b), (1, .ref (q0 0)), (2, .ref (qm 0)), (3, .ref o), (4, .ref o2), (5, .int i)]) hx hb dL_law_2195 hl (by decide) rfl (fun ls hl => ?_)
    refine lv_aload_n (pc := 2197) hx hb dL_law_2197 rfl (lv_at hl 4 rfl) ?_
    refine call_VRp (pc := 2198) (rest := []) (As := []) C h (k_X5_thrown (q := qm) τ' rfl) cm_L_131 (mW_c0 ..) rfl (wL_M ..) rfl rfl hl.1 (Nat.le_of_ble_eq_true rfl) dL_law_2198 ⟨(Nat.le_of_ble_eq_true rfl), (Nat.le_of_ble_eq_true rfl)⟩ rfl rfl ⟨by show _ ≤ 601024; omega, by show _ ≤ 7293034; omega⟩ (fun H locs h => ?_)
    refine W.eq (g2 := F0 m 2201 ls [.int (τ' 24 0)]) rfl ?_
    refine lv_iload (pc := 2201) hx hb dL_law_2201 (lv_at hl 1 rfl) ?_
    refine lv_icmp_eq (pc := 2203) (tgt := 2208) hx hb dL_law_2203 (by decide) (fun _ => ?_) (fun c9 => absurd hthr c9)
    refine lv_iload (pc := 2208) hx hb dL_law_2208 (lv_at hl 1 rfl) ?_
    refine lv_if_ne (pc := 2210) (tgt := 2225) hx hb dL_law_2210 (by decide) (fun _ => ?_) (fun c9 => absurd c9 (by decide))
    refine lv_goto (pc := 2225) (tgt := 2364) hx hb dL_law_2225 (by decide) ?_
    exact W.widen (by omega) (by omega) (kk _ _ _ _ _ _ _ _ _ hI2 h ls (lv_sub hl [2, 3, 4, 5, 6, 7] rfl))
set_option maxHeartbeats 1000000 in
set_option maxRecDepth 100000 in
theorem law_stateBehind {Inv : IT} (hn6 : ∀ t n σ0 σ τ, Inv t n σ0 σ τ → n ≤ 6) (S : SA_stateBehind Inv) {t n : Nat} {q0 : Nat → Nat} {q : Nat → Nat → Nat} {qm : Nat → Nat} {σ0 τ : Nat → Nat → Int32} {σ : Nat → Nat → Nat → Int32} {o o2 : Nat} {f : Nat → Int64} {f2 : Nat → UInt64} {i : Int32} (ht : t < 512) (hI : Inv t n σ0 σ τ)
    (X : LX p l s m args meth c D cA b L xs) (h : St D (nA s) s.heap (wL n q0 q qm cA σ0 σ τ o o2 f f2) H locs) (hi : HI i L) (hl : lv_has ls 8 (L0 b (q0 0) (qm 0) o o2 i)) (hc : cells + 20 ≤ 601024) (hs : slots + 263 ≤ 7293034)
    (kk : LK p l e s m args below meth c D cA b q0 qm o o2 Inv t i cells slots Q) : W p l e room_1 s m args below meth c H locs cells slots Q (F0 m 2228 ls []) := by
  obtain ⟨C, hl0, hX, hN, hscr, hbl⟩ := X
  obtain ⟨hi0, hi1, hi2, hi3, hi4, hi5⟩ := hi
  obtain ⟨hx, hb, hml, hown, hts, hK, hlk⟩ := id C
  have hbA : ¬ nA s b := Nat.not_le.mpr hbl
  have hn := hn6 _ _ _ _ _ hI
  obtain ⟨w, τ', h5, ⟨hf, hI2, hthr⟩ | ⟨hf, hI2, hthr⟩⟩ := S _ _ _ _ _ _ _ ht hI
  · refine lv_aload_n (pc := 2228) hx hb dL_law_2228 rfl (lv_at hl 1 rfl) ?_
    refine lv_aload_n (pc := 2229) hx hb dL_law_2229 rfl (lv_at hl 0 rfl) ?_
    refine lv_iload (pc := 2230) hx hb dL_law_2230 (lv_at hl 5 rfl) ?_
    refine lv_iconst (pc := 2232) (v := 1) hx hb dL_law_2232 (by decide) ?_
    refine lv_iadd (pc := 2233) hx hb dL_law_2233 ?_
    refine va_sld (pc := 2234) hx hb hscr hbl hbA h.2.2.1 hi1 dL_law_2234 ?_
    refine lv_aload_n (pc := 2235) hx hb dL_law_2235 rfl (lv_at hl 0 rfl) ?_
    refine lv_iload (pc := 2236) hx hb dL_law_2236 (lv_at hl 5 rfl) ?_
    refine lv_iconst (pc := 2238) (v := 2) hx hb dL_law_2238 (by decide) ?_
    refine lv_iadd (pc := 2239) hx hb dL_law_2239 ?_
    refine va_sld (pc := 2240) hx hb hscr hbl hbA h.2.2.1 hi2 dL_law_2240 ?_
    refine lv_aload_n (pc := 2241) hx hb dL_law_2241 rfl (lv_at hl 3 rfl) ?_
    refine call_W (pc := 2242) (rest := []) (As := [.ref (q0 0), .int (xs (i + 1).toNatClampNeg), .int (xs (i + 2).toNatClampNeg), .ref o]) (ws' := wL n q0 q qm cA σ0 σ τ o o2 (vp_updL f 0 w.toInt64) f2) C hl0 hX hN h (w_stateBehind hn σ0 σ (xs (i + 1).toNatClampNeg) (xs (i + 2).toNatClampNeg) hf o f) cx_L_238 (wL_L ..) (wL_L n q0 q qm cA σ0 σ τ o o2 (vp_updL f 0 w.toInt64) f2).symm (xL_fst ..) rfl rfl hl.1 (Nat.le_of_ble_eq_true rfl) dL_law_2242 ⟨(Nat.le_of_ble_eq_true rfl), (Nat.le_of_ble_eq_true rfl)⟩ rfl rfl ⟨by show cells + 1 ≤ 601024; omega, by show slots + 6 ≤ 7293034; omega⟩ (fun H locs h => ?_)
    refine W.eq (g2 := F0 m 2245 ls [.int 0]) rfl ?_
    refine lv_istore (pc := 2245) (lv' := [(6, .int 0), (0, .ref b), (1, .ref (q0 0)), (2, .ref (qm 0)), (3, .ref o), (4, .ref o2), (5, .int i)]) hx hb dL_law_2245 hl (by decide) rfl (fun ls hl => ?_)
    refine lv_aload_n (pc := 2247) hx hb dL_law_2247 rfl (lv_at hl 3 rfl) ?_
    refine lv_aload_n (pc := 2248) hx hb dL_law_2248 rfl (lv_at hl 1 rfl) ?_
    refine lv_iload (pc := 2249) hx hb dL_law_2249 (lv_at hl 6 rfl) ?_
    refine lv_iconst (pc := 2251) (v := 1) hx hb dL_law_2251 (by decide) ?_
    refine lv_iadd (pc := 2252) hx hb dL_law_2252 ?_
    refine va_sld (pc := 2253) hx hb hscr hbl hbA h.2.2.1 hi1 dL_law_2253 ?_
    refine lv_aload_n (pc := 2254) hx hb dL_law_2254 rfl (lv_at hl 1 rfl) ?_
    refine lv_iload (pc := 2255) hx hb dL_law_2255 (lv_at hl 6 rfl) ?_
    refine lv_iconst (pc := 2257) (v := 2) hx hb dL_law_2257 (by decide) ?_
    refine lv_iadd (pc := 2258) hx hb dL_law_2258 ?_
    refine va_sld (pc := 2259) hx hb hscr hbl hbA h.2.2.1 hi2 dL_law_2259 ?_
    refine call_VUp (pc := 2260) (rest := []) (As := [.int (xs (i + 1).toNatClampNeg), .int (xs (i + 2).toNatClampNeg)]) (wc' := mW qm cA τ') (ws' := wL n q0 q qm cA σ0 σ τ' o o2 (vp_updL f 0 w.toInt64) f2) C h (k_X5_stateBehind (q := qm) τ (xs (i + 1).toNatClampNeg) (xs (i + 2).toNatClampNeg) h5) cm_L_240 (mW_c0 ..) rfl (wL_M ..) (wL_M n q0 q qm cA σ0 σ τ' o o2 (vp_updL f 0 w.toInt64) f2).symm (mW_fst ..) rfl rfl hl.1 (Nat.le_of_ble_eq_true rfl) dL_law_2260 ⟨(Nat.le_of_ble_eq_true rfl), (Nat.le_of_ble_eq_true rfl)⟩ rfl rfl ⟨by show _ ≤ 601024; omega, by show _ ≤ 7293034; omega⟩ (fun H locs h => ?_)
    refine W.eq (g2 := F0 m 2263 ls [.int w]) rfl ?_
    refine lv_istore (pc := 2263) (lv' := [(7, .int w), (6, .int 0), (0, .ref b), (1, .ref (q0 0)), (2, .ref (qm 0)), (3, .ref o), (4, .ref o2), (5, .int i)]) hx hb dL_law_2263 hl (by decide) rfl (fun ls hl => ?_)
    refine lv_aload_n (pc := 2265) hx hb dL_law_2265 rfl (lv_at hl 4 rfl) ?_
    refine call_VRp (pc := 2266) (rest := []) (As := []) C h (k_X5_thrown (q := qm) τ' rfl) cm_L_131 (mW_c0 ..) rfl (wL_M ..) rfl rfl hl.1 (Nat.le_of_ble_eq_true rfl) dL_law_2266 ⟨(Nat.le_of_ble_eq_true rfl), (Nat.le_of_ble_eq_true rfl)⟩ rfl rfl ⟨by show _ ≤ 601024; omega, by show _ ≤ 7293034; omega⟩ (fun H locs h => ?_)
    refine W.eq (g2 := F0 m 2269 ls [.int (τ' 24 0)]) rfl ?_
    refine lv_iload (pc := 2269) hx hb dL_law_2269 (lv_at hl 1 rfl) ?_
    refine lv_icmp_eq (pc := 2271) (tgt := 2276) hx hb dL_law_2271 (by decide) (fun _ => ?_) (fun c9 => absurd hthr c9)
    refine lv_iload (pc := 2276) hx hb dL_law_2276 (lv_at hl 1 rfl) ?_
    refine lv_if_ne (pc := 2278) (tgt := 2293) hx hb dL_law_2278 (by decide) (fun c9 => absurd rfl c9) (fun _ => ?_)
    refine lv_aload_n (pc := 2281) hx hb dL_law_2281 rfl (lv_at hl 5 rfl) ?_
    refine lv_iconst (pc := 2282) (v := 0) hx hb dL_law_2282 (by decide) ?_
    refine va_lald (pc := 2283) hx hb hK.1 h.1 0 3 (wL_o ..) rfl (show inb (0 : Int32) 1 from by decide) dL_law_2283 ?_
    refine W.eq (g2 := F0 m 2284 ls [.long w.toInt64]) rfl ?_
    refine lv_iload (pc := 2284) hx hb dL_law_2284 (lv_at hl 0 rfl) ?_
    refine lv_i2l (pc := 2286) (v := w.toInt64) hx hb dL_law_2286 rfl ?_
    refine W.lcmp (pc := 2287) hx hb dL_law_2287 ?_
    rw [cmp_self]
    refine lv_if_eq (pc := 2288) (tgt := 2293) hx hb dL_law_2288 (by decide) (fun _ => ?_) (fun c9 => absurd rfl c9)
    refine lv_goto (pc := 2293) (tgt := 2364) hx hb dL_law_2293 (by decide) ?_
    exact W.widen (by omega) (by omega) (kk _ _ _ _ _ _ _ _ _ hI2 h ls (lv_sub hl [2, 3, 4, 5, 6, 7] rfl))
  · refine lv_aload_n (pc := 2228) hx hb dL_law_2228 rfl (lv_at hl 1 rfl) ?_
    refine lv_aload_n (pc := 2229) hx hb dL_law_2229 rfl (lv_at hl 0 rfl) ?_
    refine lv_iload (pc := 2230) hx hb dL_law_2230 (lv_at hl 5 rfl) ?_
    refine lv_iconst (pc := 2232) (v := 1) hx hb dL_law_2232 (by decide) ?_
    refine lv_iadd (pc := 2233) hx hb dL_law_2233 ?_
    refine va_sld (pc := 2234) hx hb hscr hbl hbA h.2.2.1 hi1 dL_law_2234 ?_
    refine lv_aload_n (pc := 2235) hx hb dL_law_2235 rfl (lv_at hl 0 rfl) ?_
    refine lv_iload (pc := 2236) hx hb dL_law_2236 (lv_at hl 5 rfl) ?_
    refine lv_iconst (pc := 2238) (v := 2) hx hb dL_law_2238 (by decide) ?_
    refine lv_iadd (pc := 2239) hx hb dL_law_2239 ?_
    refine va_sld (pc := 2240) hx hb hscr hbl hbA h.2.2.1 hi2 dL_law_2240 ?_
    refine lv_aload_n (pc := 2241) hx hb dL_law_2241 rfl (lv_at hl 3 rfl) ?_
    refine call_W (pc := 2242) (rest := []) (As := [.ref (q0 0), .int (xs (i + 1).toNatClampNeg), .int (xs (i + 2).toNatClampNeg), .ref o]) (ws' := wL n q0 q qm cA σ0 σ τ o o2 f f2) C hl0 hX hN h (wT_stateBehind_0 hn σ0 σ (xs (i + 1).toNatClampNeg) (xs (i + 2).toNatClampNeg) hf o f) cx_L_238 (wL_L ..) (wL_L n q0 q qm cA σ0 σ τ o o2 f f2).symm rfl rfl rfl hl.1 (Nat.le_of_ble_eq_true rfl) dL_law_2242 ⟨(Nat.le_of_ble_eq_true rfl), (Nat.le_of_ble_eq_true rfl)⟩ rfl rfl ⟨by show cells + 1 ≤ 601024; omega, by show slots + 6 ≤ 7293034; omega⟩ (fun H locs h => ?_)
    refine W.eq (g2 := F0 m 2245 ls [.int 1]) rfl ?_
    refine lv_istore (pc := 2245) (lv' := [(6, .int 1), (0, .ref b), (1, .ref (q0 0)), (2, .ref (qm 0)), (3, .ref o), (4, .ref o2), (5, .int i)]) hx hb dL_law_2245 hl (by decide) rfl (fun ls hl => ?_)
    refine lv_aload_n (pc := 2247) hx hb dL_law_2247 rfl (lv_at hl 3 rfl) ?_
    refine lv_aload_n (pc := 2248) hx hb dL_law_2248 rfl (lv_at hl 1 rfl) ?_
    refine lv_iload (pc := 2249) hx hb dL_law_2249 (lv_at hl 6 rfl) ?_
    refine lv_iconst (pc := 2251) (v := 1) hx hb dL_law_2251 (by decide) ?_
    refine lv_iadd (pc := 2252) hx hb dL_law_2252 ?_
    refine va_sld (pc := 2253) hx hb hscr hbl hbA h.2.2.1 hi1 dL_law_2253 ?_
    refine lv_aload_n (pc := 2254) hx hb dL_law_2254 rfl (lv_at hl 1 rfl) ?_
    refine lv_iload (pc := 2255) hx hb dL_law_2255 (lv_at hl 6 rfl) ?_
    refine lv_iconst (pc := 2257) (v := 2) hx hb dL_law_2257 (by decide) ?_
    refine lv_iadd (pc := 2258) hx hb dL_law_2258 ?_
    refine va_sld (pc := 2259) hx hb hscr hbl hbA h.2.2.1 hi2 dL_law_2259 ?_
    refine call_VUp (pc := 2260) (rest := []) (As := [.int (xs (i + 1).toNatClampNeg), .int (xs (i + 2).toNatClampNeg)]) (wc' := mW qm cA τ') (ws' := wL n q0 q qm cA σ0 σ τ' o o2 f f2) C h (k_X5_stateBehind (q := qm) τ (xs (i + 1).toNatClampNeg) (xs (i + 2).toNatClampNeg) h5) cm_L_240 (mW_c0 ..) rfl (wL_M ..) (wL_M n q0 q qm cA σ0 σ τ' o o2 f f2).symm (mW_fst ..) rfl rfl hl.1 (Nat.le_of_ble_eq_true rfl) dL_law_2260 ⟨(Nat.le_of_ble_eq_true rfl), (Nat.le_of_ble_eq_true rfl)⟩ rfl rfl ⟨by show _ ≤ 601024; omega, by show _ ≤ 7293034; omega⟩ (fun H locs h => ?_)
    refine W.eq (g2 := F0 m 2263 ls [.int w]) rfl ?_
    refine lv_istore (pc := 2263) (lv' := [(7, .int w), (6, .int 1), (0, .ref b), (1, .ref (q0 0)), (2, .ref (qm 0)), (3, .ref o), (4, .ref o2), (5, .int i)]) hx hb dL_law_2263 hl (by decide) rfl (fun ls hl => ?_)
    refine lv_aload_n (pc := 2265) hx hb dL_law_2265 rfl (lv_at hl 4 rfl) ?_
    refine call_VRp (pc := 2266) (rest := []) (As := []) C h (k_X5_thrown (q := qm) τ' rfl) cm_L_131 (mW_c0 ..) rfl (wL_M ..) rfl rfl hl.1 (Nat.le_of_ble_eq_true rfl) dL_law_2266 ⟨(Nat.le_of_ble_eq_true rfl), (Nat.le_of_ble_eq_true rfl)⟩ rfl rfl ⟨by show _ ≤ 601024; omega, by show _ ≤ 7293034; omega⟩ (fun H locs h => ?_)
    refine W.eq (g2 := F0 m 2269 ls [.int (τ' 24 0)]) rfl ?_
    refine lv_iload (pc := 2269) hx hb dL_law_2269 (lv_at hl 1 rfl) ?_
    refine lv_icmp_eq (pc := 2271) (tgt := 2276) hx hb dL_law_2271 (by decide) (fun _ => ?_) (fun c9 => absurd hthr c9)
    refine lv_iload (pc := 2276) hx hb dL_law_2276 (lv_at hl 1 rfl) ?_
    refine lv_if_ne (pc := 2278) (tgt := 2293) hx hb dL_law_2278 (by decide) (fun _ => ?_) (fun c9 => absurd c9 (by decide))
    refine lv_goto (pc := 2293) (tgt := 2364) hx hb dL_law_2293 (by decide) ?_
    exact W.widen (by omega) (by omega) (kk _ _ _ _ _ _ _ _ _ hI2 h ls (lv_sub hl [2, 3, 4, 5, 6, 7] rfl))
set_option maxHeartbeats 1000000 in
set_option maxRecDepth 100000 in
theorem law_openBehind {Inv : IT} (hn6 : ∀ t n σ0 σ τ, Inv t n σ0 σ τ → n ≤ 6) (S : SA_openBehind Inv) {t n : Nat} {q0 : Nat → Nat} {q : Nat → Nat → Nat} {qm : Nat → Nat} {σ0 τ : Nat → Nat → Int32} {σ : Nat → Nat → Nat → Int32} {o o2 : Nat} {f : Nat → Int64} {f2 : Nat → UInt64} {i : Int32} (ht : t < 512) (hI : Inv t n σ0 σ τ)
    (X : LX p l s m args meth c D cA b L xs) (h : St D (nA s) s.heap (wL n q0 q qm cA σ0 σ τ o o2 f f2) H locs) (hi : HI i L) (hl : lv_has ls 8 (L0 b (q0 0) (qm 0) o o2 i)) (hc : cells + 20 ≤ 601024) (hs : slots + 263 ≤ 7293034)
    (kk : LK p l e s m args below meth c D cA b q0 qm o o2 Inv t i cells slots Q) : W p l e room_1 s m args below meth c H locs cells slots Q (F0 m 2296 ls []) := by
  obtain ⟨C, hl0, hX, hN, hscr, hbl⟩ := X
  obtain ⟨hi0, hi1, hi2, hi3, hi4, hi5⟩ := hi
  obtain ⟨hx, hb, hml, hown, hts, hK, hlk⟩ := id C
  have hbA : ¬ nA s b := Nat.not_le.mpr hbl
  have hn := hn6 _ _ _ _ _ hI
  obtain ⟨w, τ', h5, ⟨hf, hI2, hthr⟩ | ⟨hf, hI2, hthr⟩⟩ := S _ _ _ _ _ _ _ ht hI
  · refine lv_aload_n (pc := 2296) hx hb dL_law_2296 rfl (lv_at hl 1 rfl) ?_
    refine lv_aload_n (pc := 2297) hx hb dL_law_2297 rfl (lv_at hl 0 rfl) ?_
    refine lv_iload (pc := 2298) hx hb dL_law_2298 (lv_at hl 5 rfl) ?_
    refine lv_iconst (pc := 2300) (v := 1) hx hb dL_law_2300 (by decide) ?_
    refine lv_iadd (pc := 2301) hx hb dL_law_2301 ?_
    refine va_sld (pc := 2302) hx hb hscr hbl hbA h.2.2.1 hi1 dL_law_2302 ?_
    refine lv_aload_n (pc := 2303) hx hb dL_law_2303 rfl (lv_at hl 0 rfl) ?_
    refine lv_iload (pc := 2304) hx hb dL_law_2304 (lv_at hl 5 rfl) ?_
    refine lv_iconst (pc := 2306) (v := 2) hx hb dL_law_2306 (by decide) ?_
    refine lv_iadd (pc := 2307) hx hb dL_law_2307 ?_
    refine va_sld (pc := 2308) hx hb hscr hbl hbA h.2.2.1 hi2 dL_law_2308 ?_
    refine lv_aload_n (pc := 2309) hx hb dL_law_2309 rfl (lv_at hl 3 rfl) ?_
    refine call_W (pc := 2310) (rest := []) (As := [.ref (q0 0), .int (xs (i + 1).toNatClampNeg), .int (xs (i + 2).toNatClampNeg), .ref o]) (ws' := wL n q0 q qm cA σ0 σ τ o o2 (vp_updL f 0 w.toInt64) f2) C hl0 hX hN h (w_openBehind hn σ0 σ (xs (i + 1).toNatClampNeg) (xs (i + 2).toNatClampNeg) hf o f) cx_L_241 (wL_L ..) (wL_L n q0 q qm cA σ0 σ τ o o2 (vp_updL f 0 w.toInt64) f2).symm (xL_fst ..) rfl rfl hl.1 (Nat.le_of_ble_eq_true rfl) dL_law_2310 ⟨(Nat.le_of_ble_eq_true rfl), (Nat.le_of_ble_eq_true rfl)⟩ rfl rfl ⟨by show cells + 1 ≤ 601024; omega, by show slots + 6 ≤ 7293034; omega⟩ (fun H locs h => ?_)
    refine W.eq (g2 := F0 m 2313 ls [.int 0]) rfl ?_
    refine lv_istore (pc := 2313) (lv' := [(6, .int 0), (0, .ref b), (1, .ref (q0 0)), (2, .ref (qm 0)), (3, .ref o), (4, .ref o2), (5, .int i)]) hx hb dL_law_2313 hl (by decide) rfl (fun ls hl => ?_)
    refine lv_aload_n (pc := 2315) hx hb dL_law_2315 rfl (lv_at hl 3 rfl) ?_
    refine lv_aload_n (pc := 2316) hx hb dL_law_2316 rfl (lv_at hl 1 rfl) ?_
    refine lv_iload (pc := 2317) hx hb dL_law_2317 (lv_at hl 6 rfl) ?_
    refine lv_iconst (pc := 2319) (v := 1) hx hb dL_law_2319 (by decide) ?_
    refine lv_iadd (pc := 2320) hx hb dL_law_2320 ?_
    refine va_sld (pc := 2321) hx hb hscr hbl hbA h.2.2.1 hi1 dL_law_2321 ?_
    refine lv_aload_n (pc := 2322) hx hb dL_law_2322 rfl (lv_at hl 1 rfl) ?_
    refine lv_iload (pc := 2323) hx hb dL_law_2323 (lv_at hl 6 rfl) ?_
    refine lv_iconst (pc := 2325) (v := 2) hx hb dL_law_2325 (by decide) ?_
    refine lv_iadd (pc := 2326) hx hb dL_law_2326 ?_
    refine va_sld (pc := 2327) hx hb hscr hbl hbA h.2.2.1 hi2 dL_law_2327 ?_
    refine call_VUp (pc := 2328) (rest := []) (As := [.int (xs (i + 1).toNatClampNeg), .int (xs (i + 2).toNatClampNeg)]) (wc' := mW qm cA τ') (ws' := wL n q0 q qm cA σ0 σ τ' o o2 (vp_updL f 0 w.toInt64) f2) C h (k_X5_openBehind (q := qm) τ (xs (i + 1).toNatClampNeg) (xs (i + 2).toNatClampNeg) h5) cm_L_243 (mW_c0 ..) rfl (wL_M ..) (wL_M n q0 q qm cA σ0 σ τ' o o2 (vp_updL f 0 w.toInt64) f2).symm (mW_fst ..) rfl rfl hl.1 (Nat.le_of_ble_eq_true rfl) dL_law_2328 ⟨(Nat.le_of_ble_eq_true rfl), (Nat.le_of_ble_eq_true rfl)⟩ rfl rfl ⟨by show _ ≤ 601024; omega, by show _ ≤ 7293034; omega⟩ (fun H locs h => ?_)
    refine W.eq (g2 := F0 m 2331 ls [.int w]) rfl ?_
    refine lv_istore (pc := 2331) (lv' := [(7, .int w), (6, .int 0), (0, .ref b), (1, .ref (q0 0)), (2, .ref (qm 0)), (3, .ref o), (4, .ref o2), (5, .int i)]) hx hb dL_law_2331 hl (by decide) rfl (fun ls hl => ?_)
    refine lv_aload_n (pc := 2333) hx hb dL_law_2333 rfl (lv_at hl 4 rfl) ?_
    refine call_VRp (pc := 2334) (rest := []) (As := []) C h (k_X5_thrown (q := qm) τ' rfl) cm_L_131 (mW_c0 ..) rfl (wL_M ..) rfl rfl hl.1 (Nat.le_of_ble_eq_true rfl) dL_law_2334 ⟨(Nat.le_of_ble_eq_true rfl), (Nat.le_of_ble_eq_true rfl)⟩ rfl rfl ⟨by show _ ≤ 601024; omega, by show _ ≤ 7293034; omega⟩ (fun H locs h => ?_)
    refine W.eq (g2 := F0 m 2337 ls [.int (τ' 24 0)]) rfl ?_
    refine lv_iload (pc := 2337) hx hb dL_law_2337 (lv_at hl 1 rfl) ?_
    refine lv_icmp_eq (pc := 2339) (tgt := 2344) hx hb dL_law_2339 (by decide) (fun _ => ?_) (fun c9 => absurd hthr c9)
    refine lv_iload (pc := 2344) hx hb dL_law_2344 (lv_at hl 1 rfl) ?_
    refine lv_if_ne (pc := 2346) (tgt := 2361) hx hb dL_law_2346 (by decide) (fun c9 => absurd rfl c9) (fun _ => ?_)
    refine lv_aload_n (pc := 2349) hx hb dL_law_2349 rfl (lv_at hl 5 rfl) ?_
    refine lv_iconst (pc := 2350) (v := 0) hx hb dL_law_2350 (by decide) ?_
    refine va_lald (pc := 2351) hx hb hK.1 h.1 0 3 (wL_o ..) rfl (show inb (0 : Int32) 1 from by decide) dL_law_2351 ?_
    refine W.eq (g2 := F0 m 2352 ls [.long w.toInt64]) rfl ?_
    refine lv_iload (pc := 2352) hx hb dL_law_2352 (lv_at hl 0 rfl) ?_
    refine lv_i2l (pc := 2354) (v := w.toInt64) hx hb dL_law_2354 rfl ?_
    refine W.lcmp (pc := 2355) hx hb dL_law_2355 ?_
    rw [cmp_self]
    refine lv_if_eq (pc := 2356) (tgt := 2361) hx hb dL_law_2356 (by decide) (fun _ => ?_) (fun c9 => absurd rfl c9)
    refine lv_goto (pc := 2361) (tgt := 2364) hx hb dL_law_2361 (by decide) ?_
    exact W.widen (by omega) (by omega) (kk _ _ _ _ _ _ _ _ _ hI2 h ls (lv_sub hl [2, 3, 4, 5, 6, 7] rfl))
  · refine lv_aload_n (pc := 2296) hx hb dL_law_2296 rfl (lv_at hl 1 rfl) ?_
    refine lv_aload_n (pc := 2297) hx hb dL_law_2297 rfl (lv_at hl 0 rfl) ?_
    refine lv_iload (pc := 2298) hx hb dL_law_2298 (lv_at hl 5 rfl) ?_
    refine lv_iconst (pc := 2300) (v := 1) hx hb dL_law_2300 (by decide) ?_
    refine lv_iadd (pc := 2301) hx hb dL_law_2301 ?_
    refine va_sld (pc := 2302) hx hb hscr hbl hbA h.2.2.1 hi1 dL_law_2302 ?_
    refine lv_aload_n (pc := 2303) hx hb dL_law_2303 rfl (lv_at hl 0 rfl) ?_
    refine lv_iload (pc := 2304) hx hb dL_law_2304 (lv_at hl 5 rfl) ?_
    refine lv_iconst (pc := 2306) (v := 2) hx hb dL_law_2306 (by decide) ?_
    refine lv_iadd (pc := 2307) hx hb dL_law_2307 ?_
    refine va_sld (pc := 2308) hx hb hscr hbl hbA h.2.2.1 hi2 dL_law_2308 ?_
    refine lv_aload_n (pc := 2309) hx hb dL_law_2309 rfl (lv_at hl 3 rfl) ?_
    refine call_W (pc := 2310) (rest := []) (As := [.ref (q0 0), .int (xs (i + 1).toNatClampNeg), .int (xs (i + 2).toNatClampNeg), .ref o]) (ws' := wL n q0 q qm cA σ0 σ τ o o2 f f2) C hl0 hX hN h (wT_openBehind_0 hn σ0 σ (xs (i + 1).toNatClampNeg) (xs (i + 2).toNatClampNeg) hf o f) cx_L_241 (wL_L ..) (wL_L n q0 q qm cA σ0 σ τ o o2 f f2).symm rfl rfl rfl hl.1 (Nat.le_of_ble_eq_true rfl) dL_law_2310 ⟨(Nat.le_of_ble_eq_true rfl), (Nat.le_of_ble_eq_true rfl)⟩ rfl rfl ⟨by show cells + 1 ≤ 601024; omega, by show slots + 6 ≤ 7293034; omega⟩ (fun H locs h => ?_)
    refine W.eq (g2 := F0 m 2313 ls [.int 1]) rfl ?_
    refine lv_istore (pc := 2313) (lv' := [(6, .int 1), (0, .ref b), (1, .ref (q0 0)), (2, .ref (qm 0)), (3, .ref o), (4, .ref o2), (5, .int i)]) hx hb dL_law_2313 hl (by decide) rfl (fun ls hl => ?_)
    refine lv_aload_n (pc := 2315) hx hb dL_law_2315 rfl (lv_at hl 3 rfl) ?_
    refine lv_aload_n (pc := 2316) hx hb dL_law_2316 rfl (lv_at hl 1 rfl) ?_
    refine lv_iload (pc := 2317) hx hb dL_law_2317 (lv_at hl 6 rfl) ?_
    refine lv_iconst (pc := 2319) (v := 1) hx hb dL_law_2319 (by decide) ?_
    refine lv_iadd (pc := 2320) hx hb dL_law_2320 ?_
    refine va_sld (pc := 2321) hx hb hscr hbl hbA h.2.2.1 hi1 dL_law_2321 ?_
    refine lv_aload_n (pc := 2322) hx hb dL_law_2322 rfl (lv_at hl 1 rfl) ?_
    refine lv_iload (pc := 2323) hx hb dL_law_2323 (lv_at hl 6 rfl) ?_
    refine lv_iconst (pc := 2325) (v := 2) hx hb dL_law_2325 (by decide) ?_
    refine lv_iadd (pc := 2326) hx hb dL_law_2326 ?_
    refine va_sld (pc := 2327) hx hb hscr hbl hbA h.2.2.1 hi2 dL_law_2327 ?_
    refine call_VUp (pc := 2328) (rest := []) (As := [.int (xs (i + 1).toNatClampNeg), .int (xs (i + 2).toNatClampNeg)]) (wc' := mW qm cA τ') (ws' := wL n q0 q qm cA σ0 σ τ' o o2 f f2) C h (k_X5_openBehind (q := qm) τ (xs (i + 1).toNatClampNeg) (xs (i + 2).toNatClampNeg) h5) cm_L_243 (mW_c0 ..) rfl (wL_M ..) (wL_M n q0 q qm cA σ0 σ τ' o o2 f f2).symm (mW_fst ..) rfl rfl hl.1 (Nat.le_of_ble_eq_true rfl) dL_law_2328 ⟨(Nat.le_of_ble_eq_true rfl), (Nat.le_of_ble_eq_true rfl)⟩ rfl rfl ⟨by show _ ≤ 601024; omega, by show _ ≤ 7293034; omega⟩ (fun H locs h => ?_)
    refine W.eq (g2 := F0 m 2331 ls [.int w]) rfl ?_
    refine lv_istore (pc := 2331) (lv' := [(7, .int w), (6, .int 1), (0, .ref b), (1, .ref (q0 0)), (2, .ref (qm 0)), (3, .ref o), (4, .ref o2), (5, .int i)]) hx hb dL_law_2331 hl (by decide) rfl (fun ls hl => ?_)
    refine lv_aload_n (pc := 2333) hx hb dL_law_2333 rfl (lv_at hl 4 rfl) ?_
    refine call_VRp (pc := 2334) (rest := []) (As := []) C h (k_X5_thrown (q := qm) τ' rfl) cm_L_131 (mW_c0 ..) rfl (wL_M ..) rfl rfl hl.1 (Nat.le_of_ble_eq_true rfl) dL_law_2334 ⟨(Nat.le_of_ble_eq_true rfl), (Nat.le_of_ble_eq_true rfl)⟩ rfl rfl ⟨by show _ ≤ 601024; omega, by show _ ≤ 7293034; omega⟩ (fun H locs h => ?_)
    refine W.eq (g2 := F0 m 2337 ls [.int (τ' 24 0)]) rfl ?_
    refine lv_iload (pc := 2337) hx hb dL_law_2337 (lv_at hl 1 rfl) ?_
    refine lv_icmp_eq (pc := 2339) (tgt := 2344) hx hb dL_law_2339 (by decide) (fun _ => ?_) (fun c9 => absurd hthr c9)
    refine lv_iload (pc := 2344) hx hb dL_law_2344 (lv_at hl 1 rfl) ?_
    refine lv_if_ne (pc := 2346) (tgt := 2361) hx hb dL_law_2346 (by decide) (fun _ => ?_) (fun c9 => absurd c9 (by decide))
    refine lv_goto (pc := 2361) (tgt := 2364) hx hb dL_law_2361 (by decide) ?_
    exact W.widen (by omega) (by omega) (kk _ _ _ _ _ _ _ _ _ hI2 h ls (lv_sub hl [2, 3, 4, 5, 6, 7] rfl))
end
