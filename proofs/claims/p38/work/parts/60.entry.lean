/-! What holds at the law's entry, out of the words -/
section
variable {s : State} {args : Array Value}
theorem tm9 {w : Cond} (i : Nat) (h : tables_1[i]? = some w) : w ∈ lw_tbl := List.mem_append_right _ (List.mem_of_getElem? h)
theorem ent_T {ty : FieldType} (hty : ∀ C, ty ≠ .object C) (h : (Cond.arrayClass ty).before args s = true) : ∃ c, ArrOfT s c ty ∧ va_RA s c ty := by
  obtain ⟨c, k, comp, h1, h2, h3⟩ := Cond.arrayClass_spec h
  exact ⟨c, fun n z => ⟨fun k h => (by cases h), k, h2, comp, h3⟩, by cases ty <;> first | exact h1 | exact absurd rfl (hty _)⟩
theorem ent_O {C : String} (h : va_AO C s) : ∃ c, ArrOfT s c (.object C) ∧ va_RA s c (.object C) := by
  obtain ⟨comp, c, k, h1, h2, h3, h4, h5⟩ := Cond.arrayOver_spec h
  exact ⟨c, fun n z => ⟨fun k h => (by cases h), k, h3, comp, h4⟩, k, comp, h3, h4, h1, h5⟩
theorem ent_AO (hts : ∀ w ∈ lw_tbl, w.before args s = true) : AOG s :=
  ⟨va_AO.of (hts (.arrayOver (.object RX0)) (tm9 23 (by decide +kernel))), va_AO.of (hts (.arrayOver (.object RX3)) (tm9 25 (by decide +kernel)))⟩
theorem ent_Nw (hts : ∀ w ∈ lw_tbl, w.before args s = true) : NwG s :=
  ⟨va_Nw.of rfl (hts _ (tm9 38 (by decide +kernel))), va_Nw.of rfl (hts _ (tm9 543 (by decide +kernel))), va_Nw.of rfl (hts _ (tm9 551 (by decide +kernel))), va_Nw.of rfl (hts _ (tm9 211 (by decide +kernel)))⟩
theorem ent_K (hts : ∀ w ∈ lw_tbl, w.before args s = true) : ∃ (D : va_G) (cA : Nat → ClassId), KG D cA s := by
  have hw : ∀ w ∈ WS, w.before args s = true := fun w h => hts w (List.mem_filter.mp h).1
  obtain ⟨c0, i0, k0⟩ := u_known hw inW0 (hw _ iw_X0.1)
  obtain ⟨c1, i1, k1⟩ := u_known hw inW1 (hw _ iw_X1.1)
  obtain ⟨c2, i2, k2⟩ := u_known hw inW2 (hw _ iw_X2.1)
  obtain ⟨c3, i3, k3⟩ := u_known hw inW3 (hw _ iw_X3.1)
  obtain ⟨c4, i4, k4⟩ := u_known hw inW4 (hw _ iw_X4.1)
  obtain ⟨a0, r0⟩ := ent_T (fun C h => by cases h) (hw _ aw_int)
  obtain ⟨a1, r1⟩ := ent_O (ent_AO hts).1
  obtain ⟨a2, r2⟩ := ent_O (ent_AO hts).2
  refine ⟨(fun k => match k with | 0 => c0 | 1 => c1 | 2 => c2 | 3 => c3 | _ => c4, fun k => match k with | 0 => i0 | 1 => i1 | 2 => i2 | 3 => i3 | _ => i4), (fun k => match k with | 0 => a0 | 1 => a1 | _ => a2), ⟨fun k q hq => ?_, fun k q hq => ?_⟩, ent_Nw hts⟩
  · match k, hq with
    | 0, hq => cases hq; exact k0
    | 1, hq => cases hq; exact k1
    | 2, hq => cases hq; exact k2
    | 3, hq => cases hq; exact k3
    | 4, hq => cases hq; exact k4
    | k + 5, hq => cases hq
  · match k, hq with
    | 0, hq => cases hq; exact r0
    | 1, hq => cases hq; exact r1
    | 2, hq => cases hq; exact r2
    | k + 3, hq => cases hq
theorem dcl_tbl : ∀ y ∈ dcl, Cond.declares y ∈ lw_tbl := by decide +kernel
theorem cst_tbl : ∀ x ∈ cst, Cond.castable x x ∈ lw_tbl := by decide +kernel
theorem str_tbl : ∀ x ∈ strs, Cond.stringRef RX4 x.1 x.2 ∈ lw_tbl := by decide +kernel
def flatN : List Cond := flatC (Jvm.Cond.and given_1 narrow_1)
theorem str_flat : ∀ x ∈ strs, Cond.exactly (.string RX4 x.1) "java/lang/String" ∈ flatN := by decide +kernel
theorem ncs_flat : ∀ x ∈ ncs, Cond.not (.castable x.1 x.2) ∈ flatN := by decide +kernel
theorem st_flat : Cond.isRef (.static Bundle.tN "UNASSIGNED_STACK" Bundle.steD) ∈ flatN ∧ Cond.isRef (.static Bundle.tN "SUPPRESSED_SENTINEL" Bundle.listD) ∈ flatN := by decide +kernel
theorem ent_T9 (hts : ∀ w ∈ lw_tbl, w.before args s = true) : TG s :=
  ⟨fun y hy => va_Nw.of rfl (hts _ (dcl_tbl y hy)), fun x hx => va_Nw.of rfl (hts _ (cst_tbl x hx))⟩
theorem ent_S (hts : ∀ w ∈ lw_tbl, w.before args s = true) (hf : ∀ w ∈ flatN, w.before args s = true) : StrG s := by
  intro x hx
  obtain ⟨a, c, cA, kA, q1, -⟩ := Cond.exactly_spec (hf _ (str_flat x hx))
  exact ⟨a, hts _ (str_tbl x hx), q1⟩
theorem ent_Z (hts : ∀ w ∈ lw_tbl, w.before args s = true) (hf : ∀ w ∈ flatN, w.before args s = true) : ZG (fun q => s.heap.size ≤ q) s s.heap :=
  ⟨vx_Zqof (hts _ (tm9 130 (by decide +kernel))) (hts (.initialized Bundle.tN) (by decide +kernel)) (hf _ st_flat.1) (fun a h => Nat.not_le.mpr h), vx_Zqof (hts _ (tm9 132 (by decide +kernel))) (hts (.initialized Bundle.tN) (by decide +kernel)) (hf _ st_flat.2) (fun a h => Nat.not_le.mpr h)⟩
theorem ent_N (hf : ∀ w ∈ flatN, w.before args s = true) : NcG s := fun x hx => va_Nc.of (hf _ (ncs_flat x hx))
end
