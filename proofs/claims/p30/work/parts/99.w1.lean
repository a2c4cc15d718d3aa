/-! THE LAW'S START: what the tables give -/
theorem z_inT {ws : List Cond} (ps : List Nat) (hp : ws = ps.filterMap (fun i => lw_tbl[i]?)) : ∀ w ∈ ws, w ∈ lw_tbl := by
  intro w hw
  rw [hp] at hw
  obtain ⟨i, -, hi⟩ := List.mem_filterMap.mp hw
  exact List.mem_of_getElem? hi
theorem wi_0 : Cond.instantiable RX0 10 ∈ lw_tbl := List.mem_of_getElem? (i := 92) (by decide +kernel)
theorem wi_1 : Cond.instantiable RX1 2 ∈ lw_tbl := List.mem_of_getElem? (i := 247) (by decide +kernel)
theorem wi_2 : Cond.instantiable RX2 11 ∈ lw_tbl := List.mem_of_getElem? (i := 36) (by decide +kernel)
theorem wi_3 : Cond.instantiable RX3 2 ∈ lw_tbl := List.mem_of_getElem? (i := 44) (by decide +kernel)
theorem wi_4 : Cond.instantiable RX4 3 ∈ lw_tbl := List.mem_of_getElem? (i := 74) (by decide +kernel)
theorem wi_5 : Cond.instantiable RX4 3 ∈ lw_tbl := List.mem_of_getElem? (i := 74) (by decide +kernel)
theorem wi_6 : Cond.instantiable RX6 9 ∈ lw_tbl := List.mem_of_getElem? (i := 143) (by decide +kernel)
theorem wi_7 : Cond.instantiable RX7 2 ∈ lw_tbl := List.mem_of_getElem? (i := 50) (by decide +kernel)
theorem wi_8 : Cond.instantiable RX9 5 ∈ lw_tbl := List.mem_of_getElem? (i := 28) (by decide +kernel)
theorem wa_int : Cond.arrayClass .int ∈ lw_tbl := List.mem_of_getElem? (i := 65) (by decide +kernel)
theorem wa_byte : Cond.arrayClass .byte ∈ lw_tbl := List.mem_of_getElem? (i := 279) (by decide +kernel)
theorem wo_RX6 : Cond.arrayOver (.object RX6) ∈ lw_tbl := List.mem_of_getElem? (i := 42) (by decide +kernel)
theorem wo_RX2 : Cond.arrayOver (.object RX2) ∈ lw_tbl := List.mem_of_getElem? (i := 253) (by decide +kernel)
theorem wn_nest : ∀ w ∈ zNest.map (fun w => Cond.methodLinkNest w.1 w.2.1 w.2.2.1 w.2.2.2), w ∈ lw_tbl := z_inT [45, 75, 93, 144, 500, 612] (by decide +kernel)
section START
variable {s : State} {args : Array Value}
/-- an array of numbers: its class -/
theorem st_arr {ty : FieldType} (hn : ∀ C, ty ≠ .object C) (h : (Cond.arrayClass ty).before args s = true) : ∃ cA : ClassId, ArrOfT s cA ty ∧ va_RA s cA ty := by
  obtain ⟨cA, kA, comp, h1, h2, h3⟩ := Cond.arrayClass_spec h
  refine ⟨cA, fun n z => ⟨fun k h => (by cases h), kA, h2, comp, h3⟩, ?_⟩
  cases ty with
  | object C => exact absurd rfl (hn C)
  | _ => exact h1
/-- an array of objects: its class -/
theorem st_arrO {C : String} (h : (Cond.arrayOver (.object C)).before args s = true) : ∃ cA : ClassId, ArrOfT s cA (.object C) ∧ va_RA s cA (.object C) := by
  obtain ⟨comp, cA, kA, h1, -, h3, h4, h5⟩ := Cond.arrayOver_spec h
  exact ⟨cA, fun n z => ⟨fun k h => (by cases h), kA, h3, comp, h4⟩, kA, comp, h3, h4, h1, h5⟩
theorem st_K (hts : ∀ w ∈ lw_tbl, w.before args s = true) : ∃ (D : va_G) (cA : Nat → ClassId), z_KT D cA s := by
  have hz : ∀ w ∈ zWS, w.before args s = true := fun w hw => hts w (List.mem_filter.mp hw).1
  obtain ⟨c0, i0, k0⟩ := u_known (C := RX0) (T := TX0) (N := 10) (n := 10) hz inX0 (hts _ wi_0)
  obtain ⟨c1, i1, k1⟩ := u_known (C := RX1) (T := TX1) (N := 2) (n := 2) hz inX1 (hts _ wi_1)
  obtain ⟨c2, i2, k2⟩ := u_known (C := RX2) (T := TX2) (N := 11) (n := 11) hz inX2 (hts _ wi_2)
  obtain ⟨c3, i3, k3⟩ := u_known (C := RX3) (T := TX3) (N := 2) (n := 2) hz inX3 (hts _ wi_3)
  obtain ⟨c4, i4, k4⟩ := u_known (C := RX4) (T := TX4) (N := 3) (n := 3) hz inX4 (hts _ wi_4)
  obtain ⟨c5, i5, k5⟩ := u_known (C := RX4) (T := TX4) (N := 3) (n := 3) hz inX4 (hts _ wi_5)
  obtain ⟨c6, i6, k6⟩ := u_known (C := RX6) (T := TX6) (N := 9) (n := 9) hz inX6 (hts _ wi_6)
  obtain ⟨c7, i7, k7⟩ := u_known (C := RX7) (T := TX7) (N := 2) (n := 2) hz inX7 (hts _ wi_7)
  obtain ⟨c8, i8, k8⟩ := u_known (C := RX9) (T := TX9) (N := 5) (n := 5) hz inX9 (hts _ wi_8)
  obtain ⟨a0, a0o, a0r⟩ := st_arr (ty := .int) (fun C h => by cases h) (hts _ wa_int)
  obtain ⟨a1, a1o, a1r⟩ := st_arr (ty := .byte) (fun C h => by cases h) (hts _ wa_byte)
  obtain ⟨a2, a2o, a2r⟩ := st_arr (ty := .byte) (fun C h => by cases h) (hts _ wa_byte)
  obtain ⟨a3, a3o, a3r⟩ := st_arrO (hts _ wo_RX6)
  obtain ⟨a4, a4o, a4r⟩ := st_arrO (hts _ wo_RX2)
  refine ⟨(fun k => match k with | 0 => c0 | 1 => c1 | 2 => c2 | 3 => c3 | 4 => c4 | 5 => c5 | 6 => c6 | 7 => c7 | 8 => c8 | _ => c0, fun k => match k with | 0 => i0 | 1 => i1 | 2 => i2 | 3 => i3 | 4 => i4 | 5 => i5 | 6 => i6 | 7 => i7 | 8 => i8 | _ => i0), fun k => match k with | 0 => a0 | 1 => a1 | 2 => a2 | 3 => a3 | 4 => a4 | _ => a0, ⟨fun c q hq => ?_, fun k q hq => ?_⟩, fun w hw => ?_, va_AO.of (hts _ wo_RX6), va_AO.of (hts _ wo_RX2)⟩
  · match c, hq with
    | 0, hq => cases hq; exact k0
    | 1, hq => cases hq; exact k1
    | 2, hq => cases hq; exact k2
    | 3, hq => cases hq; exact k3
    | 4, hq => cases hq; exact k4
    | 5, hq => cases hq; exact k5
    | 6, hq => cases hq; exact k6
    | 7, hq => cases hq; exact k7
    | 8, hq => cases hq; exact k8
    | c + 9, hq => simp [vwCl] at hq
  · match k, hq with
    | 0, hq => cases hq; exact ⟨a0o, a0r⟩
    | 1, hq => cases hq; exact ⟨a1o, a1r⟩
    | 2, hq => cases hq; exact ⟨a2o, a2r⟩
    | 3, hq => cases hq; exact ⟨a3o, a3r⟩
    | 4, hq => cases hq; exact ⟨a4o, a4r⟩
    | k + 5, hq => simp [z_tys] at hq
  · have hm := wn_nest _ (List.mem_map.mpr ⟨w, hw, rfl⟩)
    exact va_Nw.of rfl (hts _ hm)
end START
