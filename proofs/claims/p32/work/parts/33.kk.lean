theorem arr_cls {args : Array Value} {s : State} {ty : FieldType} (hp : ∀ C, ty ≠ .object C) (h : (Cond.arrayClass ty).before args s = true) : ∃ cA : ClassId, ArrOfT s cA ty ∧ va_RA s cA ty := by
  obtain ⟨cA, kA, comp, h1, h2, h3⟩ := Cond.arrayClass_spec h
  refine ⟨cA, fun n z => ⟨(fun k h => by cases h), kA, h2, comp, h3⟩, ?_⟩
  cases ty with
  | object C => exact absurd rfl (hp C)
  | _ => exact h1
theorem kk_of {args : Array Value} {s : State} (hts : ∀ w ∈ lw_tbl, w.before args s = true) (hgv : (Jvm.Cond.and given_1 narrow_1).before args s = true) : ∃ G : GG, KK G s := by
  obtain ⟨c0, i0, k0⟩ := u_known (C := RX0) (T := TX0) (N := 3) (n := 3) hts (fun w h => tt_in w (inlX0 w h)) (hts (.instantiable RX0 3) (List.mem_of_getElem? (i := 768) (by decide +kernel)))
  obtain ⟨c1, i1, k1⟩ := u_known (C := RX1) (T := TX1) (N := 8) (n := 8) hts (fun w h => tt_in w (inlX1 w h)) (hts (.instantiable RX1 8) (List.mem_of_getElem? (i := 170) (by decide +kernel)))
  obtain ⟨c2, i2, k2⟩ := u_known (C := RX2) (T := TX2) (N := 4) (n := 4) hts (fun w h => tt_in w (inlX2 w h)) (hts (.instantiable RX2 4) (List.mem_of_getElem? (i := 141) (by decide +kernel)))
  obtain ⟨c3, i3, k3⟩ := u_known (C := RX3) (T := TX3) (N := 5) (n := 5) hts (fun w h => tt_in w (inlX3 w h)) (hts (.instantiable RX3 5) (List.mem_of_getElem? (i := 822) (by decide +kernel)))
  obtain ⟨c4, i4, k4⟩ := u_known (C := RX4) (T := TX4) (N := 12) (n := 12) hts (fun w h => tt_in w (inlX4 w h)) (hts (.instantiable RX4 12) (List.mem_of_getElem? (i := 265) (by decide +kernel)))
  obtain ⟨c5, i5, k5⟩ := u_known (C := RX5) (T := TX5) (N := 13) (n := 13) hts (fun w h => tt_in w (inlX5 w h)) (hts (.instantiable RX5 13) (List.mem_of_getElem? (i := 313) (by decide +kernel)))
  obtain ⟨c6, i6, k6⟩ := u_known (C := RX6) (T := TX6) (N := 3) (n := 3) hts (fun w h => tt_in w (inlX6 w h)) (hts (.instantiable RX6 3) (List.mem_of_getElem? (i := 362) (by decide +kernel)))
  obtain ⟨c7, i7, k7⟩ := u_known (C := RX7) (T := TX7) (N := 3) (n := 3) hts (fun w h => tt_in w (inlX7 w h)) (hts (.instantiable RX7 3) (List.mem_of_getElem? (i := 778) (by decide +kernel)))
  obtain ⟨c8, i8, k8⟩ := u_known (C := RX8) (T := TX8) (N := 2) (n := 2) hts (fun w h => tt_in w (inlX8 w h)) (hts (.instantiable RX8 2) (List.mem_of_getElem? (i := 176) (by decide +kernel)))
  obtain ⟨c9, i9, k9⟩ := u_known (C := RX9) (T := TX9) (N := 3) (n := 3) hts (fun w h => tt_in w (inlX9 w h)) (hts (.instantiable RX9 3) (List.mem_of_getElem? (i := 788) (by decide +kernel)))
  obtain ⟨c10, i10, k10⟩ := u_known (C := RX10) (T := TX10) (N := 6) (n := 6) hts (fun w h => tt_in w (inlX10 w h)) (hts (.instantiable RX10 6) (List.mem_of_getElem? (i := 239) (by decide +kernel)))
  obtain ⟨c11, i11, k11⟩ := u_known (C := RX11) (T := TX11) (N := 14) (n := 14) hts (fun w h => tt_in w (inlX11 w h)) (hts (.instantiable RX11 14) (List.mem_of_getElem? (i := 133) (by decide +kernel)))
  obtain ⟨c12, i12, k12⟩ := u_known (C := RX12) (T := TX12) (N := 32) (n := 32) hts (fun w h => tt_in w (inlX12 w h)) (hts (.instantiable RX12 32) (List.mem_of_getElem? (i := 1176) (by decide +kernel)))
  obtain ⟨aI, hI⟩ := arr_cls (ty := .int) (fun C h => by cases h) (hts _ (tt_in _ mw_2_13))
  obtain ⟨aJ, hJ⟩ := arr_cls (ty := .long) (fun C h => by cases h) (hts _ (tt_in _ mw_3_20))
  obtain ⟨aF, hF⟩ := arr_cls (ty := .float) (fun C h => by cases h) (hts _ (tt_in _ mw_2_11))
  obtain ⟨aC, hC⟩ := arr_cls (ty := .char) (fun C h => by cases h) (hts _ (tt_in _ mw_2_17))
  obtain ⟨aZ, hZ⟩ := arr_cls (ty := .boolean) (fun C h => by cases h) (hts _ (tt_in _ mw_7_1))
  have hAO := hts (.arrayOver (.array .int)) (List.mem_of_getElem? (i := 182) (by decide +kernel))
  have hAP := hts (.arrayOver (.object "PloughDepot$Plough")) (List.mem_of_getElem? (i := 361) (by decide +kernel))
  obtain ⟨cO, aO, kO, o1, o2, o3, o4, o5⟩ := Jvm.Stand.arrayOver_specB hAO
  obtain ⟨cP, aP, kP, p1, p2, p3, p4, p5⟩ := Cond.arrayOver_spec hAP
  refine ⟨((fun k => match k with | 0 => c0 | 1 => c1 | 2 => c2 | 3 => c3 | 4 => c4 | 5 => c5 | 6 => c6 | 7 => c7 | 8 => c8 | 9 => c9 | 10 => c10 | 11 => c11 | _ => c12, fun k => match k with | 0 => i0 | 1 => i1 | 2 => i2 | 3 => i3 | 4 => i4 | 5 => i5 | 6 => i6 | 7 => i7 | 8 => i8 | 9 => i9 | 10 => i10 | 11 => i11 | _ => i12), fun k => match k with | 0 => aI | 1 => aJ | 2 => aF | 3 => aC | 4 => aZ | 5 => aO | _ => aP), ⟨?_, ?_⟩, va_AOA.of hAO, va_AO.of hAP, va_Nw.of rfl (hts _ (List.mem_of_getElem? (i := 142) (by decide +kernel))), va_Nw.of rfl (hts _ (List.mem_of_getElem? (i := 587) (by decide +kernel))), va_Nw.of rfl (hts _ (List.mem_of_getElem? (i := 937) (by decide +kernel))), va_Nw.of rfl (hts _ (List.mem_of_getElem? (i := 991) (by decide +kernel))), va_Nw.of rfl (hts _ (List.mem_of_getElem? (i := 1748) (by decide +kernel))), va_Nw.of rfl (hts _ (List.mem_of_getElem? (i := 1749) (by decide +kernel))), va_Nw.of rfl (hts _ (List.mem_of_getElem? (i := 1750) (by decide +kernel))), va_Nw.of rfl (hts _ (List.mem_of_getElem? (i := 1751) (by decide +kernel))), va_Nc.of (flat_of_before _ hgv (Cond.not (.castable "PloughDepot$Plough" "PloughDepot$Salter")) (by decide +kernel)), va_Nc.of (flat_of_before _ hgv (Cond.not (.castable "PloughDepot$Blower" "PloughDepot$Salter")) (by decide +kernel)), va_Nc.of (flat_of_before _ hgv (Cond.not (.castable "PloughDepot$Tractor" "PloughDepot$Salter")) (by decide +kernel)), va_Nc.of (flat_of_before _ hgv (Cond.not (.castable "PloughDepot$Pair" "PloughDepot$Salter")) (by decide +kernel)), va_Nc.of (flat_of_before _ hgv (Cond.not (.castable "PloughDepot$Plough" "PloughDepot$Pair")) (by decide +kernel)), va_Nc.of (flat_of_before _ hgv (Cond.not (.castable "PloughDepot$Blower" "PloughDepot$Pair")) (by decide +kernel)), va_Nc.of (flat_of_before _ hgv (Cond.not (.castable "PloughDepot$Salter" "PloughDepot$Pair")) (by decide +kernel)), va_Nc.of (flat_of_before _ hgv (Cond.not (.castable "PloughDepot$Tractor" "PloughDepot$Pair")) (by decide +kernel))⟩
  · intro k q hq
    match k, hq with
    | 0, hq => cases hq; exact k0
    | 1, hq => cases hq; exact k1
    | 2, hq => cases hq; exact k2
    | 3, hq => cases hq; exact k3
    | 4, hq => cases hq; exact k4
    | 5, hq => cases hq; exact k5
    | 6, hq => cases hq; exact k6
    | 7, hq => cases hq; exact k7
    | 8, hq => cases hq; exact k8
    | 9, hq => cases hq; exact k9
    | 10, hq => cases hq; exact k10
    | 11, hq => cases hq; exact k11
    | 12, hq => cases hq; exact k12
    | k + 13, hq => simp [vwCl] at hq
  · intro k q hq
    match k, hq with
    | 0, hq => cases hq; exact hI
    | 1, hq => cases hq; exact hJ
    | 2, hq => cases hq; exact hF
    | 3, hq => cases hq; exact hC
    | 4, hq => cases hq; exact hZ
    | 5, hq => cases hq; exact ⟨fun n z => ⟨(fun k h => by cases h), kO, o3, cO, o4⟩, o5⟩
    | 6, hq => cases hq; exact ⟨fun n z => ⟨(fun k h => by cases h), kP, p3, cP, p4⟩, kP, cP, p3, p4, p1, p5⟩
    | k + 7, hq => simp [tyG] at hq
