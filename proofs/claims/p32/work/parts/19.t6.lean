theorem zb_X6_takes_37 {N : Nat} {sh : Sh} {r : Int32 × Dt} {E : EV} (hE : TG E (some (.int r.1)) (sh, r.2))  {t0 : Int32} {d : Dt} (hf : f_X6_takes_37 N sh t0 d = some r) : Z E yX6_takes cX6_takes 2 (some .int) 1 (sh, d) 37 [] [.int t0] := by
  unfold f_X6_takes_37 at hf
  cases hf
  exact z_ireturn hE rfl dX6_takes_37
theorem zm_X6_takes {N : Nat} {sh : Sh} {d : Dt} {l0 : Nat} {l1 : Int32} {r : Int32 × Dt} (hf : f_X6_takes N sh l0 l1 d = some r) : isO sh l0 6 ∧ ∀ (l : Launch) (G : GG), Mt l G yX6_takes cX6_takes 2 (some .int) 1 [.ref l0, .int l1] (sh, d) (some (.int r.1)) (sh, r.2) := by
  have hf0 := hf
  unfold f_X6_takes at hf
  split at hf
  · rename_i hO
    refine ⟨hO, fun l G => mt_of (Or.inl (by decide)) (Nat.le_of_ble_eq_true rfl) Le.rf (fun E hE => ?_)⟩
    show Z E yX6_takes cX6_takes 2 (some .int) 1 (sh, d) 0 [(0, .ref l0), (1, .int l1)] []
    refine z_aload_n 0 dX6_takes_0 rfl rfl ?_
    refine z_g6_0 hf mw_6_12 dX6_takes_1  (fun v1 hf => ?_)
    refine z_dup dX6_takes_4 rfl ?_
    refine z_gI (ci := 2) (k := 2) (C := RX2) (T := TX2) (N := 4) rfl inlX2 (by decide) mw_34_10 (fun _ _ _ _ h9 => h9) hf (by decide) rfl dX6_takes_5  (fun v2 hf => ?_)
    refine z_iconst 1 1 dX6_takes_8 (by decide) ?_
    refine z_iadd dX6_takes_9 ?_
    refine z_pI (ci := 2) (k := 2) (C := RX2) (T := TX2) (N := 4) rfl inlX2 (by decide) mw_34_10 (fun _ _ _ _ h9 => h9) tyX2 tyX2_ok nmX2 rfl hf (Or.inl (by decide)) rfl rfl rfl dX6_takes_10  (fun d3 hf => ?_)
    refine z_aload_n 0 dX6_takes_13 rfl rfl ?_
    refine z_g6_1 hf mw_6_13 dX6_takes_14  (fun v4 hf => ?_)
    refine z_if_le 36 hf dX6_takes_17 (by decide) (fun hf => ?_) (fun hf => ?_)
    · refine z_iconst 0 0 dX6_takes_36 (by decide) ?_
      refine z_lv [] [] rfl ?_
      exact zb_X6_takes_37 hE hf
    · refine z_iload_n 1 dX6_takes_20 rfl rfl ?_
      refine z_aload_n 0 dX6_takes_21 rfl rfl ?_
      refine z_g6_1 hf mw_6_13 dX6_takes_22  (fun v5 hf => ?_)
      refine z_iadd dX6_takes_25 ?_
      refine z_iconst 1 1 dX6_takes_26 (by decide) ?_
      refine z_isub dX6_takes_27 ?_
      refine z_aload_n 0 dX6_takes_28 rfl rfl ?_
      refine z_g6_1 hf mw_6_13 dX6_takes_29  (fun v6 hf => ?_)
      refine z_idiv hf dX6_takes_32  (fun v7 hf => ?_)
      refine z_goto 37 dX6_takes_33 (by decide) ?_
      refine z_lv [] [] rfl ?_
      exact zb_X6_takes_37 hE hf
  · cases hf
section SA
variable {E : EV} {y : MethodName} {cc : ByteArray} {nL : Nat} {ret : Option FieldType} {lev : Nat} {pc : Nat} {lv : List (Nat × Value)} {rest : List Value} {sh : Sh} {d : Dt} {b N index : Nat} {x x2 : Int32}
theorem z_stakes {r : Int32 × Dt} (ev : f_X6_takes N sh b x d = some r) (hall : ∀ w ∈ va_wsSU y.cls index yX6_takes [], w ∈ TT) (hlev : 2 ≤ lev) (hcat : (rest.map fun v => v.category).sum ≤ 8) (hdg : decode cc pc = .ok (.invokespecial index, 3)) (kk : Z E y cc nL ret lev (sh, r.2) (pc + 3) lv (.int r.1 :: rest)) : Z E y cc nL ret lev (sh, d) pc lv (.int x :: .ref b :: rest) := by
  have hM := zm_X6_takes ev
  rcases hM.1 with ⟨q1, q2, q3 | ⟨-, q3 | q3 | q3 | q3⟩⟩
  · exact z_cSi (ci := 6) (C := RX6) (T := TX6) (N := 3) (As := [.int x]) (rest := rest) hM.2 q1 q2 q3 rfl (Or.inl rfl) hall mw_34_9 ⟨by decide, yk_X6_takes.2.2⟩ (by omega) (by show 8 + (2 + 11) + 100 * 1 ≤ 100 * lev; omega) rfl hcat rfl hdg kk
  · exact z_cSi (ci := 0) (C := RX0) (T := TX0) (N := 3) (As := [.int x]) (rest := rest) hM.2 q1 q2 q3 rfl (Or.inl rfl) hall mw_34_9 ⟨by decide, yk_X6_takes.2.2⟩ (by omega) (by show 8 + (2 + 11) + 100 * 1 ≤ 100 * lev; omega) rfl hcat rfl hdg kk
  · exact z_cSi (ci := 3) (C := RX3) (T := TX3) (N := 5) (As := [.int x]) (rest := rest) hM.2 q1 q2 q3 rfl (Or.inl rfl) hall mw_34_9 ⟨by decide, yk_X6_takes.2.2⟩ (by omega) (by show 8 + (2 + 11) + 100 * 1 ≤ 100 * lev; omega) rfl hcat rfl hdg kk
  · exact z_cSi (ci := 7) (C := RX7) (T := TX7) (N := 3) (As := [.int x]) (rest := rest) hM.2 q1 q2 q3 rfl (Or.inl rfl) hall mw_34_9 ⟨by decide, yk_X6_takes.2.2⟩ (by omega) (by show 8 + (2 + 11) + 100 * 1 ≤ 100 * lev; omega) rfl hcat rfl hdg kk
  · exact z_cSi (ci := 9) (C := RX9) (T := TX9) (N := 3) (As := [.int x]) (rest := rest) hM.2 q1 q2 q3 rfl (Or.inl rfl) hall mw_34_9 ⟨by decide, yk_X6_takes.2.2⟩ (by omega) (by show 8 + (2 + 11) + 100 * 1 ≤ 100 * lev; omega) rfl hcat rfl hdg kk
end SA
theorem zm_X7_takes {N : Nat} {sh : Sh} {d : Dt} {l0 : Nat} {l1 : Int32} {r : Int32 × Dt} (hf : f_X7_takes N sh l0 l1 d = some r) : isO sh l0 7 ∧ ∀ (l : Launch) (G : GG), Mt l G yX7_takes cX7_takes 2 (some .int) 2 [.ref l0, .int l1] (sh, d) (some (.int r.1)) (sh, r.2) := by
  have hf0 := hf
  unfold f_X7_takes at hf
  split at hf
  · rename_i hO
    refine ⟨hO, fun l G => mt_of (Or.inl (by decide)) (Nat.le_of_ble_eq_true rfl) Le.rf (fun E hE => ?_)⟩
    show Z E yX7_takes cX7_takes 2 (some .int) 2 (sh, d) 0 [(0, .ref l0), (1, .int l1)] []
    refine z_aload_n 0 dX7_takes_0 rfl rfl ?_
    refine z_gP (ci := 7) (k := 0) (C := RX7) (T := TX7) (N := 3) rfl inlX7 (by decide) mw_35_1 (fun _ _ ht x h9 => u_same (ht _ mw_35_2) x h9) hf (by decide) rfl dX7_takes_1  (fun v1 hf => ?_)
    refine z_dup dX7_takes_4 rfl ?_
    refine z_gI (ci := 2) (k := 2) (C := RX2) (T := TX2) (N := 4) rfl inlX2 (by decide) mw_35_3 (fun _ _ _ _ h9 => h9) hf (by decide) rfl dX7_takes_5  (fun v2 hf => ?_)
    refine z_bipush 20 20 dX7_takes_8 (by decide) ?_
    refine z_iadd dX7_takes_10 ?_
    refine z_pI (ci := 2) (k := 2) (C := RX2) (T := TX2) (N := 4) rfl inlX2 (by decide) mw_35_3 (fun _ _ _ _ h9 => h9) tyX2 tyX2_ok nmX2 rfl hf (Or.inl (by decide)) rfl rfl rfl dX7_takes_11  (fun d3 hf => ?_)
    refine z_aload_n 0 dX7_takes_14 rfl rfl ?_
    refine z_iload_n 1 dX7_takes_15 rfl rfl ?_
    obtain ⟨v4, ev4, hf⟩ := ob hf
    refine z_stakes (rest := []) ev4 (fun w hw => by simp only [va_wsSU, List.append_nil, List.mem_cons, List.not_mem_nil, or_false] at hw; rcases hw with rfl | rfl | rfl | rfl | rfl <;> first | exact mw_35_4 | exact mw_34_6 | exact mw_35_5 | exact mw_34_8 | exact mw_2_22) (by decide) (Nat.le_of_ble_eq_true rfl) dX7_takes_16 ?_
    refine z_iconst 2 2 dX7_takes_19 (by decide) ?_
    refine z_iadd dX7_takes_20 ?_
    cases hf
    exact z_ireturn hE rfl dX7_takes_21
  · cases hf
theorem zm_X9_takes {N : Nat} {sh : Sh} {d : Dt} {l0 : Nat} {l1 : Int32} {r : Int32 × Dt} (hf : f_X9_takes N sh l0 l1 d = some r) : isO sh l0 9 ∧ ∀ (l : Launch) (G : GG), Mt l G yX9_takes cX9_takes 2 (some .int) 2 [.ref l0, .int l1] (sh, d) (some (.int r.1)) (sh, r.2) := by
  have hf0 := hf
  unfold f_X9_takes at hf
  split at hf
  · rename_i hO
    refine ⟨hO, fun l G => mt_of (Or.inl (by decide)) (Nat.le_of_ble_eq_true rfl) Le.rf (fun E hE => ?_)⟩
    show Z E yX9_takes cX9_takes 2 (some .int) 2 (sh, d) 0 [(0, .ref l0), (1, .int l1)] []
    refine z_aload_n 0 dX9_takes_0 rfl rfl ?_
    refine z_gP (ci := 9) (k := 0) (C := RX9) (T := TX9) (N := 3) rfl inlX9 (by decide) mw_35_9 (fun _ _ ht x h9 => u_same (ht _ mw_35_10) x h9) hf (by decide) rfl dX9_takes_1  (fun v1 hf => ?_)
    refine z_dup dX9_takes_4 rfl ?_
    refine z_gI (ci := 2) (k := 2) (C := RX2) (T := TX2) (N := 4) rfl inlX2 (by decide) mw_35_11 (fun _ _ _ _ h9 => h9) hf (by decide) rfl dX9_takes_5  (fun v2 hf => ?_)
    refine z_bipush 10 10 dX9_takes_8 (by decide) ?_
    refine z_iadd dX9_takes_10 ?_
    refine z_pI (ci := 2) (k := 2) (C := RX2) (T := TX2) (N := 4) rfl inlX2 (by decide) mw_35_11 (fun _ _ _ _ h9 => h9) tyX2 tyX2_ok nmX2 rfl hf (Or.inl (by decide)) rfl rfl rfl dX9_takes_11  (fun d3 hf => ?_)
    refine z_aload_n 0 dX9_takes_14 rfl rfl ?_
    refine z_iload_n 1 dX9_takes_15 rfl rfl ?_
    obtain ⟨v4, ev4, hf⟩ := ob hf
    refine z_stakes (rest := []) ev4 (fun w hw => by simp only [va_wsSU, List.append_nil, List.mem_cons, List.not_mem_nil, or_false] at hw; rcases hw with rfl | rfl | rfl | rfl | rfl <;> first | exact mw_35_12 | exact mw_34_6 | exact mw_35_13 | exact mw_34_8 | exact mw_2_22) (by decide) (Nat.le_of_ble_eq_true rfl) dX9_takes_16 ?_
    refine z_iconst 1 1 dX9_takes_19 (by decide) ?_
    refine z_iadd dX9_takes_20 ?_
    cases hf
    exact z_ireturn hE rfl dX9_takes_21
  · cases hf
theorem zb_X6_passesUpTo_25 {N : Nat} {sh : Sh} {d : Dt} {r : Int32} {E : EV} (hE : TG E (some (.int r)) (sh, d))  {t0 : Int32} (hf : f_X6_passesUpTo_25 N sh t0 d = some r) : Z E yX6_passesUpTo cX6_passesUpTo 3 (some .int) 1 (sh, d) 25 [] [.int t0] := by
  unfold f_X6_passesUpTo_25 at hf
  cases hf
  exact z_ireturn hE rfl dX6_passesUpTo_25
theorem zm_X6_passesUpTo {N : Nat} {sh : Sh} {d : Dt} {l0 : Nat} {l1 : Int32} {l2 : Int32} {r : Int32} (hf : f_X6_passesUpTo N sh l0 l1 l2 d = some r) : isO sh l0 6 ∧ ∀ (l : Launch) (G : GG), Mt l G yX6_passesUpTo cX6_passesUpTo 3 (some .int) 1 [.ref l0, .int l1, .int l2] (sh, d) (some (.int r)) (sh, d) := by
  have hf0 := hf
  unfold f_X6_passesUpTo at hf
  split at hf
  · rename_i hO
    refine ⟨hO, fun l G => mt_of (Or.inl (by decide)) (Nat.le_of_ble_eq_true rfl) Le.rf (fun E hE => ?_)⟩
    show Z E yX6_passesUpTo cX6_passesUpTo 3 (some .int) 1 (sh, d) 0 [(0, .ref l0), (1, .int l1), (2, .int l2)] []
    refine z_iload_n 1 dX6_passesUpTo_0 rfl rfl ?_
    refine z_aload_n 0 dX6_passesUpTo_1 rfl rfl ?_
    refine z_g6_2 hf mw_6_14 dX6_passesUpTo_2  (fun v1 hf => ?_)
    refine z_icmp_gt 10 hf dX6_passesUpTo_5 (by decide) (fun hf => ?_) (fun hf => ?_)
    · refine z_iload_n 1 dX6_passesUpTo_10 rfl rfl ?_
      refine z_iload_n 2 dX6_passesUpTo_11 rfl rfl ?_
      refine z_aload_n 0 dX6_passesUpTo_12 rfl rfl ?_
      refine z_g6_2 hf mw_6_14 dX6_passesUpTo_13  (fun v2 hf => ?_)
      refine z_imul dX6_passesUpTo_16 ?_
      refine z_icmp_gt 24 hf dX6_passesUpTo_17 (by decide) (fun hf => ?_) (fun hf => ?_)
      · refine z_iconst 0 0 dX6_passesUpTo_24 (by decide) ?_
        refine z_lv [] [] rfl ?_
        exact zb_X6_passesUpTo_25 hE hf
      · refine z_iload_n 2 dX6_passesUpTo_20 rfl rfl ?_
        refine z_goto 25 dX6_passesUpTo_21 (by decide) ?_
        refine z_lv [] [] rfl ?_
        exact zb_X6_passesUpTo_25 hE hf
    · refine z_iconst 1 1 dX6_passesUpTo_8 (by decide) ?_
      cases hf
      exact z_ireturn hE rfl dX6_passesUpTo_9
  · cases hf
section SB
variable {E : EV} {y : MethodName} {cc : ByteArray} {nL : Nat} {ret : Option FieldType} {lev : Nat} {pc : Nat} {lv : List (Nat × Value)} {rest : List Value} {sh : Sh} {d : Dt} {b N index : Nat} {x x2 : Int32}
theorem z_pup_RX6 {r : Int32} (ev : f_X6_passesUpTo N sh b x x2 d = some r) (hlev : 2 ≤ lev) (hcat : (rest.map fun v => v.category).sum ≤ 8) (hdg : decode cc pc = .ok (.invokevirtual 27, 3)) (kk : Z E yX6_passes cc nL ret lev (sh, d) (pc + 3) lv (.int r :: rest)) : Z E yX6_passes cc nL ret lev (sh, d) pc lv (.int x2 :: .int x :: .ref b :: rest) := by
  have hM := zm_X6_passesUpTo ev
  rcases hM.1 with ⟨q1, q2, q3 | ⟨-, q3 | q3 | q3 | q3⟩⟩
  · exact z_cUi (ci := 6) (C := RX6) (owner := "PloughDepot$Plough") (T := TX6) (N := 3) (x := ⟨"PloughDepot$Plough", "passesUpTo", "(II)I"⟩) (As := [.int x, .int x2]) (rest := rest) hM.2 q1 q2 q3 rfl (Or.inl rfl) mw_36_15 mw_36_16 mw_36_20 mw_36_3 mw_2_22 mw_36_4 rfl yk_X6_passesUpTo (by omega) (by show 8 + (3 + 11) + 100 * 1 ≤ 100 * lev; omega) rfl hcat rfl hdg kk
  · exact z_cUi (ci := 0) (C := RX0) (owner := "PloughDepot$Plough") (T := TX0) (N := 3) (x := ⟨"PloughDepot$Plough", "passesUpTo", "(II)I"⟩) (As := [.int x, .int x2]) (rest := rest) hM.2 q1 q2 q3 rfl (Or.inl rfl) mw_36_15 mw_36_16 mw_36_17 mw_36_3 mw_2_22 mw_36_4 rfl yk_X6_passesUpTo (by omega) (by show 8 + (3 + 11) + 100 * 1 ≤ 100 * lev; omega) rfl hcat rfl hdg kk
  · exact z_cUi (ci := 3) (C := RX3) (owner := "PloughDepot$Plough") (T := TX3) (N := 5) (x := ⟨"PloughDepot$Plough", "passesUpTo", "(II)I"⟩) (As := [.int x, .int x2]) (rest := rest) hM.2 q1 q2 q3 rfl (Or.inl rfl) mw_36_15 mw_36_16 mw_36_18 mw_36_3 mw_2_22 mw_36_4 rfl yk_X6_passesUpTo (by omega) (by show 8 + (3 + 11) + 100 * 1 ≤ 100 * lev; omega) rfl hcat rfl hdg kk
  · exact z_cUi (ci := 7) (C := RX7) (owner := "PloughDepot$Plough") (T := TX7) (N := 3) (x := ⟨"PloughDepot$Plough", "passesUpTo", "(II)I"⟩) (As := [.int x, .int x2]) (rest := rest) hM.2 q1 q2 q3 rfl (Or.inl rfl) mw_36_15 mw_36_16 mw_36_21 mw_36_3 mw_2_22 mw_36_4 rfl yk_X6_passesUpTo (by omega) (by show 8 + (3 + 11) + 100 * 1 ≤ 100 * lev; omega) rfl hcat rfl hdg kk
  · exact z_cUi (ci := 9) (C := RX9) (owner := "PloughDepot$Plough") (T := TX9) (N := 3) (x := ⟨"PloughDepot$Plough", "passesUpTo", "(II)I"⟩) (As := [.int x, .int x2]) (rest := rest) hM.2 q1 q2 q3 rfl (Or.inl rfl) mw_36_15 mw_36_16 mw_36_22 mw_36_3 mw_2_22 mw_36_4 rfl yk_X6_passesUpTo (by omega) (by show 8 + (3 + 11) + 100 * 1 ≤ 100 * lev; omega) rfl hcat rfl hdg kk
theorem z_pup_RX0 {r : Int32} (ev : f_X6_passesUpTo N sh b x x2 d = some r) (hO : isO sh b 0) (hlev : 2 ≤ lev) (hcat : (rest.map fun v => v.category).sum ≤ 8) (hdg : decode cc pc = .ok (.invokevirtual 19, 3)) (kk : Z E yX0_passes cc nL ret lev (sh, d) (pc + 3) lv (.int r :: rest)) : Z E yX0_passes cc nL ret lev (sh, d) pc lv (.int x2 :: .int x :: .ref b :: rest) := by
  have hM := zm_X6_passesUpTo ev
  have q1 := hO.1
  have q2 := hO.2.1
  have q3 : sh.2.1 b = 10 + 0 := hO.2.2.elim id (fun w => absurd w.1 (by decide))
  exact z_cUi (ci := 0) (C := RX0) (owner := "PloughDepot$Plough") (T := TX0) (N := 3) (x := ⟨"PloughDepot$Blower", "passesUpTo", "(II)I"⟩) (As := [.int x, .int x2]) (rest := rest) hM.2 q1 q2 q3 rfl (Or.inl rfl) mw_36_0 mw_36_1 mw_36_2 mw_36_3 mw_2_22 mw_36_4 rfl yk_X6_passesUpTo (by omega) (by show 8 + (3 + 11) + 100 * 1 ≤ 100 * lev; omega) rfl hcat rfl hdg kk
theorem z_pup_RX3 {r : Int32} (ev : f_X6_passesUpTo N sh b x x2 d = some r) (hO : isO sh b 3) (hlev : 2 ≤ lev) (hcat : (rest.map fun v => v.category).sum ≤ 8) (hdg : decode cc pc = .ok (.invokevirtual 45, 3)) (kk : Z E yX3_passes cc nL ret lev (sh, d) (pc + 3) lv (.int r :: rest)) : Z E yX3_passes cc nL ret lev (sh, d) pc lv (.int x2 :: .int x :: .ref b :: rest) := by
  have hM := zm_X6_passesUpTo ev
  have q1 := hO.1
  have q2 := hO.2.1
  have q3 : sh.2.1 b = 10 + 3 := hO.2.2.elim id (fun w => absurd w.1 (by decide))
  exact z_cUi (ci := 3) (C := RX3) (owner := "PloughDepot$Plough") (T := TX3) (N := 5) (x := ⟨"PloughDepot$Pair", "passesUpTo", "(II)I"⟩) (As := [.int x, .int x2]) (rest := rest) hM.2 q1 q2 q3 rfl (Or.inl rfl) mw_36_9 mw_36_10 mw_36_11 mw_36_3 mw_2_22 mw_36_4 rfl yk_X6_passesUpTo (by omega) (by show 8 + (3 + 11) + 100 * 1 ≤ 100 * lev; omega) rfl hcat rfl hdg kk
end SB
theorem zm_X6_passes {N : Nat} {sh : Sh} {d : Dt} {l0 : Nat} {l1 : Int32} {r : Int32 × Dt} (hf : f_X6_passes N sh l0 l1 d = some r) : isO sh l0 6 ∧ ∀ (l : Launch) (G : GG), Mt l G yX6_passes cX6_passes 2 (some .int) 2 [.ref l0, .int l1] (sh, d) (some (.int r.1)) (sh, r.2) := by
  have hf0 := hf
  unfold f_X6_passes at hf
  split at hf
  · rename_i hO
    refine ⟨hO, fun l G => mt_of (Or.inl (by decide)) (Nat.le_of_ble_eq_true rfl) Le.rf (fun E hE => ?_)⟩
    show Z E yX6_passes cX6_passes 2 (some .int) 2 (sh, d) 0 [(0, .ref l0), (1, .int l1)] []
    refine z_aload_n 0 dX6_passes_0 rfl rfl ?_
    refine z_g6_0 hf mw_6_12 dX6_passes_1  (fun v1 hf => ?_)
    refine z_dup dX6_passes_4 rfl ?_
    refine z_gI (ci := 2) (k := 2) (C := RX2) (T := TX2) (N := 4) rfl inlX2 (by decide) mw_34_10 (fun _ _ _ _ h9 => h9) hf (by decide) rfl dX6_passes_5  (fun v2 hf => ?_)
    refine z_bipush 100 100 dX6_passes_8 (by decide) ?_
    refine z_iadd dX6_passes_10 ?_
    refine z_pI (ci := 2) (k := 2) (C := RX2) (T := TX2) (N := 4) rfl inlX2 (by decide) mw_34_10 (fun _ _ _ _ h9 => h9) tyX2 tyX2_ok nmX2 rfl hf (Or.inl (by decide)) rfl rfl rfl dX6_passes_11  (fun d3 hf => ?_)
    refine z_aload_n 0 dX6_passes_14 rfl rfl ?_
    refine z_iload_n 1 dX6_passes_15 rfl rfl ?_
    refine z_iconst 2 2 dX6_passes_16 (by decide) ?_
    obtain ⟨v4, ev4, hf⟩ := ob hf
    refine z_pup_RX6 (rest := []) ev4 (by decide) (Nat.le_of_ble_eq_true rfl) dX6_passes_17 ?_
    cases hf
    exact z_ireturn hE rfl dX6_passes_20
  · cases hf
theorem zm_X0_passes {N : Nat} {sh : Sh} {d : Dt} {l0 : Nat} {l1 : Int32} {r : Int32 × Dt} (hf : f_X0_passes N sh l0 l1 d = some r) : isO sh l0 0 ∧ ∀ (l : Launch) (G : GG), Mt l G yX0_passes cX0_passes 2 (some .int) 2 [.ref l0, .int l1] (sh, d) (some (.int r.1)) (sh, r.2) := by
  have hf0 := hf
  unfold f_X0_passes at hf
  split at hf
  · rename_i hO
    refine ⟨hO, fun l G => mt_of (Or.inl (by decide)) (Nat.le_of_ble_eq_true rfl) Le.rf (fun E hE => ?_)⟩
    show Z E yX0_passes cX0_passes 2 (some .int) 2 (sh, d) 0 [(0, .ref l0), (1, .int l1)] []
    refine z_aload_n 0 dX0_passes_0 rfl rfl ?_
    refine z_gP (ci := 0) (k := 0) (C := RX0) (T := TX0) (N := 3) rfl inlX0 (by decide) mw_35_21 (fun _ _ ht x h9 => u_same (ht _ mw_35_22) x h9) hf (by decide) rfl dX0_passes_1  (fun v1 hf => ?_)
    refine z_dup dX0_passes_4 rfl ?_
    refine z_gI (ci := 2) (k := 2) (C := RX2) (T := TX2) (N := 4) rfl inlX2 (by decide) mw_35_23 (fun _ _ _ _ h9 => h9) hf (by decide) rfl dX0_passes_5  (fun v2 hf => ?_)
    refine z_sipush 1000 1000 dX0_passes_8 (by decide) ?_
    refine z_iadd dX0_passes_11 ?_
    refine z_pI (ci := 2) (k := 2) (C := RX2) (T := TX2) (N := 4) rfl inlX2 (by decide) mw_35_23 (fun _ _ _ _ h9 => h9) tyX2 tyX2_ok nmX2 rfl hf (Or.inl (by decide)) rfl rfl rfl dX0_passes_12  (fun d3 hf => ?_)
    refine z_aload_n 0 dX0_passes_15 rfl rfl ?_
    refine z_iload_n 1 dX0_passes_16 rfl rfl ?_
    refine z_iconst 3 3 dX0_passes_17 (by decide) ?_
    obtain ⟨v4, ev4, hf⟩ := ob hf
    refine z_pup_RX0 (rest := []) ev4 hO (by decide) (Nat.le_of_ble_eq_true rfl) dX0_passes_18 ?_
    cases hf
    exact z_ireturn hE rfl dX0_passes_21
  · cases hf
theorem zm_X3_passes {N : Nat} {sh : Sh} {d : Dt} {l0 : Nat} {l1 : Int32} {r : Int32 × Dt} (hf : f_X3_passes N sh l0 l1 d = some r) : isO sh l0 3 ∧ ∀ (l : Launch) (G : GG), Mt l G yX3_passes cX3_passes 2 (some .int) 2 [.ref l0, .int l1] (sh, d) (some (.int r.1)) (sh, r.2) := by
  have hf0 := hf
  unfold f_X3_passes at hf
  split at hf
  · rename_i hO
    refine ⟨hO, fun l G => mt_of (Or.inl (by decide)) (Nat.le_of_ble_eq_true rfl) Le.rf (fun E hE => ?_)⟩
    show Z E yX3_passes cX3_passes 2 (some .int) 2 (sh, d) 0 [(0, .ref l0), (1, .int l1)] []
    refine z_aload_n 0 dX3_passes_0 rfl rfl ?_
    refine z_gP (ci := 3) (k := 0) (C := RX3) (T := TX3) (N := 5) rfl inlX3 (by decide) mw_34_15 (fun _ _ ht x h9 => u_same (ht _ mw_34_16) x h9) hf (by decide) rfl dX3_passes_1  (fun v1 hf => ?_)
    refine z_dup dX3_passes_4 rfl ?_
    refine z_gI (ci := 2) (k := 2) (C := RX2) (T := TX2) (N := 4) rfl inlX2 (by decide) mw_34_17 (fun _ _ _ _ h9 => h9) hf (by decide) rfl dX3_passes_5  (fun v2 hf => ?_)
    refine z_sipush 10000 10000 dX3_passes_8 (by decide) ?_
    refine z_iadd dX3_passes_11 ?_
    refine z_pI (ci := 2) (k := 2) (C := RX2) (T := TX2) (N := 4) rfl inlX2 (by decide) mw_34_17 (fun _ _ _ _ h9 => h9) tyX2 tyX2_ok nmX2 rfl hf (Or.inl (by decide)) rfl rfl rfl dX3_passes_12  (fun d3 hf => ?_)
    refine z_aload_n 0 dX3_passes_15 rfl rfl ?_
    refine z_iload_n 1 dX3_passes_16 rfl rfl ?_
    refine z_iconst 2 2 dX3_passes_17 (by decide) ?_
    obtain ⟨v4, ev4, hf⟩ := ob hf
    refine z_pup_RX3 (rest := []) ev4 hO (by decide) (Nat.le_of_ble_eq_true rfl) dX3_passes_18 ?_
    cases hf
    exact z_ireturn hE rfl dX3_passes_21
  · cases hf
section SC
variable {E : EV} {y : MethodName} {cc : ByteArray} {nL : Nat} {ret : Option FieldType} {lev : Nat} {pc : Nat} {lv : List (Nat × Value)} {rest : List Value} {sh : Sh} {d : Dt} {b N index : Nat} {x x2 : Int32}
theorem z_vtakes0 {r : Int32 × Dt} (ev : v_takes0 N sh b x d = some r) (w1 : Cond.methodLink y.cls index ⟨"PloughDepot$Plough", "takes", "(I)I"⟩ ∈ TT) (hlev : 3 ≤ lev) (hcat : (rest.map fun v => v.category).sum ≤ 8) (hdg : decode cc pc = .ok (.invokevirtual index, 3)) (kk : Z E y cc nL ret lev (sh, r.2) (pc + 3) lv (.int r.1 :: rest)) : Z E y cc nL ret lev (sh, d) pc lv (.int x :: .ref b :: rest) := by
  unfold v_takes0 at ev
  split at ev
  · rename_i ht
    have hM := zm_X6_takes ev
    have q1 := hM.1.1
    have q2 := hM.1.2.1
    rcases ht with q3 | q3
    · exact z_cUi (ci := 6) (C := RX6) (owner := "PloughDepot$Plough") (T := TX6) (N := 3) (x := ⟨"PloughDepot$Plough", "takes", "(I)I"⟩) (As := [.int x]) (rest := rest) hM.2 q1 q2 q3 rfl (Or.inl rfl) w1 mw_34_6 mw_34_21 mw_34_8 mw_2_22 mw_34_9 rfl yk_X6_takes (by omega) (by show 8 + (2 + 11) + 100 * 1 ≤ 100 * lev; omega) rfl hcat rfl hdg kk
    · exact z_cUi (ci := 0) (C := RX0) (owner := "PloughDepot$Plough") (T := TX0) (N := 3) (x := ⟨"PloughDepot$Plough", "takes", "(I)I"⟩) (As := [.int x]) (rest := rest) hM.2 q1 q2 q3 rfl (Or.inl rfl) w1 mw_34_6 mw_34_7 mw_34_8 mw_2_22 mw_34_9 rfl yk_X6_takes (by omega) (by show 8 + (2 + 11) + 100 * 1 ≤ 100 * lev; omega) rfl hcat rfl hdg kk
  · split at ev
    · rename_i q3
      have hM := zm_X7_takes ev
      have q1 := hM.1.1
      have q2 := hM.1.2.1
      exact z_cOi (ci := 7) (C := RX7) (owner := "PloughDepot$Plough") (T := TX7) (N := 3) (x := ⟨"PloughDepot$Plough", "takes", "(I)I"⟩) (As := [.int x]) (rest := rest) hM.2 q1 q2 q3 rfl (Or.inl rfl) w1 mw_34_6 mw_34_8 mw_34_22 mw_34_23 mw_30_2 mw_35_0 mw_34_9 yk_X6_takes (by omega) (by show 8 + (2 + 11) + 100 * 2 ≤ 100 * lev; omega) rfl hcat rfl hdg kk
    · split at ev
      · rename_i q3
        have hM := zm_X9_takes ev
        have q1 := hM.1.1
        have q2 := hM.1.2.1
        exact z_cOi (ci := 9) (C := RX9) (owner := "PloughDepot$Plough") (T := TX9) (N := 3) (x := ⟨"PloughDepot$Plough", "takes", "(I)I"⟩) (As := [.int x]) (rest := rest) hM.2 q1 q2 q3 rfl (Or.inl rfl) w1 mw_34_6 mw_34_8 mw_35_6 mw_35_7 mw_30_5 mw_35_8 mw_34_9 yk_X6_takes (by omega) (by show 8 + (2 + 11) + 100 * 2 ≤ 100 * lev; omega) rfl hcat rfl hdg kk
      · cases ev
theorem z_vpasses {r : Int32 × Dt} (ev : v_passes N sh b x d = some r) (w1 : Cond.methodLink y.cls index ⟨"PloughDepot$Plough", "passes", "(I)I"⟩ ∈ TT) (hlev : 3 ≤ lev) (hcat : (rest.map fun v => v.category).sum ≤ 8) (hdg : decode cc pc = .ok (.invokevirtual index, 3)) (kk : Z E y cc nL ret lev (sh, r.2) (pc + 3) lv (.int r.1 :: rest)) : Z E y cc nL ret lev (sh, d) pc lv (.int x :: .ref b :: rest) := by
  unfold v_passes at ev
  split at ev
  · rename_i q3
    have hM := zm_X0_passes ev
    have q1 := hM.1.1
    have q2 := hM.1.2.1
    exact z_cOi (ci := 0) (C := RX0) (owner := "PloughDepot$Plough") (T := TX0) (N := 3) (x := ⟨"PloughDepot$Plough", "passes", "(I)I"⟩) (As := [.int x]) (rest := rest) hM.2 q1 q2 q3 rfl (Or.inl rfl) w1 mw_35_16 mw_36_13 mw_35_18 mw_35_19 mw_29_23 mw_35_20 mw_36_5 yk_X6_passes (by omega) (by show 8 + (2 + 11) + 100 * 2 ≤ 100 * lev; omega) rfl hcat rfl hdg kk
  · split at ev
    · rename_i q3
      have hM := zm_X3_passes ev
      have q1 := hM.1.1
      have q2 := hM.1.2.1
      exact z_cOi (ci := 3) (C := RX3) (owner := "PloughDepot$Plough") (T := TX3) (N := 5) (x := ⟨"PloughDepot$Plough", "passes", "(I)I"⟩) (As := [.int x]) (rest := rest) hM.2 q1 q2 q3 rfl (Or.inl rfl) w1 mw_35_16 mw_36_13 mw_36_6 mw_36_7 mw_31_16 mw_36_8 mw_36_5 yk_X6_passes (by omega) (by show 8 + (2 + 11) + 100 * 2 ≤ 100 * lev; omega) rfl hcat rfl hdg kk
    · rename_i n1 n2
      have hM := zm_X6_passes ev
      rcases hM.1 with ⟨q1, q2, q3 | ⟨-, q3 | q3 | q3 | q3⟩⟩
      · exact z_cUi (ci := 6) (C := RX6) (owner := "PloughDepot$Plough") (T := TX6) (N := 3) (x := ⟨"PloughDepot$Plough", "passes", "(I)I"⟩) (As := [.int x]) (rest := rest) hM.2 q1 q2 q3 rfl (Or.inl rfl) w1 mw_35_16 mw_36_14 mw_36_13 mw_2_22 mw_36_5 rfl yk_X6_passes (by omega) (by show 8 + (2 + 11) + 100 * 2 ≤ 100 * lev; omega) rfl hcat rfl hdg kk
      · exact absurd q3 n1
      · exact absurd q3 n2
      · exact z_cUi (ci := 7) (C := RX7) (owner := "PloughDepot$Plough") (T := TX7) (N := 3) (x := ⟨"PloughDepot$Plough", "passes", "(I)I"⟩) (As := [.int x]) (rest := rest) hM.2 q1 q2 q3 rfl (Or.inl rfl) w1 mw_35_16 mw_36_23 mw_36_13 mw_2_22 mw_36_5 rfl yk_X6_passes (by omega) (by show 8 + (2 + 11) + 100 * 2 ≤ 100 * lev; omega) rfl hcat rfl hdg kk
      · exact z_cUi (ci := 9) (C := RX9) (owner := "PloughDepot$Plough") (T := TX9) (N := 3) (x := ⟨"PloughDepot$Plough", "passes", "(I)I"⟩) (As := [.int x]) (rest := rest) hM.2 q1 q2 q3 rfl (Or.inl rfl) w1 mw_35_16 mw_37_0 mw_36_13 mw_2_22 mw_36_5 rfl yk_X6_passes (by omega) (by show 8 + (2 + 11) + 100 * 2 ≤ 100 * lev; omega) rfl hcat rfl hdg kk
end SC
theorem zm_X3_takes {N : Nat} {sh : Sh} {d : Dt} {l0 : Nat} {l1 : Int32} {r : Int32 × Dt} (hf : f_X3_takes N sh l0 l1 d = some r) : isO sh l0 3 ∧ ∀ (l : Launch) (G : GG), Mt l G yX3_takes cX3_takes 3 (some .int) 3 [.ref l0, .int l1] (sh, d) (some (.int r.1)) (sh, r.2) := by
  have hf0 := hf
  unfold f_X3_takes at hf
  split at hf
  · rename_i hO
    refine ⟨hO, fun l G => mt_of (Or.inl (by decide)) (Nat.le_of_ble_eq_true rfl) Le.rf (fun E hE => ?_)⟩
    show Z E yX3_takes cX3_takes 3 (some .int) 3 (sh, d) 0 [(0, .ref l0), (1, .int l1)] []
    refine z_aload_n 0 dX3_takes_0 rfl rfl ?_
    refine z_gP (ci := 3) (k := 0) (C := RX3) (T := TX3) (N := 5) rfl inlX3 (by decide) mw_34_15 (fun _ _ ht x h9 => u_same (ht _ mw_34_16) x h9) hf (by decide) rfl dX3_takes_1  (fun v1 hf => ?_)
    refine z_dup dX3_takes_4 rfl ?_
    refine z_gI (ci := 2) (k := 2) (C := RX2) (T := TX2) (N := 4) rfl inlX2 (by decide) mw_34_17 (fun _ _ _ _ h9 => h9) hf (by decide) rfl dX3_takes_5  (fun v2 hf => ?_)
    refine z_iconst 5 5 dX3_takes_8 (by decide) ?_
    refine z_iadd dX3_takes_9 ?_
    refine z_pI (ci := 2) (k := 2) (C := RX2) (T := TX2) (N := 4) rfl inlX2 (by decide) mw_34_17 (fun _ _ _ _ h9 => h9) tyX2 tyX2_ok nmX2 rfl hf (Or.inl (by decide)) rfl rfl rfl dX3_takes_10  (fun d3 hf => ?_)
    refine z_aload_n 0 dX3_takes_13 rfl rfl ?_
    refine z_gP (ci := 3) (k := 3) (C := RX3) (T := TX3) (N := 5) rfl inlX3 (by decide) mw_32_16 (fun _ _ _ _ h9 => h9) hf (by decide) rfl dX3_takes_14  (fun v4 hf => ?_)
    refine z_iload_n 1 dX3_takes_17 rfl rfl ?_
    obtain ⟨v5, ev5, hf⟩ := ob hf
    refine z_vtakes0 (rest := []) ev5 mw_34_19 (by decide) (Nat.le_of_ble_eq_true rfl) dX3_takes_18 ?_
    refine z_istore_n [(2, .int v5.1), (0, .ref l0), (1, .int l1)] dX3_takes_21 rfl (by decide) rfl ?_
    refine z_iload_n 0 dX3_takes_22 rfl rfl ?_
    refine z_aload_n 1 dX3_takes_23 rfl rfl ?_
    refine z_gP (ci := 3) (k := 4) (C := RX3) (T := TX3) (N := 5) rfl inlX3 (by decide) mw_32_17 (fun _ _ _ _ h9 => h9) hf (by decide) rfl dX3_takes_24  (fun v6 hf => ?_)
    refine z_iload_n 2 dX3_takes_27 rfl rfl ?_
    obtain ⟨v7, ev7, hf⟩ := ob hf
    refine z_vtakes0 (rest := [.int v5.1]) ev7 mw_34_19 (by decide) (Nat.le_of_ble_eq_true rfl) dX3_takes_28 ?_
    refine z_max mw_34_18 mw_8_21 mw_8_22 mw_8_23 (by decide) (Nat.le_of_ble_eq_true rfl) dX3_takes_31 ?_
    cases hf
    exact z_ireturn hE rfl dX3_takes_34
  · cases hf
section SD
variable {E : EV} {y : MethodName} {cc : ByteArray} {nL : Nat} {ret : Option FieldType} {lev : Nat} {pc : Nat} {lv : List (Nat × Value)} {rest : List Value} {sh : Sh} {d : Dt} {b N index : Nat} {x x2 : Int32}
theorem z_vtakes {r : Int32 × Dt} (ev : v_takes N sh b x d = some r) (w1 : Cond.methodLink y.cls index ⟨"PloughDepot$Plough", "takes", "(I)I"⟩ ∈ TT) (hlev : 4 ≤ lev) (hcat : (rest.map fun v => v.category).sum ≤ 8) (hdg : decode cc pc = .ok (.invokevirtual index, 3)) (kk : Z E y cc nL ret lev (sh, r.2) (pc + 3) lv (.int r.1 :: rest)) : Z E y cc nL ret lev (sh, d) pc lv (.int x :: .ref b :: rest) := by
  unfold v_takes at ev
  split at ev
  · rename_i q3
    have hM := zm_X3_takes ev
    have q1 := hM.1.1
    have q2 := hM.1.2.1
    exact z_cOi (ci := 3) (C := RX3) (owner := "PloughDepot$Plough") (T := TX3) (N := 5) (x := ⟨"PloughDepot$Plough", "takes", "(I)I"⟩) (As := [.int x]) (rest := rest) hM.2 q1 q2 q3 rfl (Or.inl rfl) w1 mw_34_6 mw_34_8 mw_34_12 mw_34_13 mw_31_16 mw_34_14 mw_34_9 yk_X6_takes (by omega) (by show 8 + (3 + 11) + 100 * 3 ≤ 100 * lev; omega) rfl hcat rfl hdg kk
  · exact z_vtakes0 ev w1 (by omega) hcat hdg kk
end SD
