set_option maxRecDepth 20000 in
theorem zb_X5_nearestStart_154 {N : Nat} {sh : Sh} {d : Dt} {r : Int32} {E : EV} (hE : TG E (some (.int r)) (sh, d))  {l1 : Int32} (hf : f_X5_nearestStart_154 N sh l1 d = some r) : Z E yX5_nearestStart cX5_nearestStart 5 (some .int) 2 (sh, d) 154 [(1, .int l1)] [] := by
  unfold f_X5_nearestStart_154 at hf
  refine z_iload_n 0 dX5_nearestStart_154 rfl rfl ?_
  cases hf
  exact z_ireturn hE rfl dX5_nearestStart_155
set_option maxRecDepth 20000 in
theorem zb_X5_nearestStart_148 {N : Nat} {sh : Sh} {d : Dt} {k7 : Nat → Int32 → Int32 → Int32 → Option Int32} {r : Int32} {E : EV} (hE : TG E (some (.int r)) (sh, d)) (hk7 : ∀ (l0 : Nat) (l1 : Int32) (l2 : Int32) (l3 : Int32), k7 l0 l1 l2 l3 = some r → Z E yX5_nearestStart cX5_nearestStart 5 (some .int) 2 (sh, d) 7 [(0, .ref l0), (1, .int l1), (2, .int l2), (3, .int l3)] []) {l0 : Nat} {l1 : Int32} {l2 : Int32} {l3 : Int32} (hf : f_X5_nearestStart_148 N sh k7 l0 l1 l2 l3 d = some r) : Z E yX5_nearestStart cX5_nearestStart 5 (some .int) 2 (sh, d) 148 [(0, .ref l0), (1, .int l1), (2, .int l2), (3, .int l3)] [] := by
  unfold f_X5_nearestStart_148 at hf
  refine z_iinc [(3, .int (l3 + 1)), (0, .ref l0), (1, .int l1), (2, .int l2)] 3 (l3 + 1) dX5_nearestStart_148 rfl rfl (by decide) rfl ?_
  refine z_goto 7 dX5_nearestStart_151 (by decide) ?_
  refine z_lv [(0, .ref l0), (1, .int l1), (2, .int l2), (3, .int (l3 + 1))] [1, 2, 3, 0] rfl ?_
  exact hk7 _ _ _ _ hf
set_option maxRecDepth 20000 in
theorem zb_X5_nearestStart_87 {N : Nat} {sh : Sh} {d : Dt} {k7 : Nat → Int32 → Int32 → Int32 → Option Int32} {r : Int32} {E : EV} (hE : TG E (some (.int r)) (sh, d)) (hk7 : ∀ (l0 : Nat) (l1 : Int32) (l2 : Int32) (l3 : Int32), k7 l0 l1 l2 l3 = some r → Z E yX5_nearestStart cX5_nearestStart 5 (some .int) 2 (sh, d) 7 [(0, .ref l0), (1, .int l1), (2, .int l2), (3, .int l3)] []) {l0 : Nat} {l1 : Int32} {l2 : Int32} {l3 : Int32} {t0 : Int32} (hf : f_X5_nearestStart_87 N sh k7 l0 l1 l2 l3 t0 d = some r) : Z E yX5_nearestStart cX5_nearestStart 5 (some .int) 2 (sh, d) 87 [(0, .ref l0), (1, .int l1), (2, .int l2), (3, .int l3)] [.int t0] := by
  unfold f_X5_nearestStart_87 at hf
  refine z_istore [(4, .int t0), (0, .ref l0), (1, .int l1), (2, .int l2), (3, .int l3)] dX5_nearestStart_87 (by decide) rfl ?_
  refine z_aload_n 1 dX5_nearestStart_89 rfl rfl ?_
  refine z_gP (ci := 5) (k := 10) (C := RX5) (T := TX5) (N := 13) rfl inlX5 (by decide) mw_6_1 (fun _ _ _ _ h9 => h9) hf (by decide) rfl dX5_nearestStart_90  (fun v17 hf => ?_)
  refine z_iload_n 4 dX5_nearestStart_93 rfl rfl ?_
  refine z_aI hf dX5_nearestStart_94  (fun v18 hf => ?_)
  refine z_if_le 148 hf dX5_nearestStart_95 (by decide) (fun hf => ?_) (fun hf => ?_)
  · refine z_lv [(0, .ref l0), (1, .int l1), (2, .int l2), (3, .int l3)] [1, 2, 3, 4] rfl ?_
    exact zb_X5_nearestStart_148 hE hk7 hf
  · refine z_iload 0 dX5_nearestStart_98 rfl ?_
    refine z_if_eq 148 hf dX5_nearestStart_100 (by decide) (fun hf => ?_) (fun hf => ?_)
    · refine z_lv [(0, .ref l0), (1, .int l1), (2, .int l2), (3, .int l3)] [1, 2, 3, 4] rfl ?_
      exact zb_X5_nearestStart_148 hE hk7 hf
    · refine z_aload_n 1 dX5_nearestStart_103 rfl rfl ?_
      refine z_gP (ci := 5) (k := 1) (C := RX5) (T := TX5) (N := 13) rfl inlX5 (by decide) mw_6_5 (fun _ _ _ _ h9 => h9) hf (by decide) rfl dX5_nearestStart_104  (fun v19 hf => ?_)
      refine z_aload_n 1 dX5_nearestStart_107 rfl rfl ?_
      refine z_gI (ci := 5) (k := 12) (C := RX5) (T := TX5) (N := 13) rfl inlX5 (by decide) mw_6_3 (fun _ _ _ _ h9 => h9) hf (by decide) rfl dX5_nearestStart_108  (fun v20 hf => ?_)
      refine z_aload_n 1 dX5_nearestStart_111 rfl rfl ?_
      refine z_gP (ci := 5) (k := 7) (C := RX5) (T := TX5) (N := 13) rfl inlX5 (by decide) mw_5_22 (fun _ _ _ _ h9 => h9) hf (by decide) rfl dX5_nearestStart_112  (fun v21 hf => ?_)
      refine z_iload_n 4 dX5_nearestStart_115 rfl rfl ?_
      refine z_aI hf dX5_nearestStart_116  (fun v22 hf => ?_)
      obtain ⟨v23, ev23, hf⟩ := ob hf
      refine z_cVi (ci := 10) (T := TX10) (N := 6) (As := [.int v20, .int v22]) (rest := []) (zm_X10_between ev23).2 (zm_X10_between ev23).1 (by decide) rfl (Or.inl rfl) mw_44_9 mw_17_12 mw_17_13 mw_1_23 mw_17_14 yk_X10_between (by decide) (by decide) rfl (Nat.le_of_ble_eq_true rfl) rfl dX5_nearestStart_117 ?_
      refine z_iload_n 3 dX5_nearestStart_120 rfl rfl ?_
      refine z_icmp_ge 148 hf dX5_nearestStart_121 (by decide) (fun hf => ?_) (fun hf => ?_)
      · refine z_lv [(0, .ref l0), (1, .int l1), (2, .int l2), (3, .int l3)] [1, 2, 3, 4] rfl ?_
        exact zb_X5_nearestStart_148 hE hk7 hf
      · refine z_iconst 2 2 dX5_nearestStart_124 (by decide) ?_
        refine z_iload_n 4 dX5_nearestStart_125 rfl rfl ?_
        refine z_imul dX5_nearestStart_126 ?_
        refine z_iconst 1 1 dX5_nearestStart_127 (by decide) ?_
        refine z_iadd dX5_nearestStart_128 ?_
        refine z_istore_n [(1, .int (((2 : Int32) * l3) + (1 : Int32))), (4, .int t0), (0, .ref l0), (2, .int l2), (3, .int l3)] dX5_nearestStart_129 rfl (by decide) rfl ?_
        refine z_aload_n 2 dX5_nearestStart_130 rfl rfl ?_
        refine z_gP (ci := 5) (k := 1) (C := RX5) (T := TX5) (N := 13) rfl inlX5 (by decide) mw_6_5 (fun _ _ _ _ h9 => h9) hf (by decide) rfl dX5_nearestStart_131  (fun v24 hf => ?_)
        refine z_aload_n 2 dX5_nearestStart_134 rfl rfl ?_
        refine z_gI (ci := 5) (k := 12) (C := RX5) (T := TX5) (N := 13) rfl inlX5 (by decide) mw_6_3 (fun _ _ _ _ h9 => h9) hf (by decide) rfl dX5_nearestStart_135  (fun v25 hf => ?_)
        refine z_aload_n 2 dX5_nearestStart_138 rfl rfl ?_
        refine z_gP (ci := 5) (k := 7) (C := RX5) (T := TX5) (N := 13) rfl inlX5 (by decide) mw_5_22 (fun _ _ _ _ h9 => h9) hf (by decide) rfl dX5_nearestStart_139  (fun v26 hf => ?_)
        refine z_iload_n 4 dX5_nearestStart_142 rfl rfl ?_
        refine z_aI hf dX5_nearestStart_143  (fun v27 hf => ?_)
        obtain ⟨v28, ev28, hf⟩ := ob hf
        refine z_cVi (ci := 10) (T := TX10) (N := 6) (As := [.int v25, .int v27]) (rest := []) (zm_X10_between ev28).2 (zm_X10_between ev28).1 (by decide) rfl (Or.inl rfl) mw_44_9 mw_17_12 mw_17_13 mw_1_23 mw_17_14 yk_X10_between (by decide) (by decide) rfl (Nat.le_of_ble_eq_true rfl) rfl dX5_nearestStart_144 ?_
        refine z_istore_n [(2, .int v28), (1, .int (((2 : Int32) * l3) + (1 : Int32))), (4, .int t0), (0, .ref l0), (3, .int l3)] dX5_nearestStart_147 rfl (by decide) rfl ?_
        refine z_lv [(0, .ref l0), (1, .int (((2 : Int32) * l3) + (1 : Int32))), (2, .int v28), (3, .int l3)] [3, 1, 0, 4] rfl ?_
        exact zb_X5_nearestStart_148 hE hk7 hf
set_option maxRecDepth 20000 in
theorem zb_X5_nearestStart_67 {N : Nat} {sh : Sh} {d : Dt} {k7 : Nat → Int32 → Int32 → Int32 → Option Int32} {r : Int32} {E : EV} (hE : TG E (some (.int r)) (sh, d)) (hk7 : ∀ (l0 : Nat) (l1 : Int32) (l2 : Int32) (l3 : Int32), k7 l0 l1 l2 l3 = some r → Z E yX5_nearestStart cX5_nearestStart 5 (some .int) 2 (sh, d) 7 [(0, .ref l0), (1, .int l1), (2, .int l2), (3, .int l3)] []) {l0 : Nat} {l1 : Int32} {l2 : Int32} {l3 : Int32} (hf : f_X5_nearestStart_67 N sh k7 l0 l1 l2 l3 d = some r) : Z E yX5_nearestStart cX5_nearestStart 5 (some .int) 2 (sh, d) 67 [(0, .ref l0), (1, .int l1), (2, .int l2), (3, .int l3)] [] := by
  unfold f_X5_nearestStart_67 at hf
  refine z_aload_n 0 dX5_nearestStart_67 rfl rfl ?_
  refine z_gP (ci := 5) (k := 0) (C := RX5) (T := TX5) (N := 13) rfl inlX5 (by decide) mw_6_4 (fun _ _ _ _ h9 => h9) hf (by decide) rfl dX5_nearestStart_68  (fun v14 hf => ?_)
  refine z_gP (ci := 1) (k := 1) (C := RX1) (T := TX1) (N := 8) rfl inlX1 (by decide) mw_43_17 (fun _ _ _ _ h9 => h9) hf (by decide) rfl dX5_nearestStart_71  (fun v15 hf => ?_)
  refine z_iload_n 3 dX5_nearestStart_74 rfl rfl ?_
  refine z_iconst 5 5 dX5_nearestStart_75 (by decide) ?_
  obtain ⟨v16, ev16, hf⟩ := ob hf
  refine z_cVi (ci := 8) (T := TX8) (N := 2) (As := [.int l3, .int (5 : Int32)]) (rest := []) (zm_X8_get ev16).2 (zm_X8_get ev16).1 (by decide) rfl (Or.inl rfl) mw_43_20 mw_10_11 mw_10_12 mw_3_13 mw_10_13 yk_X8_get (by decide) (by decide) rfl (Nat.le_of_ble_eq_true rfl) rfl dX5_nearestStart_76 ?_
  refine z_if_ne 86 hf dX5_nearestStart_79 (by decide) (fun hf => ?_) (fun hf => ?_)
  · refine z_iconst 0 0 dX5_nearestStart_86 (by decide) ?_
    exact zb_X5_nearestStart_87 hE hk7 hf
  · refine z_iconst 1 1 dX5_nearestStart_82 (by decide) ?_
    refine z_goto 87 dX5_nearestStart_83 (by decide) ?_
    exact zb_X5_nearestStart_87 hE hk7 hf
set_option maxRecDepth 20000 in
theorem zg_X5_nearestStart_7 {N : Nat} {sh : Sh} {d : Dt} {r : Int32} {k7 : Nat → Int32 → Int32 → Int32 → Option Int32} {E : EV} (hE : TG E (some (.int r)) (sh, d))  (hk7 : ∀ (l0 : Nat) (l1 : Int32) (l2 : Int32) (l3 : Int32), k7 l0 l1 l2 l3 = some r → Z E yX5_nearestStart cX5_nearestStart 5 (some .int) 2 (sh, d) 7 [(0, .ref l0), (1, .int l1), (2, .int l2), (3, .int l3)] []) {l0 : Nat} {l1 : Int32} {l2 : Int32} {l3 : Int32} (hf : g_X5_nearestStart_7 N sh k7 l0 l1 l2 l3 d = some r) : Z E yX5_nearestStart cX5_nearestStart 5 (some .int) 2 (sh, d) 7 [(0, .ref l0), (1, .int l1), (2, .int l2), (3, .int l3)] [] := by
  unfold g_X5_nearestStart_7 at hf
  refine z_iload_n 3 dX5_nearestStart_7 rfl rfl ?_
  refine z_aload_n 0 dX5_nearestStart_8 rfl rfl ?_
  refine z_gI (ci := 5) (k := 8) (C := RX5) (T := TX5) (N := 13) rfl inlX5 (by decide) mw_5_23 (fun _ _ _ _ h9 => h9) hf (by decide) rfl dX5_nearestStart_9  (fun v1 hf => ?_)
  refine z_icmp_ge 154 hf dX5_nearestStart_12 (by decide) (fun hf => ?_) (fun hf => ?_)
  · refine z_lv [(1, .int l1)] [1] rfl ?_
    exact zb_X5_nearestStart_154 hE hf
  · refine z_aload_n 0 dX5_nearestStart_15 rfl rfl ?_
    refine z_gP (ci := 5) (k := 10) (C := RX5) (T := TX5) (N := 13) rfl inlX5 (by decide) mw_6_1 (fun _ _ _ _ h9 => h9) hf (by decide) rfl dX5_nearestStart_16  (fun v2 hf => ?_)
    refine z_iload_n 3 dX5_nearestStart_19 rfl rfl ?_
    refine z_aI hf dX5_nearestStart_20  (fun v3 hf => ?_)
    refine z_if_le 67 hf dX5_nearestStart_21 (by decide) (fun hf => ?_) (fun hf => ?_)
    · exact zb_X5_nearestStart_67 hE hk7 hf
    · refine z_aload_n 0 dX5_nearestStart_24 rfl rfl ?_
      refine z_gP (ci := 5) (k := 1) (C := RX5) (T := TX5) (N := 13) rfl inlX5 (by decide) mw_6_5 (fun _ _ _ _ h9 => h9) hf (by decide) rfl dX5_nearestStart_25  (fun v4 hf => ?_)
      refine z_aload_n 0 dX5_nearestStart_28 rfl rfl ?_
      refine z_gI (ci := 5) (k := 12) (C := RX5) (T := TX5) (N := 13) rfl inlX5 (by decide) mw_6_3 (fun _ _ _ _ h9 => h9) hf (by decide) rfl dX5_nearestStart_29  (fun v5 hf => ?_)
      refine z_aload_n 0 dX5_nearestStart_32 rfl rfl ?_
      refine z_gP (ci := 5) (k := 6) (C := RX5) (T := TX5) (N := 13) rfl inlX5 (by decide) mw_5_21 (fun _ _ _ _ h9 => h9) hf (by decide) rfl dX5_nearestStart_33  (fun v6 hf => ?_)
      refine z_iload_n 3 dX5_nearestStart_36 rfl rfl ?_
      refine z_aI hf dX5_nearestStart_37  (fun v7 hf => ?_)
      obtain ⟨v8, ev8, hf⟩ := ob hf
      refine z_cVi (ci := 10) (T := TX10) (N := 6) (As := [.int v5, .int v7]) (rest := []) (zm_X10_between ev8).2 (zm_X10_between ev8).1 (by decide) rfl (Or.inl rfl) mw_44_9 mw_17_12 mw_17_13 mw_1_23 mw_17_14 yk_X10_between (by decide) (by decide) rfl (Nat.le_of_ble_eq_true rfl) rfl dX5_nearestStart_38 ?_
      refine z_iload_n 2 dX5_nearestStart_41 rfl rfl ?_
      refine z_icmp_ge 67 hf dX5_nearestStart_42 (by decide) (fun hf => ?_) (fun hf => ?_)
      · exact zb_X5_nearestStart_67 hE hk7 hf
      · refine z_iconst 2 2 dX5_nearestStart_45 (by decide) ?_
        refine z_iload_n 3 dX5_nearestStart_46 rfl rfl ?_
        refine z_imul dX5_nearestStart_47 ?_
        refine z_istore_n [(1, .int ((2 : Int32) * l3)), (0, .ref l0), (2, .int l2), (3, .int l3)] dX5_nearestStart_48 rfl (by decide) rfl ?_
        refine z_aload_n 1 dX5_nearestStart_49 rfl rfl ?_
        refine z_gP (ci := 5) (k := 1) (C := RX5) (T := TX5) (N := 13) rfl inlX5 (by decide) mw_6_5 (fun _ _ _ _ h9 => h9) hf (by decide) rfl dX5_nearestStart_50  (fun v9 hf => ?_)
        refine z_aload_n 1 dX5_nearestStart_53 rfl rfl ?_
        refine z_gI (ci := 5) (k := 12) (C := RX5) (T := TX5) (N := 13) rfl inlX5 (by decide) mw_6_3 (fun _ _ _ _ h9 => h9) hf (by decide) rfl dX5_nearestStart_54  (fun v10 hf => ?_)
        refine z_aload_n 1 dX5_nearestStart_57 rfl rfl ?_
        refine z_gP (ci := 5) (k := 6) (C := RX5) (T := TX5) (N := 13) rfl inlX5 (by decide) mw_5_21 (fun _ _ _ _ h9 => h9) hf (by decide) rfl dX5_nearestStart_58  (fun v11 hf => ?_)
        refine z_iload_n 3 dX5_nearestStart_61 rfl rfl ?_
        refine z_aI hf dX5_nearestStart_62  (fun v12 hf => ?_)
        obtain ⟨v13, ev13, hf⟩ := ob hf
        refine z_cVi (ci := 10) (T := TX10) (N := 6) (As := [.int v10, .int v12]) (rest := []) (zm_X10_between ev13).2 (zm_X10_between ev13).1 (by decide) rfl (Or.inl rfl) mw_44_9 mw_17_12 mw_17_13 mw_1_23 mw_17_14 yk_X10_between (by decide) (by decide) rfl (Nat.le_of_ble_eq_true rfl) rfl dX5_nearestStart_63 ?_
        refine z_istore_n [(2, .int v13), (1, .int ((2 : Int32) * l3)), (0, .ref l0), (3, .int l3)] dX5_nearestStart_66 rfl (by decide) rfl ?_
        refine z_lv [(0, .ref l0), (1, .int ((2 : Int32) * l3)), (2, .int v13), (3, .int l3)] [2, 1, 0, 3] rfl ?_
        exact zb_X5_nearestStart_67 hE hk7 hf
set_option maxRecDepth 20000 in
theorem zb_X5_nearestStart_7 {N : Nat} {sh : Sh} {d : Dt} {r : Int32} {E : EV} (hE : TG E (some (.int r)) (sh, d))  : ∀ (n : Nat) (l0 : Nat) (l1 : Int32) (l2 : Int32) (l3 : Int32), f_X5_nearestStart_7 N sh d n l0 l1 l2 l3 = some r → Z E yX5_nearestStart cX5_nearestStart 5 (some .int) 2 (sh, d) 7 [(0, .ref l0), (1, .int l1), (2, .int l2), (3, .int l3)] [] := by
  intro n
  induction n with
  | zero => intro l0 l1 l2 l3 hf; cases hf
  | succ n ih => intro l0 l1 l2 l3 hf; exact zg_X5_nearestStart_7 hE ih hf
set_option maxRecDepth 20000 in
theorem zm_X5_nearestStart {N : Nat} {sh : Sh} {d : Dt} {l0 : Nat} {r : Int32} (hf : f_X5_nearestStart N sh l0 d = some r) : isO sh l0 5 ∧ ∀ (l : Launch) (G : GG), Mt l G yX5_nearestStart cX5_nearestStart 5 (some .int) 2 [.ref l0] (sh, d) (some (.int r)) (sh, d) := by
  have hf0 := hf
  unfold f_X5_nearestStart at hf
  refine ite_d hf (fun hO hf => ?_) (fun _ hf => ?_)
  · refine ⟨hO, fun l G => mt_of (Or.inl (by decide)) (Nat.le_of_ble_eq_true rfl) Le.rf (fun E hE => ?_)⟩
    show Z E yX5_nearestStart cX5_nearestStart 5 (some .int) 2 (sh, d) 0 [(0, .ref l0)] []
    refine z_iconst (-1) (-1) dX5_nearestStart_0 (by decide) ?_
    refine z_istore_n [(1, .int (-1 : Int32)), (0, .ref l0)] dX5_nearestStart_1 rfl (by decide) rfl ?_
    refine z_ldc mw_44_8 dX5_nearestStart_2 ?_
    refine z_istore_n [(2, .int (1000000000 : Int32)), (1, .int (-1 : Int32)), (0, .ref l0)] dX5_nearestStart_4 rfl (by decide) rfl ?_
    refine z_iconst 0 0 dX5_nearestStart_5 (by decide) ?_
    refine z_istore_n [(3, .int (0 : Int32)), (2, .int (1000000000 : Int32)), (1, .int (-1 : Int32)), (0, .ref l0)] dX5_nearestStart_6 rfl (by decide) rfl ?_
    refine z_lv [(0, .ref l0), (1, .int (-1 : Int32)), (2, .int (1000000000 : Int32)), (3, .int (0 : Int32))] [3, 2, 1, 0] rfl ?_
    exact zb_X5_nearestStart_7 hE N _ _ _ _ hf
  · cases hf
set_option maxRecDepth 20000 in
theorem le_X5_addDrive_155 {N : Nat} {r : Int32 × AS}  {l0 : Nat} {l3 : Int32} {s : AS} (hf : f_X5_addDrive_155 N l0 l3 s = some r) : Le s r.2 := by
  unfold f_X5_addDrive_155 at hf
  obtain ⟨d33, -, hf⟩ := ob hf
  cases hf
  exact Le.rf
set_option maxRecDepth 20000 in
theorem zb_X5_addDrive_155 {N : Nat} {r : Int32 × AS} {E : EV} (hE : TG E (some (.int r.1)) r.2)   {l0 : Nat} {l3 : Int32} {s : AS} (hf : f_X5_addDrive_155 N l0 l3 s = some r) : Z E yX5_addDrive cX5_addDrive 5 (some .int) 4 s 155 [(0, .ref l0), (3, .int l3)] [] := by
  unfold f_X5_addDrive_155 at hf
  refine z_aload_n 0 dX5_addDrive_155 rfl rfl ?_
  refine z_iload_n 1 dX5_addDrive_156 rfl rfl ?_
  refine z_pI (ci := 5) (k := 12) (C := RX5) (T := TX5) (N := 13) rfl inlX5 (by decide) mw_6_3 (fun _ _ _ _ h9 => h9) tyX5 tyX5_ok nmX5 rfl hf (Or.inl (by decide)) rfl rfl rfl dX5_addDrive_157  (fun d33 hf => ?_)
  refine z_iconst 0 0 dX5_addDrive_160 (by decide) ?_
  cases hf
  exact z_ireturn hE rfl dX5_addDrive_161
set_option maxRecDepth 20000 in
theorem le_X5_addDrive_106 {N : Nat} {r : Int32 × AS}  {l0 : Nat} {l1 : Int32} {l2 : Int32} {l3 : Int32} {t0 : Nat} {t1 : Int32} {t2 : Int32} {t3 : Int32} {s : AS} (hf : f_X5_addDrive_106 N l0 l1 l2 l3 t0 t1 t2 t3 s = some r) : Le s r.2 := by
  unfold f_X5_addDrive_106 at hf
  obtain ⟨v20, -, hf⟩ := ob hf
  obtain ⟨v21, -, hf⟩ := ob hf
  obtain ⟨v22, -, hf⟩ := ob hf
  obtain ⟨v23, -, hf⟩ := ob hf
  obtain ⟨v24, -, hf⟩ := ob hf
  obtain ⟨v25, -, hf⟩ := ob hf
  obtain ⟨d26, -, hf⟩ := ob hf
  refine ite_c hf (fun hf => ?_) (fun hf => ?_)
  · exact Le.via (le_X5_addDrive_155 hf) rfl
  · obtain ⟨v27, -, hf⟩ := ob hf
    obtain ⟨v28, -, hf⟩ := ob hf
    obtain ⟨d29, -, hf⟩ := ob hf
    obtain ⟨v30, -, hf⟩ := ob hf
    obtain ⟨v31, -, hf⟩ := ob hf
    obtain ⟨d32, -, hf⟩ := ob hf
    exact Le.via (le_X5_addDrive_155 hf) rfl
set_option maxRecDepth 20000 in
theorem zb_X5_addDrive_106 {N : Nat} {r : Int32 × AS} {E : EV} (hE : TG E (some (.int r.1)) r.2)   {l0 : Nat} {l1 : Int32} {l2 : Int32} {l3 : Int32} {t0 : Nat} {t1 : Int32} {t2 : Int32} {t3 : Int32} {s : AS} (hf : f_X5_addDrive_106 N l0 l1 l2 l3 t0 t1 t2 t3 s = some r) : Z E yX5_addDrive cX5_addDrive 5 (some .int) 4 s 106 [(0, .ref l0), (1, .int l1), (2, .int l2), (3, .int l3)] [.int t3, .int t2, .int t1, .ref t0] := by
  unfold f_X5_addDrive_106 at hf
  obtain ⟨v20, ev20, hf⟩ := ob hf
  refine z_cVv (ci := 8) (T := TX8) (N := 2) (As := [.int t1, .int t2, .int t3]) (rest := []) (zm_X8_put ev20).2 (zm_X8_put ev20).1 (by decide) rfl (Or.inl rfl) mw_44_20 mw_12_23 mw_13_0 mw_3_13 mw_13_1 yk_X8_put (by decide) (by decide) rfl (Nat.le_of_ble_eq_true rfl) rfl dX5_addDrive_106 ?_
  refine z_aload_n 0 dX5_addDrive_109 rfl rfl ?_
  refine z_gP (ci := 5) (k := 4) (C := RX5) (T := TX5) (N := 13) rfl inlX5 (by decide) mw_5_19 (fun _ _ _ _ h9 => h9) hf (by decide) rfl dX5_addDrive_110  (fun v21 hf => ?_)
  refine z_iconst 1 1 dX5_addDrive_113 (by decide) ?_
  refine z_dup2_11 dX5_addDrive_114 rfl rfl ?_
  refine z_aI hf dX5_addDrive_115  (fun v22 hf => ?_)
  refine z_aload_n 0 dX5_addDrive_116 rfl rfl ?_
  refine z_gP (ci := 5) (k := 0) (C := RX5) (T := TX5) (N := 13) rfl inlX5 (by decide) mw_6_4 (fun _ _ _ _ h9 => h9) hf (by decide) rfl dX5_addDrive_117  (fun v23 hf => ?_)
  refine z_gP (ci := 1) (k := 1) (C := RX1) (T := TX1) (N := 8) rfl inlX1 (by decide) mw_43_17 (fun _ _ _ _ h9 => h9) hf (by decide) rfl dX5_addDrive_120  (fun v24 hf => ?_)
  refine z_iload_n 1 dX5_addDrive_123 rfl rfl ?_
  refine z_bipush 6 6 dX5_addDrive_124 (by decide) ?_
  obtain ⟨v25, ev25, hf⟩ := ob hf
  refine z_cVi (ci := 8) (T := TX8) (N := 2) (As := [.int l1, .int (6 : Int32)]) (rest := [.int v22, .int (1 : Int32), .ref v21]) (zm_X8_get ev25).2 (zm_X8_get ev25).1 (by decide) rfl (Or.inl rfl) mw_43_20 mw_10_11 mw_10_12 mw_3_13 mw_10_13 yk_X8_get (by decide) (by decide) rfl (Nat.le_of_ble_eq_true rfl) rfl dX5_addDrive_126 ?_
  refine z_iadd dX5_addDrive_129 ?_
  refine z_sI hf dX5_addDrive_130  (fun d26 hf => ?_)
  refine z_iload_n 2 dX5_addDrive_131 rfl rfl ?_
  refine z_if_eq 155 hf dX5_addDrive_132 (by decide) (fun hf => ?_) (fun hf => ?_)
  · refine z_lv [(0, .ref l0), (3, .int l3)] [0, 3] rfl ?_
    exact zb_X5_addDrive_155 hE hf
  · refine z_aload_n 0 dX5_addDrive_135 rfl rfl ?_
    refine z_gP (ci := 5) (k := 4) (C := RX5) (T := TX5) (N := 13) rfl inlX5 (by decide) mw_5_19 (fun _ _ _ _ h9 => h9) hf (by decide) rfl dX5_addDrive_136  (fun v27 hf => ?_)
    refine z_iconst 2 2 dX5_addDrive_139 (by decide) ?_
    refine z_dup2_11 dX5_addDrive_140 rfl rfl ?_
    refine z_aI hf dX5_addDrive_141  (fun v28 hf => ?_)
    refine z_iconst 1 1 dX5_addDrive_142 (by decide) ?_
    refine z_iadd dX5_addDrive_143 ?_
    refine z_sI hf dX5_addDrive_144  (fun d29 hf => ?_)
    refine z_aload_n 0 dX5_addDrive_145 rfl rfl ?_
    refine z_gP (ci := 5) (k := 10) (C := RX5) (T := TX5) (N := 13) rfl inlX5 (by decide) mw_6_1 (fun _ _ _ _ h9 => h9) hf (by decide) rfl dX5_addDrive_146  (fun v30 hf => ?_)
    refine z_iload_n 1 dX5_addDrive_149 rfl rfl ?_
    refine z_dup2_11 dX5_addDrive_150 rfl rfl ?_
    refine z_aI hf dX5_addDrive_151  (fun v31 hf => ?_)
    refine z_iconst 1 1 dX5_addDrive_152 (by decide) ?_
    refine z_isub dX5_addDrive_153 ?_
    refine z_sI hf dX5_addDrive_154  (fun d32 hf => ?_)
    refine z_lv [(0, .ref l0), (3, .int l3)] [0, 3] rfl ?_
    exact zb_X5_addDrive_155 hE hf
set_option maxRecDepth 20000 in
theorem le_X5_addDrive_52 {N : Nat} {r : Int32 × AS}  {l0 : Nat} {l1 : Int32} {l2 : Int32} {l3 : Int32} {t0 : Int32} {s : AS} (hf : f_X5_addDrive_52 N l0 l1 l2 l3 t0 s = some r) : Le s r.2 := by
  unfold f_X5_addDrive_52 at hf
  obtain ⟨v12, -, hf⟩ := ob hf
  obtain ⟨v13, -, hf⟩ := ob hf
  obtain ⟨v14, -, hf⟩ := ob hf
  obtain ⟨v15, -, hf⟩ := ob hf
  obtain ⟨v16, -, hf⟩ := ob hf
  obtain ⟨v17, -, hf⟩ := ob hf
  obtain ⟨v18, -, hf⟩ := ob hf
  obtain ⟨v19, -, hf⟩ := ob hf
  refine ite_c hf (fun hf => ?_) (fun hf => ?_)
  · exact Le.via (le_X5_addDrive_106 hf) rfl
  · exact Le.via (le_X5_addDrive_106 hf) rfl
set_option maxRecDepth 20000 in
theorem zb_X5_addDrive_52 {N : Nat} {r : Int32 × AS} {E : EV} (hE : TG E (some (.int r.1)) r.2)   {l0 : Nat} {l1 : Int32} {l2 : Int32} {l3 : Int32} {t0 : Int32} {s : AS} (hf : f_X5_addDrive_52 N l0 l1 l2 l3 t0 s = some r) : Z E yX5_addDrive cX5_addDrive 5 (some .int) 4 s 52 [(0, .ref l0), (1, .int l1), (2, .int l2), (3, .int l3)] [.int t0] := by
  unfold f_X5_addDrive_52 at hf
  refine z_istore [(4, .int t0), (0, .ref l0), (1, .int l1), (2, .int l2), (3, .int l3)] dX5_addDrive_52 (by decide) rfl ?_
  refine z_aload_n 1 dX5_addDrive_54 rfl rfl ?_
  refine z_gP (ci := 5) (k := 3) (C := RX5) (T := TX5) (N := 13) rfl inlX5 (by decide) mw_5_18 (fun _ _ _ _ h9 => h9) hf (by decide) rfl dX5_addDrive_55  (fun v12 hf => ?_)
  refine z_iload 0 dX5_addDrive_58 rfl ?_
  refine z_iconst 0 0 dX5_addDrive_60 (by decide) ?_
  refine z_iload_n 2 dX5_addDrive_61 rfl rfl ?_
  obtain ⟨v13, ev13, hf⟩ := ob hf
  refine z_cVv (ci := 8) (T := TX8) (N := 2) (As := [.int t0, .int (0 : Int32), .int l1]) (rest := []) (zm_X8_put ev13).2 (zm_X8_put ev13).1 (by decide) rfl (Or.inl rfl) mw_44_20 mw_12_23 mw_13_0 mw_3_13 mw_13_1 yk_X8_put (by decide) (by decide) rfl (Nat.le_of_ble_eq_true rfl) rfl dX5_addDrive_62 ?_
  refine z_aload_n 1 dX5_addDrive_65 rfl rfl ?_
  refine z_gP (ci := 5) (k := 3) (C := RX5) (T := TX5) (N := 13) rfl inlX5 (by decide) mw_5_18 (fun _ _ _ _ h9 => h9) hf (by decide) rfl dX5_addDrive_66  (fun v14 hf => ?_)
  refine z_iload 0 dX5_addDrive_69 rfl ?_
  refine z_iconst 1 1 dX5_addDrive_71 (by decide) ?_
  refine z_aload_n 1 dX5_addDrive_72 rfl rfl ?_
  refine z_gI (ci := 5) (k := 12) (C := RX5) (T := TX5) (N := 13) rfl inlX5 (by decide) mw_6_3 (fun _ _ _ _ h9 => h9) hf (by decide) rfl dX5_addDrive_73  (fun v15 hf => ?_)
  obtain ⟨v16, ev16, hf⟩ := ob hf
  refine z_cVv (ci := 8) (T := TX8) (N := 2) (As := [.int t0, .int (1 : Int32), .int v15]) (rest := []) (zm_X8_put ev16).2 (zm_X8_put ev16).1 (by decide) rfl (Or.inl rfl) mw_44_20 mw_12_23 mw_13_0 mw_3_13 mw_13_1 yk_X8_put (by decide) (by decide) rfl (Nat.le_of_ble_eq_true rfl) rfl dX5_addDrive_76 ?_
  refine z_aload_n 1 dX5_addDrive_79 rfl rfl ?_
  refine z_gP (ci := 5) (k := 3) (C := RX5) (T := TX5) (N := 13) rfl inlX5 (by decide) mw_5_18 (fun _ _ _ _ h9 => h9) hf (by decide) rfl dX5_addDrive_80  (fun v17 hf => ?_)
  refine z_iload 0 dX5_addDrive_83 rfl ?_
  refine z_iconst 2 2 dX5_addDrive_85 (by decide) ?_
  refine z_iload_n 4 dX5_addDrive_86 rfl rfl ?_
  obtain ⟨v18, ev18, hf⟩ := ob hf
  refine z_cVv (ci := 8) (T := TX8) (N := 2) (As := [.int t0, .int (2 : Int32), .int l3]) (rest := []) (zm_X8_put ev18).2 (zm_X8_put ev18).1 (by decide) rfl (Or.inl rfl) mw_44_20 mw_12_23 mw_13_0 mw_3_13 mw_13_1 yk_X8_put (by decide) (by decide) rfl (Nat.le_of_ble_eq_true rfl) rfl dX5_addDrive_87 ?_
  refine z_aload_n 1 dX5_addDrive_90 rfl rfl ?_
  refine z_gP (ci := 5) (k := 3) (C := RX5) (T := TX5) (N := 13) rfl inlX5 (by decide) mw_5_18 (fun _ _ _ _ h9 => h9) hf (by decide) rfl dX5_addDrive_91  (fun v19 hf => ?_)
  refine z_iload 0 dX5_addDrive_94 rfl ?_
  refine z_iconst 3 3 dX5_addDrive_96 (by decide) ?_
  refine z_iload_n 3 dX5_addDrive_97 rfl rfl ?_
  refine z_if_eq 105 hf dX5_addDrive_98 (by decide) (fun hf => ?_) (fun hf => ?_)
  · refine z_iconst 0 0 dX5_addDrive_105 (by decide) ?_
    refine z_lv [(0, .ref l0), (1, .int l1), (2, .int l2), (3, .int l3)] [1, 2, 3, 4] rfl ?_
    exact zb_X5_addDrive_106 hE hf
  · refine z_iconst 1 1 dX5_addDrive_101 (by decide) ?_
    refine z_goto 106 dX5_addDrive_102 (by decide) ?_
    refine z_lv [(0, .ref l0), (1, .int l1), (2, .int l2), (3, .int l3)] [1, 2, 3, 4] rfl ?_
    exact zb_X5_addDrive_106 hE hf
set_option maxRecDepth 20000 in
theorem le_X5_addDrive_44 {N : Nat} {r : Int32 × AS}  {l0 : Nat} {l1 : Int32} {l2 : Int32} {t0 : Int32} {s : AS} (hf : f_X5_addDrive_44 N l0 l1 l2 t0 s = some r) : Le s r.2 := by
  unfold f_X5_addDrive_44 at hf
  obtain ⟨v10, -, hf⟩ := ob hf
  obtain ⟨v11, ev11, hf⟩ := ob hf
  refine Le.of (t := (s.1, s.2)) rfl ((lm_X8_add ev11).tr ?_)
  exact Le.via (le_X5_addDrive_52 hf) rfl
set_option maxRecDepth 20000 in
theorem zb_X5_addDrive_44 {N : Nat} {r : Int32 × AS} {E : EV} (hE : TG E (some (.int r.1)) r.2)   {l0 : Nat} {l1 : Int32} {l2 : Int32} {t0 : Int32} {s : AS} (hf : f_X5_addDrive_44 N l0 l1 l2 t0 s = some r) : Z E yX5_addDrive cX5_addDrive 5 (some .int) 4 s 44 [(0, .ref l0), (1, .int l1), (2, .int l2)] [.int t0] := by
  unfold f_X5_addDrive_44 at hf
  refine z_istore_n [(3, .int t0), (0, .ref l0), (1, .int l1), (2, .int l2)] dX5_addDrive_44 rfl (by decide) rfl ?_
  refine z_aload_n 1 dX5_addDrive_45 rfl rfl ?_
  refine z_gP (ci := 5) (k := 3) (C := RX5) (T := TX5) (N := 13) rfl inlX5 (by decide) mw_5_18 (fun _ _ _ _ h9 => h9) hf (by decide) rfl dX5_addDrive_46  (fun v10 hf => ?_)
  obtain ⟨v11, ev11, hf⟩ := ob hf
  refine z_cVi (ci := 8) (T := TX8) (N := 2) (As := []) (rest := []) (zm_X8_add ev11).2 (zm_X8_add ev11).1 (by decide) rfl (Or.inr (tg_le hE (le_X5_addDrive_52 hf))) mw_44_19 mw_12_19 mw_12_20 mw_3_13 mw_12_21 yk_X8_add (by decide) (by decide) rfl (Nat.le_of_ble_eq_true rfl) rfl dX5_addDrive_49 ?_
  refine z_lv [(0, .ref l0), (1, .int l1), (2, .int l2), (3, .int t0)] [1, 2, 3, 0] rfl ?_
  exact zb_X5_addDrive_52 hE hf
set_option maxRecDepth 20000 in
theorem lm_X5_addDrive {N : Nat} {s : AS} {l0 : Nat} {l1 : Int32} {l2 : Int32} {r : Int32 × AS} (hf : f_X5_addDrive N l0 l1 l2 s = some r) : Le s r.2 := by
  unfold f_X5_addDrive at hf
  refine ite_c hf (fun hf => ?_) (fun hf => ?_)
  · skip
    obtain ⟨v1, -, hf⟩ := ob hf
    obtain ⟨v2, -, hf⟩ := ob hf
    refine ite_c hf (fun hf => ?_) (fun hf => ?_)
    · obtain ⟨v3, -, hf⟩ := ob hf
      obtain ⟨v4, -, hf⟩ := ob hf
      obtain ⟨v5, -, hf⟩ := ob hf
      refine ite_c hf (fun hf => ?_) (fun hf => ?_)
      · obtain ⟨v6, -, hf⟩ := ob hf
        obtain ⟨v7, -, hf⟩ := ob hf
        exact Le.via (le_X5_addDrive_44 hf) rfl
      · obtain ⟨v8, -, hf⟩ := ob hf
        obtain ⟨v9, -, hf⟩ := ob hf
        exact Le.via (le_X5_addDrive_44 hf) rfl
    · cases hf
      exact Le.rf
  · cases hf
set_option maxRecDepth 20000 in
theorem zm_X5_addDrive {N : Nat} {s : AS} {l0 : Nat} {l1 : Int32} {l2 : Int32} {r : Int32 × AS} (hf : f_X5_addDrive N l0 l1 l2 s = some r) : isO s.1 l0 5 ∧ ∀ (l : Launch) (G : GG), Mt l G yX5_addDrive cX5_addDrive 5 (some .int) 4 [.ref l0, .int l1, .int l2] s (some (.int r.1)) r.2 := by
  have hf0 := hf
  unfold f_X5_addDrive at hf
  refine ite_d hf (fun hO hf => ?_) (fun _ hf => ?_)
  · refine ⟨hO, fun l G => mt_of (Or.inl (by decide)) (Nat.le_of_ble_eq_true rfl) (lm_X5_addDrive hf0) (fun E hE => ?_)⟩
    show Z E yX5_addDrive cX5_addDrive 5 (some .int) 4 s 0 [(0, .ref l0), (1, .int l1), (2, .int l2)] []
    refine z_aload_n 0 dX5_addDrive_0 rfl rfl ?_
    refine z_gP (ci := 5) (k := 3) (C := RX5) (T := TX5) (N := 13) rfl inlX5 (by decide) mw_5_18 (fun _ _ _ _ h9 => h9) hf (by decide) rfl dX5_addDrive_1  (fun v1 hf => ?_)
    refine z_gI (ci := 8) (k := 1) (C := RX8) (T := TX8) (N := 2) rfl inlX8 (by decide) mw_43_16 (fun _ _ _ _ h9 => h9) hf (by decide) rfl dX5_addDrive_4  (fun v2 hf => ?_)
    refine z_sipush 2000 2000 dX5_addDrive_7 (by decide) ?_
    refine z_icmp_lt 16 hf dX5_addDrive_10 (by decide) (fun hf => ?_) (fun hf => ?_)
    · refine z_aload_n 0 dX5_addDrive_16 rfl rfl ?_
      refine z_gP (ci := 5) (k := 6) (C := RX5) (T := TX5) (N := 13) rfl inlX5 (by decide) mw_5_21 (fun _ _ _ _ h9 => h9) hf (by decide) rfl dX5_addDrive_17  (fun v3 hf => ?_)
      refine z_iload_n 1 dX5_addDrive_20 rfl rfl ?_
      refine z_aI hf dX5_addDrive_21  (fun v4 hf => ?_)
      refine z_aload_n 0 dX5_addDrive_22 rfl rfl ?_
      refine z_gI (ci := 5) (k := 12) (C := RX5) (T := TX5) (N := 13) rfl inlX5 (by decide) mw_6_3 (fun _ _ _ _ h9 => h9) hf (by decide) rfl dX5_addDrive_23  (fun v5 hf => ?_)
      refine z_icmp_ne 38 hf dX5_addDrive_26 (by decide) (fun hf => ?_) (fun hf => ?_)
      · refine z_aload_n 0 dX5_addDrive_38 rfl rfl ?_
        refine z_gP (ci := 5) (k := 6) (C := RX5) (T := TX5) (N := 13) rfl inlX5 (by decide) mw_5_21 (fun _ _ _ _ h9 => h9) hf (by decide) rfl dX5_addDrive_39  (fun v6 hf => ?_)
        refine z_iload_n 1 dX5_addDrive_42 rfl rfl ?_
        refine z_aI hf dX5_addDrive_43  (fun v7 hf => ?_)
        exact zb_X5_addDrive_44 hE hf
      · refine z_aload_n 0 dX5_addDrive_29 rfl rfl ?_
        refine z_gP (ci := 5) (k := 7) (C := RX5) (T := TX5) (N := 13) rfl inlX5 (by decide) mw_5_22 (fun _ _ _ _ h9 => h9) hf (by decide) rfl dX5_addDrive_30  (fun v8 hf => ?_)
        refine z_iload_n 1 dX5_addDrive_33 rfl rfl ?_
        refine z_aI hf dX5_addDrive_34  (fun v9 hf => ?_)
        refine z_goto 44 dX5_addDrive_35 (by decide) ?_
        exact zb_X5_addDrive_44 hE hf
    · refine z_bipush (-3) (-3) dX5_addDrive_13 (by decide) ?_
      cases hf
      exact z_ireturn hE rfl dX5_addDrive_15
  · cases hf
set_option maxRecDepth 20000 in
theorem le_X5_driveTo_81 {N : Nat} {r : Int32 × AS}  {l2 : Int32} {s : AS} (hf : f_X5_driveTo_81 N l2 s = some r) : Le s r.2 := by
  unfold f_X5_driveTo_81 at hf
  cases hf
  exact Le.rf
set_option maxRecDepth 20000 in
theorem zb_X5_driveTo_81 {N : Nat} {r : Int32 × AS} {E : EV} (hE : TG E (some (.int r.1)) r.2)   {l2 : Int32} {s : AS} (hf : f_X5_driveTo_81 N l2 s = some r) : Z E yX5_driveTo cX5_driveTo 5 (some .int) 5 s 81 [(2, .int l2)] [] := by
  unfold f_X5_driveTo_81 at hf
  refine z_iload_n 0 dX5_driveTo_81 rfl rfl ?_
  cases hf
  exact z_ireturn hE rfl dX5_driveTo_82
set_option maxRecDepth 20000 in
theorem le_X5_driveTo_74 {N : Nat} {k24 : Nat → Int32 → Int32 → Int32 → AS → Option (Int32 × AS)} {r : Int32 × AS} (hk24 : ∀ (l0 : Nat) (l1 : Int32) (l2 : Int32) (l3 : Int32) (s : AS), k24 l0 l1 l2 l3 s = some r → Le s r.2) {l0 : Nat} {l1 : Int32} {l3 : Int32} {t0 : Int32} {s : AS} (hf : f_X5_driveTo_74 N k24 l0 l1 l3 t0 s = some r) : Le s r.2 := by
  unfold f_X5_driveTo_74 at hf
  exact Le.via (hk24 _ _ _ _ _ hf) rfl
set_option maxRecDepth 20000 in
theorem zb_X5_driveTo_74 {N : Nat} {k24 : Nat → Int32 → Int32 → Int32 → AS → Option (Int32 × AS)} {r : Int32 × AS} {E : EV} (hE : TG E (some (.int r.1)) r.2) (hk24 : ∀ (l0 : Nat) (l1 : Int32) (l2 : Int32) (l3 : Int32) (s : AS), k24 l0 l1 l2 l3 s = some r → Z E yX5_driveTo cX5_driveTo 5 (some .int) 5 s 24 [(0, .ref l0), (1, .int l1), (2, .int l2), (3, .int l3)] []) (hq24 : ∀ (l0 : Nat) (l1 : Int32) (l2 : Int32) (l3 : Int32) (s : AS), k24 l0 l1 l2 l3 s = some r → Le s r.2) {l0 : Nat} {l1 : Int32} {l3 : Int32} {t0 : Int32} {s : AS} (hf : f_X5_driveTo_74 N k24 l0 l1 l3 t0 s = some r) : Z E yX5_driveTo cX5_driveTo 5 (some .int) 5 s 74 [(0, .ref l0), (1, .int l1), (3, .int l3)] [.int t0] := by
  unfold f_X5_driveTo_74 at hf
  refine z_istore_n [(2, .int t0), (0, .ref l0), (1, .int l1), (3, .int l3)] dX5_driveTo_74 rfl (by decide) rfl ?_
  refine z_iinc [(3, .int (l3 + 1)), (2, .int t0), (0, .ref l0), (1, .int l1)] 3 (l3 + 1) dX5_driveTo_75 rfl rfl (by decide) rfl ?_
  refine z_goto 24 dX5_driveTo_78 (by decide) ?_
  refine z_lv [(0, .ref l0), (1, .int l1), (2, .int t0), (3, .int (l3 + 1))] [2, 3, 1, 0] rfl ?_
  exact hk24 _ _ _ _ _ hf
set_option maxRecDepth 20000 in
theorem lg_X5_driveTo_24 {N : Nat} {r : Int32 × AS} {k24 : Nat → Int32 → Int32 → Int32 → AS → Option (Int32 × AS)}  (hk24 : ∀ (l0 : Nat) (l1 : Int32) (l2 : Int32) (l3 : Int32) (s : AS), k24 l0 l1 l2 l3 s = some r → Le s r.2) {l0 : Nat} {l1 : Int32} {l2 : Int32} {l3 : Int32} {s : AS} (hf : g_X5_driveTo_24 N k24 l0 l1 l2 l3 s = some r) : Le s r.2 := by
  unfold g_X5_driveTo_24 at hf
  refine ite_c hf (fun hf => ?_) (fun hf => ?_)
  · exact Le.via (le_X5_driveTo_81 hf) rfl
  · obtain ⟨v4, -, hf⟩ := ob hf
    refine ite_c hf (fun hf => ?_) (fun hf => ?_)
    · exact Le.via (le_X5_driveTo_81 hf) rfl
    · refine ite_c hf (fun hf => ?_) (fun hf => ?_)
      · exact Le.via (le_X5_driveTo_81 hf) rfl
      · obtain ⟨v5, -, hf⟩ := ob hf
        obtain ⟨v6, -, hf⟩ := ob hf
        obtain ⟨v7, -, hf⟩ := ob hf
        refine ite_c hf (fun hf => ?_) (fun hf => ?_)
        · obtain ⟨v8, ev8, hf⟩ := ob hf
          refine Le.of (t := (s.1, s.2)) rfl ((lm_X5_addDrive ev8).tr ?_)
          exact Le.via (le_X5_driveTo_74 hk24 hf) rfl
        · exact Le.via (le_X5_driveTo_74 hk24 hf) rfl
set_option maxRecDepth 20000 in
theorem le_X5_driveTo_24 {N : Nat} {r : Int32 × AS}  : ∀ (n : Nat) (l0 : Nat) (l1 : Int32) (l2 : Int32) (l3 : Int32) (s : AS), f_X5_driveTo_24 N n l0 l1 l2 l3 s = some r → Le s r.2 := by
  intro n
  induction n with
  | zero => intro l0 l1 l2 l3 s hf; cases hf
  | succ n ih => intro l0 l1 l2 l3 s hf; exact lg_X5_driveTo_24 ih hf
set_option maxRecDepth 20000 in
theorem zg_X5_driveTo_24 {N : Nat} {r : Int32 × AS} {k24 : Nat → Int32 → Int32 → Int32 → AS → Option (Int32 × AS)} {E : EV} (hE : TG E (some (.int r.1)) r.2)   (hk24 : ∀ (l0 : Nat) (l1 : Int32) (l2 : Int32) (l3 : Int32) (s : AS), k24 l0 l1 l2 l3 s = some r → Z E yX5_driveTo cX5_driveTo 5 (some .int) 5 s 24 [(0, .ref l0), (1, .int l1), (2, .int l2), (3, .int l3)] []) (hq24 : ∀ (l0 : Nat) (l1 : Int32) (l2 : Int32) (l3 : Int32) (s : AS), k24 l0 l1 l2 l3 s = some r → Le s r.2) {l0 : Nat} {l1 : Int32} {l2 : Int32} {l3 : Int32} {s : AS} (hf : g_X5_driveTo_24 N k24 l0 l1 l2 l3 s = some r) : Z E yX5_driveTo cX5_driveTo 5 (some .int) 5 s 24 [(0, .ref l0), (1, .int l1), (2, .int l2), (3, .int l3)] [] := by
  unfold g_X5_driveTo_24 at hf
  refine z_iload_n 3 dX5_driveTo_24 rfl rfl ?_
  refine z_bipush 60 60 dX5_driveTo_25 (by decide) ?_
  refine z_icmp_ge 81 hf dX5_driveTo_27 (by decide) (fun hf => ?_) (fun hf => ?_)
  · refine z_lv [(2, .int l2)] [2] rfl ?_
    exact zb_X5_driveTo_81 hE hf
  · refine z_aload_n 0 dX5_driveTo_30 rfl rfl ?_
    refine z_gI (ci := 5) (k := 12) (C := RX5) (T := TX5) (N := 13) rfl inlX5 (by decide) mw_6_3 (fun _ _ _ _ h9 => h9) hf (by decide) rfl dX5_driveTo_31  (fun v4 hf => ?_)
    refine z_iload_n 1 dX5_driveTo_34 rfl rfl ?_
    refine z_icmp_eq 81 hf dX5_driveTo_35 (by decide) (fun hf => ?_) (fun hf => ?_)
    · refine z_lv [(2, .int l2)] [2] rfl ?_
      exact zb_X5_driveTo_81 hE hf
    · refine z_iload_n 2 dX5_driveTo_38 rfl rfl ?_
      refine z_if_ne 81 hf dX5_driveTo_39 (by decide) (fun hf => ?_) (fun hf => ?_)
      · refine z_lv [(2, .int l2)] [2] rfl ?_
        exact zb_X5_driveTo_81 hE hf
      · refine z_aload_n 0 dX5_driveTo_42 rfl rfl ?_
        refine z_gP (ci := 5) (k := 1) (C := RX5) (T := TX5) (N := 13) rfl inlX5 (by decide) mw_6_5 (fun _ _ _ _ h9 => h9) hf (by decide) rfl dX5_driveTo_43  (fun v5 hf => ?_)
        refine z_aload_n 0 dX5_driveTo_46 rfl rfl ?_
        refine z_gI (ci := 5) (k := 12) (C := RX5) (T := TX5) (N := 13) rfl inlX5 (by decide) mw_6_3 (fun _ _ _ _ h9 => h9) hf (by decide) rfl dX5_driveTo_47  (fun v6 hf => ?_)
        refine z_iload_n 1 dX5_driveTo_50 rfl rfl ?_
        obtain ⟨v7, ev7, hf⟩ := ob hf
        refine z_cVi (ci := 10) (T := TX10) (N := 6) (As := [.int v6, .int l1]) (rest := []) (zm_X10_nextStreet ev7).2 (zm_X10_nextStreet ev7).1 (by decide) rfl (Or.inl rfl) mw_44_14 mw_18_21 mw_18_22 mw_1_23 mw_18_23 yk_X10_nextStreet (by decide) (by decide) rfl (Nat.le_of_ble_eq_true rfl) rfl dX5_driveTo_51 ?_
        refine z_istore [(4, .int v7), (0, .ref l0), (1, .int l1), (2, .int l2), (3, .int l3)] dX5_driveTo_54 (by decide) rfl ?_
        refine z_iload 0 dX5_driveTo_56 rfl ?_
        refine z_iconst (-1) (-1) dX5_driveTo_58 (by decide) ?_
        refine z_icmp_ne 67 hf dX5_driveTo_59 (by decide) (fun hf => ?_) (fun hf => ?_)
        · refine z_aload_n 1 dX5_driveTo_67 rfl rfl ?_
          refine z_iload 0 dX5_driveTo_68 rfl ?_
          refine z_iconst 0 0 dX5_driveTo_70 (by decide) ?_
          obtain ⟨v8, ev8, hf⟩ := ob hf
          refine z_cVi (ci := 5) (T := TX5) (N := 13) (As := [.int v7, .int (0 : Int32)]) (rest := []) (zm_X5_addDrive ev8).2 (zm_X5_addDrive ev8).1 (by decide) rfl (Or.inr (tg_le hE (le_X5_driveTo_74 hq24 hf))) mw_44_15 mw_44_16 mw_44_17 mw_2_7 mw_44_18 yk_X5_addDrive (by decide) (by decide) rfl (Nat.le_of_ble_eq_true rfl) rfl dX5_driveTo_71 ?_
          refine z_lv [(0, .ref l0), (1, .int l1), (3, .int l3)] [1, 2, 4] rfl ?_
          exact zb_X5_driveTo_74 hE hk24 hq24 hf
        · refine z_bipush (-8) (-8) dX5_driveTo_62 (by decide) ?_
          refine z_goto 74 dX5_driveTo_64 (by decide) ?_
          refine z_lv [(0, .ref l0), (1, .int l1), (3, .int l3)] [1, 2, 4] rfl ?_
          exact zb_X5_driveTo_74 hE hk24 hq24 hf
set_option maxRecDepth 20000 in
theorem zb_X5_driveTo_24 {N : Nat} {r : Int32 × AS} {E : EV} (hE : TG E (some (.int r.1)) r.2)   : ∀ (n : Nat) (l0 : Nat) (l1 : Int32) (l2 : Int32) (l3 : Int32) (s : AS), f_X5_driveTo_24 N n l0 l1 l2 l3 s = some r → Z E yX5_driveTo cX5_driveTo 5 (some .int) 5 s 24 [(0, .ref l0), (1, .int l1), (2, .int l2), (3, .int l3)] [] := by
  intro n
  induction n with
  | zero => intro l0 l1 l2 l3 s hf; cases hf
  | succ n ih => intro l0 l1 l2 l3 s hf; exact zg_X5_driveTo_24 hE ih (le_X5_driveTo_24 n) hf
set_option maxRecDepth 20000 in
theorem lm_X5_driveTo {N : Nat} {s : AS} {l0 : Nat} {l1 : Int32} {r : Int32 × AS} (hf : f_X5_driveTo N l0 l1 s = some r) : Le s r.2 := by
  unfold f_X5_driveTo at hf
  refine ite_c hf (fun hf => ?_) (fun hf => ?_)
  · skip
    obtain ⟨v1, -, hf⟩ := ob hf
    obtain ⟨v2, -, hf⟩ := ob hf
    obtain ⟨v3, -, hf⟩ := ob hf
    refine ite_c hf (fun hf => ?_) (fun hf => ?_)
    · exact Le.via (le_X5_driveTo_24 N _ _ _ _ _ hf) rfl
    · cases hf
      exact Le.rf
  · cases hf
set_option maxRecDepth 20000 in
theorem zm_X5_driveTo {N : Nat} {s : AS} {l0 : Nat} {l1 : Int32} {r : Int32 × AS} (hf : f_X5_driveTo N l0 l1 s = some r) : isO s.1 l0 5 ∧ ∀ (l : Launch) (G : GG), Mt l G yX5_driveTo cX5_driveTo 5 (some .int) 5 [.ref l0, .int l1] s (some (.int r.1)) r.2 := by
  have hf0 := hf
  unfold f_X5_driveTo at hf
  refine ite_d hf (fun hO hf => ?_) (fun _ hf => ?_)
  · refine ⟨hO, fun l G => mt_of (Or.inl (by decide)) (Nat.le_of_ble_eq_true rfl) (lm_X5_driveTo hf0) (fun E hE => ?_)⟩
    show Z E yX5_driveTo cX5_driveTo 5 (some .int) 5 s 0 [(0, .ref l0), (1, .int l1)] []
    refine z_aload_n 0 dX5_driveTo_0 rfl rfl ?_
    refine z_gP (ci := 5) (k := 1) (C := RX5) (T := TX5) (N := 13) rfl inlX5 (by decide) mw_6_5 (fun _ _ _ _ h9 => h9) hf (by decide) rfl dX5_driveTo_1  (fun v1 hf => ?_)
    refine z_aload_n 0 dX5_driveTo_4 rfl rfl ?_
    refine z_gI (ci := 5) (k := 12) (C := RX5) (T := TX5) (N := 13) rfl inlX5 (by decide) mw_6_3 (fun _ _ _ _ h9 => h9) hf (by decide) rfl dX5_driveTo_5  (fun v2 hf => ?_)
    refine z_iload_n 1 dX5_driveTo_8 rfl rfl ?_
    obtain ⟨v3, ev3, hf⟩ := ob hf
    refine z_cVi (ci := 10) (T := TX10) (N := 6) (As := [.int v2, .int l1]) (rest := []) (zm_X10_between ev3).2 (zm_X10_between ev3).1 (by decide) rfl (Or.inl rfl) mw_44_9 mw_17_12 mw_17_13 mw_1_23 mw_17_14 yk_X10_between (by decide) (by decide) rfl (Nat.le_of_ble_eq_true rfl) rfl dX5_driveTo_9 ?_
    refine z_ldc mw_44_8 dX5_driveTo_12 ?_
    refine z_icmp_lt 20 hf dX5_driveTo_14 (by decide) (fun hf => ?_) (fun hf => ?_)
    · refine z_iconst 0 0 dX5_driveTo_20 (by decide) ?_
      refine z_istore_n [(2, .int (0 : Int32)), (0, .ref l0), (1, .int l1)] dX5_driveTo_21 rfl (by decide) rfl ?_
      refine z_iconst 0 0 dX5_driveTo_22 (by decide) ?_
      refine z_istore_n [(3, .int (0 : Int32)), (2, .int (0 : Int32)), (0, .ref l0), (1, .int l1)] dX5_driveTo_23 rfl (by decide) rfl ?_
      refine z_lv [(0, .ref l0), (1, .int l1), (2, .int (0 : Int32)), (3, .int (0 : Int32))] [2, 3, 1, 0] rfl ?_
      exact zb_X5_driveTo_24 hE N _ _ _ _ _ hf
    · refine z_bipush (-8) (-8) dX5_driveTo_17 (by decide) ?_
      cases hf
      exact z_ireturn hE rfl dX5_driveTo_19
  · cases hf
set_option maxRecDepth 20000 in
theorem le_X5_planOneWays_139 {N : Nat} {r : Int32 × AS}  {t0 : Int32} {s : AS} (hf : f_X5_planOneWays_139 N t0 s = some r) : Le s r.2 := by
  unfold f_X5_planOneWays_139 at hf
  cases hf
  exact Le.rf
set_option maxRecDepth 20000 in
theorem zb_X5_planOneWays_139 {N : Nat} {r : Int32 × AS} {E : EV} (hE : TG E (some (.int r.1)) r.2)   {t0 : Int32} {s : AS} (hf : f_X5_planOneWays_139 N t0 s = some r) : Z E yX5_planOneWays cX5_planOneWays 6 (some .int) 6 s 139 [] [.int t0] := by
  unfold f_X5_planOneWays_139 at hf
  cases hf
  exact z_ireturn hE rfl dX5_planOneWays_139
set_option maxRecDepth 20000 in
theorem le_X5_planOneWays_126 {N : Nat} {r : Int32 × AS}  {l0 : Nat} {l2 : Int32} {s : AS} (hf : f_X5_planOneWays_126 N l0 l2 s = some r) : Le s r.2 := by
  unfold f_X5_planOneWays_126 at hf
  refine ite_c hf (fun hf => ?_) (fun hf => ?_)
  · obtain ⟨v15, ev15, hf⟩ := ob hf
    refine Le.of (t := (s.1, s.2)) rfl ((lm_X5_driveTo ev15).tr ?_)
    exact Le.via (le_X5_planOneWays_139 hf) rfl
  · exact Le.via (le_X5_planOneWays_139 hf) rfl
set_option maxRecDepth 20000 in
theorem zb_X5_planOneWays_126 {N : Nat} {r : Int32 × AS} {E : EV} (hE : TG E (some (.int r.1)) r.2)   {l0 : Nat} {l2 : Int32} {s : AS} (hf : f_X5_planOneWays_126 N l0 l2 s = some r) : Z E yX5_planOneWays cX5_planOneWays 6 (some .int) 6 s 126 [(0, .ref l0), (2, .int l2)] [] := by
  unfold f_X5_planOneWays_126 at hf
  refine z_iload_n 1 dX5_planOneWays_126 rfl rfl ?_
  refine z_if_eq 134 hf dX5_planOneWays_127 (by decide) (fun hf => ?_) (fun hf => ?_)
  · refine z_aload_n 0 dX5_planOneWays_134 rfl rfl ?_
    refine z_iconst 0 0 dX5_planOneWays_135 (by decide) ?_
    obtain ⟨v15, ev15, hf⟩ := ob hf
    refine z_cVi (ci := 5) (T := TX5) (N := 13) (As := [.int (0 : Int32)]) (rest := []) (zm_X5_driveTo ev15).2 (zm_X5_driveTo ev15).1 (by decide) rfl (Or.inr (tg_le hE (le_X5_planOneWays_139 hf))) mw_44_10 mw_44_11 mw_44_12 mw_2_7 mw_44_13 yk_X5_driveTo (by decide) (by decide) rfl (Nat.le_of_ble_eq_true rfl) rfl dX5_planOneWays_136 ?_
    refine z_lv [] [] rfl ?_
    exact zb_X5_planOneWays_139 hE hf
  · refine z_iload_n 1 dX5_planOneWays_130 rfl rfl ?_
    refine z_goto 139 dX5_planOneWays_131 (by decide) ?_
    refine z_lv [] [] rfl ?_
    exact zb_X5_planOneWays_139 hE hf
set_option maxRecDepth 20000 in
theorem le_X5_planOneWays_120 {N : Nat} {k49 : Nat → Int32 → Int32 → Int32 → AS → Option (Int32 × AS)} {r : Int32 × AS} (hk49 : ∀ (l0 : Nat) (l1 : Int32) (l2 : Int32) (l3 : Int32) (s : AS), k49 l0 l1 l2 l3 s = some r → Le s r.2) {l0 : Nat} {l1 : Int32} {l2 : Int32} {l3 : Int32} {s : AS} (hf : f_X5_planOneWays_120 N k49 l0 l1 l2 l3 s = some r) : Le s r.2 := by
  unfold f_X5_planOneWays_120 at hf
  exact Le.via (hk49 _ _ _ _ _ hf) rfl
set_option maxRecDepth 20000 in
theorem zb_X5_planOneWays_120 {N : Nat} {k49 : Nat → Int32 → Int32 → Int32 → AS → Option (Int32 × AS)} {r : Int32 × AS} {E : EV} (hE : TG E (some (.int r.1)) r.2) (hk49 : ∀ (l0 : Nat) (l1 : Int32) (l2 : Int32) (l3 : Int32) (s : AS), k49 l0 l1 l2 l3 s = some r → Z E yX5_planOneWays cX5_planOneWays 6 (some .int) 6 s 49 [(0, .ref l0), (1, .int l1), (2, .int l2), (3, .int l3)] []) (hq49 : ∀ (l0 : Nat) (l1 : Int32) (l2 : Int32) (l3 : Int32) (s : AS), k49 l0 l1 l2 l3 s = some r → Le s r.2) {l0 : Nat} {l1 : Int32} {l2 : Int32} {l3 : Int32} {s : AS} (hf : f_X5_planOneWays_120 N k49 l0 l1 l2 l3 s = some r) : Z E yX5_planOneWays cX5_planOneWays 6 (some .int) 6 s 120 [(0, .ref l0), (1, .int l1), (2, .int l2), (3, .int l3)] [] := by
  unfold f_X5_planOneWays_120 at hf
  refine z_iinc [(3, .int (l3 + 1)), (0, .ref l0), (1, .int l1), (2, .int l2)] 3 (l3 + 1) dX5_planOneWays_120 rfl rfl (by decide) rfl ?_
  refine z_goto 49 dX5_planOneWays_123 (by decide) ?_
  refine z_lv [(0, .ref l0), (1, .int l1), (2, .int l2), (3, .int (l3 + 1))] [1, 2, 3, 0] rfl ?_
  exact hk49 _ _ _ _ _ hf
set_option maxRecDepth 20000 in
theorem le_X5_planOneWays_119 {N : Nat} {k49 : Nat → Int32 → Int32 → Int32 → AS → Option (Int32 × AS)} {r : Int32 × AS} (hk49 : ∀ (l0 : Nat) (l1 : Int32) (l2 : Int32) (l3 : Int32) (s : AS), k49 l0 l1 l2 l3 s = some r → Le s r.2) {l0 : Nat} {l1 : Int32} {l3 : Int32} {t0 : Int32} {s : AS} (hf : f_X5_planOneWays_119 N k49 l0 l1 l3 t0 s = some r) : Le s r.2 := by
  unfold f_X5_planOneWays_119 at hf
  exact Le.via (le_X5_planOneWays_120 hk49 hf) rfl
set_option maxRecDepth 20000 in
theorem zb_X5_planOneWays_119 {N : Nat} {k49 : Nat → Int32 → Int32 → Int32 → AS → Option (Int32 × AS)} {r : Int32 × AS} {E : EV} (hE : TG E (some (.int r.1)) r.2) (hk49 : ∀ (l0 : Nat) (l1 : Int32) (l2 : Int32) (l3 : Int32) (s : AS), k49 l0 l1 l2 l3 s = some r → Z E yX5_planOneWays cX5_planOneWays 6 (some .int) 6 s 49 [(0, .ref l0), (1, .int l1), (2, .int l2), (3, .int l3)] []) (hq49 : ∀ (l0 : Nat) (l1 : Int32) (l2 : Int32) (l3 : Int32) (s : AS), k49 l0 l1 l2 l3 s = some r → Le s r.2) {l0 : Nat} {l1 : Int32} {l3 : Int32} {t0 : Int32} {s : AS} (hf : f_X5_planOneWays_119 N k49 l0 l1 l3 t0 s = some r) : Z E yX5_planOneWays cX5_planOneWays 6 (some .int) 6 s 119 [(0, .ref l0), (1, .int l1), (3, .int l3)] [.int t0] := by
  unfold f_X5_planOneWays_119 at hf
  refine z_istore_n [(2, .int t0), (0, .ref l0), (1, .int l1), (3, .int l3)] dX5_planOneWays_119 rfl (by decide) rfl ?_
  refine z_lv [(0, .ref l0), (1, .int l1), (2, .int t0), (3, .int l3)] [1, 2, 0, 3] rfl ?_
  exact zb_X5_planOneWays_120 hE hk49 hq49 hf
set_option maxRecDepth 20000 in
theorem le_X5_planOneWays_107 {N : Nat} {k49 : Nat → Int32 → Int32 → Int32 → AS → Option (Int32 × AS)} {r : Int32 × AS} (hk49 : ∀ (l0 : Nat) (l1 : Int32) (l2 : Int32) (l3 : Int32) (s : AS), k49 l0 l1 l2 l3 s = some r → Le s r.2) {l0 : Nat} {l1 : Int32} {l3 : Int32} {l5 : Int32} {t0 : Int32} {s : AS} (hf : f_X5_planOneWays_107 N k49 l0 l1 l3 l5 t0 s = some r) : Le s r.2 := by
  unfold f_X5_planOneWays_107 at hf
  refine ite_c hf (fun hf => ?_) (fun hf => ?_)
  · exact Le.via (le_X5_planOneWays_120 hk49 hf) rfl
  · obtain ⟨v17, ev17, hf⟩ := ob hf
    refine Le.of (t := (s.1, s.2)) rfl ((lm_X5_addDrive ev17).tr ?_)
    exact Le.via (le_X5_planOneWays_119 hk49 hf) rfl
set_option maxRecDepth 20000 in
theorem zb_X5_planOneWays_107 {N : Nat} {k49 : Nat → Int32 → Int32 → Int32 → AS → Option (Int32 × AS)} {r : Int32 × AS} {E : EV} (hE : TG E (some (.int r.1)) r.2) (hk49 : ∀ (l0 : Nat) (l1 : Int32) (l2 : Int32) (l3 : Int32) (s : AS), k49 l0 l1 l2 l3 s = some r → Z E yX5_planOneWays cX5_planOneWays 6 (some .int) 6 s 49 [(0, .ref l0), (1, .int l1), (2, .int l2), (3, .int l3)] []) (hq49 : ∀ (l0 : Nat) (l1 : Int32) (l2 : Int32) (l3 : Int32) (s : AS), k49 l0 l1 l2 l3 s = some r → Le s r.2) {l0 : Nat} {l1 : Int32} {l3 : Int32} {l5 : Int32} {t0 : Int32} {s : AS} (hf : f_X5_planOneWays_107 N k49 l0 l1 l3 l5 t0 s = some r) : Z E yX5_planOneWays cX5_planOneWays 6 (some .int) 6 s 107 [(0, .ref l0), (1, .int l1), (3, .int l3), (5, .int l5)] [.int t0] := by
  unfold f_X5_planOneWays_107 at hf
  refine z_istore_n [(2, .int t0), (0, .ref l0), (1, .int l1), (3, .int l3), (5, .int l5)] dX5_planOneWays_107 rfl (by decide) rfl ?_
  refine z_iload_n 0 dX5_planOneWays_108 rfl rfl ?_
  refine z_if_ne 120 hf dX5_planOneWays_109 (by decide) (fun hf => ?_) (fun hf => ?_)
  · refine z_lv [(0, .ref l0), (1, .int l1), (2, .int t0), (3, .int l3)] [1, 2, 0, 3] rfl ?_
    exact zb_X5_planOneWays_120 hE hk49 hq49 hf
  · refine z_aload_n 1 dX5_planOneWays_112 rfl rfl ?_
    refine z_iload 4 dX5_planOneWays_113 rfl ?_
    refine z_iconst 1 1 dX5_planOneWays_115 (by decide) ?_
    obtain ⟨v17, ev17, hf⟩ := ob hf
    refine z_cVi (ci := 5) (T := TX5) (N := 13) (As := [.int l5, .int (1 : Int32)]) (rest := []) (zm_X5_addDrive ev17).2 (zm_X5_addDrive ev17).1 (by decide) rfl (Or.inr (tg_le hE (le_X5_planOneWays_119 hq49 hf))) mw_44_15 mw_44_16 mw_44_17 mw_2_7 mw_44_18 yk_X5_addDrive (by decide) (by decide) rfl (Nat.le_of_ble_eq_true rfl) rfl dX5_planOneWays_116 ?_
    refine z_lv [(0, .ref l0), (1, .int l1), (3, .int l3)] [1, 2, 3] rfl ?_
    exact zb_X5_planOneWays_119 hE hk49 hq49 hf
set_option maxRecDepth 20000 in
theorem le_X5_planOneWays_104 {N : Nat} {k49 : Nat → Int32 → Int32 → Int32 → AS → Option (Int32 × AS)} {r : Int32 × AS} (hk49 : ∀ (l0 : Nat) (l1 : Int32) (l2 : Int32) (l3 : Int32) (s : AS), k49 l0 l1 l2 l3 s = some r → Le s r.2) {l0 : Nat} {l1 : Int32} {l3 : Int32} {l5 : Int32} {t0 : Nat} {t1 : Int32} {s : AS} (hf : f_X5_planOneWays_104 N k49 l0 l1 l3 l5 t0 t1 s = some r) : Le s r.2 := by
  unfold f_X5_planOneWays_104 at hf
  obtain ⟨v16, ev16, hf⟩ := ob hf
  refine Le.of (t := (s.1, s.2)) rfl ((lm_X5_driveTo ev16).tr ?_)
  exact Le.via (le_X5_planOneWays_107 hk49 hf) rfl
set_option maxRecDepth 20000 in
theorem zb_X5_planOneWays_104 {N : Nat} {k49 : Nat → Int32 → Int32 → Int32 → AS → Option (Int32 × AS)} {r : Int32 × AS} {E : EV} (hE : TG E (some (.int r.1)) r.2) (hk49 : ∀ (l0 : Nat) (l1 : Int32) (l2 : Int32) (l3 : Int32) (s : AS), k49 l0 l1 l2 l3 s = some r → Z E yX5_planOneWays cX5_planOneWays 6 (some .int) 6 s 49 [(0, .ref l0), (1, .int l1), (2, .int l2), (3, .int l3)] []) (hq49 : ∀ (l0 : Nat) (l1 : Int32) (l2 : Int32) (l3 : Int32) (s : AS), k49 l0 l1 l2 l3 s = some r → Le s r.2) {l0 : Nat} {l1 : Int32} {l3 : Int32} {l5 : Int32} {t0 : Nat} {t1 : Int32} {s : AS} (hf : f_X5_planOneWays_104 N k49 l0 l1 l3 l5 t0 t1 s = some r) : Z E yX5_planOneWays cX5_planOneWays 6 (some .int) 6 s 104 [(0, .ref l0), (1, .int l1), (3, .int l3), (5, .int l5)] [.int t1, .ref t0] := by
  unfold f_X5_planOneWays_104 at hf
  obtain ⟨v16, ev16, hf⟩ := ob hf
  refine z_cVi (ci := 5) (T := TX5) (N := 13) (As := [.int t1]) (rest := []) (zm_X5_driveTo ev16).2 (zm_X5_driveTo ev16).1 (by decide) rfl (Or.inr (tg_le hE (le_X5_planOneWays_107 hq49 hf))) mw_44_10 mw_44_11 mw_44_12 mw_2_7 mw_44_13 yk_X5_driveTo (by decide) (by decide) rfl (Nat.le_of_ble_eq_true rfl) rfl dX5_planOneWays_104 ?_
  exact zb_X5_planOneWays_107 hE hk49 hq49 hf
set_option maxRecDepth 20000 in
theorem le_X5_planOneWays_70 {N : Nat} {r : Int32 × AS}   {s : AS} (hf : f_X5_planOneWays_70 N  s = some r) : Le s r.2 := by
  unfold f_X5_planOneWays_70 at hf
  cases hf
  exact Le.rf
set_option maxRecDepth 20000 in
theorem zb_X5_planOneWays_70 {N : Nat} {r : Int32 × AS} {E : EV} (hE : TG E (some (.int r.1)) r.2)    {s : AS} (hf : f_X5_planOneWays_70 N  s = some r) : Z E yX5_planOneWays cX5_planOneWays 6 (some .int) 6 s 70 [] [] := by
  unfold f_X5_planOneWays_70 at hf
  refine z_bipush (-8) (-8) dX5_planOneWays_70 (by decide) ?_
  cases hf
  exact z_ireturn hE rfl dX5_planOneWays_72
set_option maxRecDepth 20000 in
theorem lg_X5_planOneWays_49 {N : Nat} {r : Int32 × AS} {k49 : Nat → Int32 → Int32 → Int32 → AS → Option (Int32 × AS)}  (hk49 : ∀ (l0 : Nat) (l1 : Int32) (l2 : Int32) (l3 : Int32) (s : AS), k49 l0 l1 l2 l3 s = some r → Le s r.2) {l0 : Nat} {l1 : Int32} {l2 : Int32} {l3 : Int32} {s : AS} (hf : g_X5_planOneWays_49 N k49 l0 l1 l2 l3 s = some r) : Le s r.2 := by
  unfold g_X5_planOneWays_49 at hf
  refine ite_c hf (fun hf => ?_) (fun hf => ?_)
  · exact Le.via (le_X5_planOneWays_126 hf) rfl
  · refine ite_c hf (fun hf => ?_) (fun hf => ?_)
    · exact Le.via (le_X5_planOneWays_126 hf) rfl
    · obtain ⟨v8, -, hf⟩ := ob hf
      refine ite_c hf (fun hf => ?_) (fun hf => ?_)
      · obtain ⟨v9, -, hf⟩ := ob hf
        obtain ⟨v10, -, hf⟩ := ob hf
        refine ite_c hf (fun hf => ?_) (fun hf => ?_)
        · obtain ⟨v11, -, hf⟩ := ob hf
          obtain ⟨v12, -, hf⟩ := ob hf
          exact Le.via (le_X5_planOneWays_104 hk49 hf) rfl
        · obtain ⟨v13, -, hf⟩ := ob hf
          obtain ⟨v14, -, hf⟩ := ob hf
          exact Le.via (le_X5_planOneWays_104 hk49 hf) rfl
      · exact Le.via (le_X5_planOneWays_70 hf) rfl
set_option maxRecDepth 20000 in
theorem le_X5_planOneWays_49 {N : Nat} {r : Int32 × AS}  : ∀ (n : Nat) (l0 : Nat) (l1 : Int32) (l2 : Int32) (l3 : Int32) (s : AS), f_X5_planOneWays_49 N n l0 l1 l2 l3 s = some r → Le s r.2 := by
  intro n
  induction n with
  | zero => intro l0 l1 l2 l3 s hf; cases hf
  | succ n ih => intro l0 l1 l2 l3 s hf; exact lg_X5_planOneWays_49 ih hf
set_option maxRecDepth 20000 in
theorem zg_X5_planOneWays_49 {N : Nat} {r : Int32 × AS} {k49 : Nat → Int32 → Int32 → Int32 → AS → Option (Int32 × AS)} {E : EV} (hE : TG E (some (.int r.1)) r.2)   (hk49 : ∀ (l0 : Nat) (l1 : Int32) (l2 : Int32) (l3 : Int32) (s : AS), k49 l0 l1 l2 l3 s = some r → Z E yX5_planOneWays cX5_planOneWays 6 (some .int) 6 s 49 [(0, .ref l0), (1, .int l1), (2, .int l2), (3, .int l3)] []) (hq49 : ∀ (l0 : Nat) (l1 : Int32) (l2 : Int32) (l3 : Int32) (s : AS), k49 l0 l1 l2 l3 s = some r → Le s r.2) {l0 : Nat} {l1 : Int32} {l2 : Int32} {l3 : Int32} {s : AS} (hf : g_X5_planOneWays_49 N k49 l0 l1 l2 l3 s = some r) : Z E yX5_planOneWays cX5_planOneWays 6 (some .int) 6 s 49 [(0, .ref l0), (1, .int l1), (2, .int l2), (3, .int l3)] [] := by
  unfold g_X5_planOneWays_49 at hf
  refine z_iload_n 3 dX5_planOneWays_49 rfl rfl ?_
  refine z_iload_n 1 dX5_planOneWays_50 rfl rfl ?_
  refine z_icmp_ge 126 hf dX5_planOneWays_51 (by decide) (fun hf => ?_) (fun hf => ?_)
  · refine z_lv [(0, .ref l0), (2, .int l2)] [0, 2] rfl ?_
    exact zb_X5_planOneWays_126 hE hf
  · refine z_iload_n 2 dX5_planOneWays_54 rfl rfl ?_
    refine z_if_ne 126 hf dX5_planOneWays_55 (by decide) (fun hf => ?_) (fun hf => ?_)
    · refine z_lv [(0, .ref l0), (2, .int l2)] [0, 2] rfl ?_
      exact zb_X5_planOneWays_126 hE hf
    · refine z_aload_n 0 dX5_planOneWays_58 rfl rfl ?_
      obtain ⟨v8, ev8, hf⟩ := ob hf
      refine z_cVi (ci := 5) (T := TX5) (N := 13) (As := []) (rest := []) (zm_X5_nearestStart ev8).2 (zm_X5_nearestStart ev8).1 (by decide) rfl (Or.inl rfl) mw_44_4 mw_44_5 mw_44_6 mw_2_7 mw_44_7 yk_X5_nearestStart (by decide) (by decide) rfl (Nat.le_of_ble_eq_true rfl) rfl dX5_planOneWays_59 ?_
      refine z_istore [(4, .int v8), (0, .ref l0), (1, .int l1), (2, .int l2), (3, .int l3)] dX5_planOneWays_62 (by decide) rfl ?_
      refine z_iload 0 dX5_planOneWays_64 rfl ?_
      refine z_iconst (-1) (-1) dX5_planOneWays_66 (by decide) ?_
      refine z_icmp_ne 73 hf dX5_planOneWays_67 (by decide) (fun hf => ?_) (fun hf => ?_)
      · refine z_iload 0 dX5_planOneWays_73 rfl ?_
        refine z_iconst 2 2 dX5_planOneWays_75 (by decide) ?_
        refine z_idiv hf dX5_planOneWays_76  (fun v9 hf => ?_)
        refine z_istore [(5, .int v9), (4, .int v8), (0, .ref l0), (1, .int l1), (2, .int l2), (3, .int l3)] dX5_planOneWays_77 (by decide) rfl ?_
        refine z_aload_n 2 dX5_planOneWays_79 rfl rfl ?_
        refine z_iload 1 dX5_planOneWays_80 rfl ?_
        refine z_iconst 2 2 dX5_planOneWays_82 (by decide) ?_
        refine z_irem hf dX5_planOneWays_83  (fun v10 hf => ?_)
        refine z_if_ne 97 hf dX5_planOneWays_84 (by decide) (fun hf => ?_) (fun hf => ?_)
        · refine z_aload_n 2 dX5_planOneWays_97 rfl rfl ?_
          refine z_gP (ci := 5) (k := 7) (C := RX5) (T := TX5) (N := 13) rfl inlX5 (by decide) mw_5_22 (fun _ _ _ _ h9 => h9) hf (by decide) rfl dX5_planOneWays_98  (fun v11 hf => ?_)
          refine z_iload 0 dX5_planOneWays_101 rfl ?_
          refine z_aI hf dX5_planOneWays_103  (fun v12 hf => ?_)
          refine z_lv [(0, .ref l0), (1, .int l1), (3, .int l3), (5, .int v9)] [2, 3, 5, 0] rfl ?_
          exact zb_X5_planOneWays_104 hE hk49 hq49 hf
        · refine z_aload_n 2 dX5_planOneWays_87 rfl rfl ?_
          refine z_gP (ci := 5) (k := 6) (C := RX5) (T := TX5) (N := 13) rfl inlX5 (by decide) mw_5_21 (fun _ _ _ _ h9 => h9) hf (by decide) rfl dX5_planOneWays_88  (fun v13 hf => ?_)
          refine z_iload 0 dX5_planOneWays_91 rfl ?_
          refine z_aI hf dX5_planOneWays_93  (fun v14 hf => ?_)
          refine z_goto 104 dX5_planOneWays_94 (by decide) ?_
          refine z_lv [(0, .ref l0), (1, .int l1), (3, .int l3), (5, .int v9)] [2, 3, 5, 0] rfl ?_
          exact zb_X5_planOneWays_104 hE hk49 hq49 hf
      · refine z_lv [] [] rfl ?_
        exact zb_X5_planOneWays_70 hE hf
set_option maxRecDepth 20000 in
theorem zb_X5_planOneWays_49 {N : Nat} {r : Int32 × AS} {E : EV} (hE : TG E (some (.int r.1)) r.2)   : ∀ (n : Nat) (l0 : Nat) (l1 : Int32) (l2 : Int32) (l3 : Int32) (s : AS), f_X5_planOneWays_49 N n l0 l1 l2 l3 s = some r → Z E yX5_planOneWays cX5_planOneWays 6 (some .int) 6 s 49 [(0, .ref l0), (1, .int l1), (2, .int l2), (3, .int l3)] [] := by
  intro n
  induction n with
  | zero => intro l0 l1 l2 l3 s hf; cases hf
  | succ n ih => intro l0 l1 l2 l3 s hf; exact zg_X5_planOneWays_49 hE ih (le_X5_planOneWays_49 n) hf
set_option maxRecDepth 20000 in
theorem le_X5_planOneWays_45 {N : Nat} {r : Int32 × AS}  {l0 : Nat} {l1 : Int32} {s : AS} (hf : f_X5_planOneWays_45 N l0 l1 s = some r) : Le s r.2 := by
  unfold f_X5_planOneWays_45 at hf
  exact Le.via (le_X5_planOneWays_49 N _ _ _ _ _ hf) rfl
set_option maxRecDepth 20000 in
theorem zb_X5_planOneWays_45 {N : Nat} {r : Int32 × AS} {E : EV} (hE : TG E (some (.int r.1)) r.2)   {l0 : Nat} {l1 : Int32} {s : AS} (hf : f_X5_planOneWays_45 N l0 l1 s = some r) : Z E yX5_planOneWays cX5_planOneWays 6 (some .int) 6 s 45 [(0, .ref l0), (1, .int l1)] [] := by
  unfold f_X5_planOneWays_45 at hf
  refine z_iconst 0 0 dX5_planOneWays_45 (by decide) ?_
  refine z_istore_n [(2, .int (0 : Int32)), (0, .ref l0), (1, .int l1)] dX5_planOneWays_46 rfl (by decide) rfl ?_
  refine z_iconst 0 0 dX5_planOneWays_47 (by decide) ?_
  refine z_istore_n [(3, .int (0 : Int32)), (2, .int (0 : Int32)), (0, .ref l0), (1, .int l1)] dX5_planOneWays_48 rfl (by decide) rfl ?_
  refine z_lv [(0, .ref l0), (1, .int l1), (2, .int (0 : Int32)), (3, .int (0 : Int32))] [2, 3, 1, 0] rfl ?_
  exact zb_X5_planOneWays_49 hE N _ _ _ _ _ hf
set_option maxRecDepth 20000 in
theorem lg_X5_planOneWays_22 {N : Nat} {r : Int32 × AS} {k22 : Nat → Int32 → Int32 → AS → Option (Int32 × AS)}  (hk22 : ∀ (l0 : Nat) (l1 : Int32) (l2 : Int32) (s : AS), k22 l0 l1 l2 s = some r → Le s r.2) {l0 : Nat} {l1 : Int32} {l2 : Int32} {s : AS} (hf : g_X5_planOneWays_22 N k22 l0 l1 l2 s = some r) : Le s r.2 := by
  unfold g_X5_planOneWays_22 at hf
  obtain ⟨v5, -, hf⟩ := ob hf
  refine ite_c hf (fun hf => ?_) (fun hf => ?_)
  · exact Le.via (le_X5_planOneWays_45 hf) rfl
  · obtain ⟨v6, -, hf⟩ := ob hf
    obtain ⟨v7, -, hf⟩ := ob hf
    exact Le.via (hk22 _ _ _ _ hf) rfl
set_option maxRecDepth 20000 in
theorem le_X5_planOneWays_22 {N : Nat} {r : Int32 × AS}  : ∀ (n : Nat) (l0 : Nat) (l1 : Int32) (l2 : Int32) (s : AS), f_X5_planOneWays_22 N n l0 l1 l2 s = some r → Le s r.2 := by
  intro n
  induction n with
  | zero => intro l0 l1 l2 s hf; cases hf
  | succ n ih => intro l0 l1 l2 s hf; exact lg_X5_planOneWays_22 ih hf
set_option maxRecDepth 20000 in
theorem zg_X5_planOneWays_22 {N : Nat} {r : Int32 × AS} {k22 : Nat → Int32 → Int32 → AS → Option (Int32 × AS)} {E : EV} (hE : TG E (some (.int r.1)) r.2)   (hk22 : ∀ (l0 : Nat) (l1 : Int32) (l2 : Int32) (s : AS), k22 l0 l1 l2 s = some r → Z E yX5_planOneWays cX5_planOneWays 6 (some .int) 6 s 22 [(0, .ref l0), (1, .int l1), (2, .int l2)] []) (hq22 : ∀ (l0 : Nat) (l1 : Int32) (l2 : Int32) (s : AS), k22 l0 l1 l2 s = some r → Le s r.2) {l0 : Nat} {l1 : Int32} {l2 : Int32} {s : AS} (hf : g_X5_planOneWays_22 N k22 l0 l1 l2 s = some r) : Z E yX5_planOneWays cX5_planOneWays 6 (some .int) 6 s 22 [(0, .ref l0), (1, .int l1), (2, .int l2)] [] := by
  unfold g_X5_planOneWays_22 at hf
  refine z_iload_n 2 dX5_planOneWays_22 rfl rfl ?_
  refine z_aload_n 0 dX5_planOneWays_23 rfl rfl ?_
  refine z_gI (ci := 5) (k := 8) (C := RX5) (T := TX5) (N := 13) rfl inlX5 (by decide) mw_5_23 (fun _ _ _ _ h9 => h9) hf (by decide) rfl dX5_planOneWays_24  (fun v5 hf => ?_)
  refine z_icmp_ge 45 hf dX5_planOneWays_27 (by decide) (fun hf => ?_) (fun hf => ?_)
  · refine z_lv [(0, .ref l0), (1, .int l1)] [0, 1] rfl ?_
    exact zb_X5_planOneWays_45 hE hf
  · refine z_iload_n 1 dX5_planOneWays_30 rfl rfl ?_
    refine z_aload_n 0 dX5_planOneWays_31 rfl rfl ?_
    refine z_gP (ci := 5) (k := 10) (C := RX5) (T := TX5) (N := 13) rfl inlX5 (by decide) mw_6_1 (fun _ _ _ _ h9 => h9) hf (by decide) rfl dX5_planOneWays_32  (fun v6 hf => ?_)
    refine z_iload_n 2 dX5_planOneWays_35 rfl rfl ?_
    refine z_aI hf dX5_planOneWays_36  (fun v7 hf => ?_)
    refine z_iadd dX5_planOneWays_37 ?_
    refine z_istore_n [(1, .int (l1 + v7)), (0, .ref l0), (2, .int l2)] dX5_planOneWays_38 rfl (by decide) rfl ?_
    refine z_iinc [(2, .int (l2 + 1)), (1, .int (l1 + v7)), (0, .ref l0)] 2 (l2 + 1) dX5_planOneWays_39 rfl rfl (by decide) rfl ?_
    refine z_goto 22 dX5_planOneWays_42 (by decide) ?_
    refine z_lv [(0, .ref l0), (1, .int (l1 + v7)), (2, .int (l2 + 1))] [2, 1, 0] rfl ?_
    exact hk22 _ _ _ _ hf
set_option maxRecDepth 20000 in
theorem zb_X5_planOneWays_22 {N : Nat} {r : Int32 × AS} {E : EV} (hE : TG E (some (.int r.1)) r.2)   : ∀ (n : Nat) (l0 : Nat) (l1 : Int32) (l2 : Int32) (s : AS), f_X5_planOneWays_22 N n l0 l1 l2 s = some r → Z E yX5_planOneWays cX5_planOneWays 6 (some .int) 6 s 22 [(0, .ref l0), (1, .int l1), (2, .int l2)] [] := by
  intro n
  induction n with
  | zero => intro l0 l1 l2 s hf; cases hf
  | succ n ih => intro l0 l1 l2 s hf; exact zg_X5_planOneWays_22 hE ih (le_X5_planOneWays_22 n) hf
set_option maxRecDepth 20000 in
theorem lm_X5_planOneWays {N : Nat} {s : AS} {l0 : Nat} {r : Int32 × AS} (hf : f_X5_planOneWays N l0 s = some r) : Le s r.2 := by
  unfold f_X5_planOneWays at hf
  refine ite_c hf (fun hf => ?_) (fun hf => ?_)
  · skip
    obtain ⟨v1, -, hf⟩ := ob hf
    obtain ⟨v2, -, hf⟩ := ob hf
    obtain ⟨v3, -, hf⟩ := ob hf
    obtain ⟨v4, -, hf⟩ := ob hf
    exact Le.via (le_X5_planOneWays_22 N _ _ _ _ hf) rfl
  · cases hf
set_option maxRecDepth 20000 in
theorem zm_X5_planOneWays {N : Nat} {s : AS} {l0 : Nat} {r : Int32 × AS} (hf : f_X5_planOneWays N l0 s = some r) : isO s.1 l0 5 ∧ ∀ (l : Launch) (G : GG), Mt l G yX5_planOneWays cX5_planOneWays 6 (some .int) 6 [.ref l0] s (some (.int r.1)) r.2 := by
  have hf0 := hf
  unfold f_X5_planOneWays at hf
  refine ite_d hf (fun hO hf => ?_) (fun _ hf => ?_)
  · refine ⟨hO, fun l G => mt_of (Or.inl (by decide)) (Nat.le_of_ble_eq_true rfl) (lm_X5_planOneWays hf0) (fun E hE => ?_)⟩
    show Z E yX5_planOneWays cX5_planOneWays 6 (some .int) 6 s 0 [(0, .ref l0)] []
    refine z_aload_n 0 dX5_planOneWays_0 rfl rfl ?_
    refine z_iconst 2 2 dX5_planOneWays_1 (by decide) ?_
    obtain ⟨v1, ev1, hf⟩ := ob hf
    refine z_cVv (ci := 5) (T := TX5) (N := 13) (As := [.int (2 : Int32)]) (rest := []) (zm_X5_begin ev1).2 (zm_X5_begin ev1).1 (by decide) rfl (Or.inl rfl) mw_43_12 mw_43_13 mw_43_14 mw_2_7 mw_43_15 yk_X5_begin (by decide) (by decide) rfl (Nat.le_of_ble_eq_true rfl) rfl dX5_planOneWays_2 ?_
    refine z_aload_n 0 dX5_planOneWays_5 rfl rfl ?_
    refine z_gP (ci := 5) (k := 1) (C := RX5) (T := TX5) (N := 13) rfl inlX5 (by decide) mw_6_5 (fun _ _ _ _ h9 => h9) hf (by decide) rfl dX5_planOneWays_6  (fun v2 hf => ?_)
    refine z_aload_n 0 dX5_planOneWays_9 rfl rfl ?_
    obtain ⟨v3, ev3, hf⟩ := ob hf
    refine z_cVl (ci := 5) (T := TX5) (N := 13) (As := []) (rest := [.ref v2]) (zm_X5_lookAtLeft ev3).2 (zm_X5_lookAtLeft ev3).1 (by decide) rfl (Or.inl rfl) mw_43_22 mw_43_23 mw_44_0 mw_2_7 mw_44_1 yk_X5_lookAtLeft (by decide) (by decide) rfl (Nat.le_of_ble_eq_true rfl) rfl dX5_planOneWays_10 ?_
    refine z_lconst 1 1 dX5_planOneWays_13 (by decide) ?_
    refine z_lor dX5_planOneWays_14 ?_
    obtain ⟨v4, ev4, hf⟩ := ob hf
    refine z_cVv (ci := 10) (T := TX10) (N := 6) (As := [.long (v3.1 ||| (1 : Int64))]) (rest := []) (zm_X10_measureEach ev4).2 (zm_X10_measureEach ev4).1 (by decide) rfl (Or.inl rfl) mw_44_3 mw_15_21 mw_15_22 mw_1_23 mw_15_23 yk_X10_measureEach (by decide) (by decide) rfl (Nat.le_of_ble_eq_true rfl) rfl dX5_planOneWays_15 ?_
    refine z_iconst 0 0 dX5_planOneWays_18 (by decide) ?_
    refine z_istore_n [(1, .int (0 : Int32)), (0, .ref l0)] dX5_planOneWays_19 rfl (by decide) rfl ?_
    refine z_iconst 0 0 dX5_planOneWays_20 (by decide) ?_
    refine z_istore_n [(2, .int (0 : Int32)), (1, .int (0 : Int32)), (0, .ref l0)] dX5_planOneWays_21 rfl (by decide) rfl ?_
    refine z_lv [(0, .ref l0), (1, .int (0 : Int32)), (2, .int (0 : Int32))] [2, 1, 0] rfl ?_
    exact zb_X5_planOneWays_22 hE N _ _ _ _ hf
  · cases hf
set_option maxRecDepth 20000 in
theorem zb_X5_reachedFrom_74 {N : Nat} {sh : Sh} {d : Dt} {r : Int64} {E : EV} (hE : TG E (some (.long r)) (sh, d))  {l2 : Int64} (hf : f_X5_reachedFrom_74 N sh l2 d = some r) : Z E yX5_reachedFrom cX5_reachedFrom 8 (some .long) 3 (sh, d) 74 [(2, .long l2)] [] := by
  unfold f_X5_reachedFrom_74 at hf
  refine z_lload_n 0 dX5_reachedFrom_74 rfl rfl ?_
  cases hf
  exact z_lreturn hE rfl dX5_reachedFrom_75
set_option maxRecDepth 20000 in
theorem zg_X5_reachedFrom_10 {N : Nat} {sh : Sh} {d : Dt} {r : Int64} {k10 : Nat → Int64 → Int64 → Int32 → Option Int64} {E : EV} (hE : TG E (some (.long r)) (sh, d))  (hk10 : ∀ (l0 : Nat) (l2 : Int64) (l4 : Int64) (l6 : Int32), k10 l0 l2 l4 l6 = some r → Z E yX5_reachedFrom cX5_reachedFrom 8 (some .long) 3 (sh, d) 10 [(0, .ref l0), (2, .long l2), (4, .long l4), (6, .int l6)] []) {l0 : Nat} {l2 : Int64} {l4 : Int64} {l6 : Int32} (hf : g_X5_reachedFrom_10 N sh k10 l0 l2 l4 l6 d = some r) : Z E yX5_reachedFrom cX5_reachedFrom 8 (some .long) 3 (sh, d) 10 [(0, .ref l0), (2, .long l2), (4, .long l4), (6, .int l6)] [] := by
  unfold g_X5_reachedFrom_10 at hf
  refine z_iload 3 dX5_reachedFrom_10 rfl ?_
  refine z_bipush 60 60 dX5_reachedFrom_12 (by decide) ?_
  refine z_icmp_ge 74 hf dX5_reachedFrom_14 (by decide) (fun hf => ?_) (fun hf => ?_)
  · refine z_lv [(2, .long l2)] [1] rfl ?_
    exact zb_X5_reachedFrom_74 hE hf
  · refine z_lload 2 dX5_reachedFrom_17 rfl ?_
    refine z_lconst 0 0 dX5_reachedFrom_19 (by decide) ?_
    refine z_lcmp dX5_reachedFrom_20 ?_
    refine z_if_eq 74 hf dX5_reachedFrom_21 (by decide) (fun hf => ?_) (fun hf => ?_)
    · refine z_lv [(2, .long l2)] [1] rfl ?_
      exact zb_X5_reachedFrom_74 hE hf
    · refine z_lload 2 dX5_reachedFrom_24 rfl ?_
      obtain ⟨v1, ev1, hf⟩ := ob hf
      refine z_cNi (As := [.long l4]) (rest := []) (zm_X11_lowest ev1) (Or.inl rfl) (fun _ _ hK => hK.2.2.2.2.2.2.1) mw_17_2 mw_1_2 mw_17_3 yk_X11_lowest (by decide) (by decide) rfl (Nat.le_of_ble_eq_true rfl) rfl dX5_reachedFrom_26 ?_
      refine z_istore [(7, .int v1), (0, .ref l0), (2, .long l2), (4, .long l4), (6, .int l6)] dX5_reachedFrom_29 (by decide) rfl ?_
      refine z_lload 3 dX5_reachedFrom_31 rfl ?_
      refine z_lload 3 dX5_reachedFrom_33 rfl ?_
      refine z_lconst 1 1 dX5_reachedFrom_35 (by decide) ?_
      refine z_lsub dX5_reachedFrom_36 ?_
      refine z_land dX5_reachedFrom_37 ?_
      refine z_lstore [(4, .long (l4 &&& (l4 - (1 : Int64)))), (7, .int v1), (0, .ref l0), (2, .long l2), (6, .int l6)] dX5_reachedFrom_38 (by decide) rfl ?_
      refine z_lload 0 dX5_reachedFrom_40 rfl ?_
      refine z_aload_n 2 dX5_reachedFrom_42 rfl rfl ?_
      refine z_gP (ci := 5) (k := 11) (C := RX5) (T := TX5) (N := 13) rfl inlX5 (by decide) mw_6_2 (fun _ _ _ _ h9 => h9) hf (by decide) rfl dX5_reachedFrom_43  (fun v2 hf => ?_)
      refine z_iload 1 dX5_reachedFrom_46 rfl ?_
      refine z_aJ hf dX5_reachedFrom_48  (fun v3 hf => ?_)
      refine z_lload_n 3 dX5_reachedFrom_49 rfl rfl ?_
      refine z_ldc2 mw_45_1 dX5_reachedFrom_50 ?_
      refine z_lxor dX5_reachedFrom_53 ?_
      refine z_land dX5_reachedFrom_54 ?_
      refine z_lor dX5_reachedFrom_55 ?_
      refine z_lstore [(4, .long ((l4 &&& (l4 - (1 : Int64))) ||| (v3 &&& (l2 ^^^ (-1 : Int64))))), (7, .int v1), (0, .ref l0), (2, .long l2), (6, .int l6)] dX5_reachedFrom_56 (by decide) rfl ?_
      refine z_lload_n 3 dX5_reachedFrom_58 rfl rfl ?_
      refine z_aload_n 2 dX5_reachedFrom_59 rfl rfl ?_
      refine z_gP (ci := 5) (k := 11) (C := RX5) (T := TX5) (N := 13) rfl inlX5 (by decide) mw_6_2 (fun _ _ _ _ h9 => h9) hf (by decide) rfl dX5_reachedFrom_60  (fun v4 hf => ?_)
      refine z_iload 1 dX5_reachedFrom_63 rfl ?_
      refine z_aJ hf dX5_reachedFrom_65  (fun v5 hf => ?_)
      refine z_lor dX5_reachedFrom_66 ?_
      refine z_lstore_n [(2, .long (l2 ||| v5)), (4, .long ((l4 &&& (l4 - (1 : Int64))) ||| (v3 &&& (l2 ^^^ (-1 : Int64))))), (7, .int v1), (0, .ref l0), (6, .int l6)] dX5_reachedFrom_67 rfl (by decide) rfl ?_
      refine z_iinc [(6, .int (l6 + 1)), (2, .long (l2 ||| v5)), (4, .long ((l4 &&& (l4 - (1 : Int64))) ||| (v3 &&& (l2 ^^^ (-1 : Int64))))), (7, .int v1), (0, .ref l0)] 4 (l6 + 1) dX5_reachedFrom_68 rfl rfl (by decide) rfl ?_
      refine z_goto 10 dX5_reachedFrom_71 (by decide) ?_
      refine z_lv [(0, .ref l0), (2, .long (l2 ||| v5)), (4, .long ((l4 &&& (l4 - (1 : Int64))) ||| (v3 &&& (l2 ^^^ (-1 : Int64))))), (6, .int (l6 + 1))] [4, 1, 2, 0] rfl ?_
      exact hk10 _ _ _ _ hf
set_option maxRecDepth 20000 in
theorem zb_X5_reachedFrom_10 {N : Nat} {sh : Sh} {d : Dt} {r : Int64} {E : EV} (hE : TG E (some (.long r)) (sh, d))  : ∀ (n : Nat) (l0 : Nat) (l2 : Int64) (l4 : Int64) (l6 : Int32), f_X5_reachedFrom_10 N sh d n l0 l2 l4 l6 = some r → Z E yX5_reachedFrom cX5_reachedFrom 8 (some .long) 3 (sh, d) 10 [(0, .ref l0), (2, .long l2), (4, .long l4), (6, .int l6)] [] := by
  intro n
  induction n with
  | zero => intro l0 l2 l4 l6 hf; cases hf
  | succ n ih => intro l0 l2 l4 l6 hf; exact zg_X5_reachedFrom_10 hE ih hf
set_option maxRecDepth 20000 in
theorem zm_X5_reachedFrom {N : Nat} {sh : Sh} {d : Dt} {l0 : Nat} {l1 : Int32} {r : Int64} (hf : f_X5_reachedFrom N sh l0 l1 d = some r) : isO sh l0 5 ∧ ∀ (l : Launch) (G : GG), Mt l G yX5_reachedFrom cX5_reachedFrom 8 (some .long) 3 [.ref l0, .int l1] (sh, d) (some (.long r)) (sh, d) := by
  have hf0 := hf
  unfold f_X5_reachedFrom at hf
  refine ite_d hf (fun hO hf => ?_) (fun _ hf => ?_)
  · refine ⟨hO, fun l G => mt_of (Or.inl (by decide)) (Nat.le_of_ble_eq_true rfl) Le.rf (fun E hE => ?_)⟩
    show Z E yX5_reachedFrom cX5_reachedFrom 8 (some .long) 3 (sh, d) 0 [(0, .ref l0), (1, .int l1)] []
    refine z_lconst 1 1 dX5_reachedFrom_0 (by decide) ?_
    refine z_iload_n 1 dX5_reachedFrom_1 rfl rfl ?_
    refine z_lshl dX5_reachedFrom_2 ?_
    refine z_lstore_n [(2, .long ((1 : Int64) <<< (l1.toInt64 &&& 63))), (0, .ref l0), (1, .int l1)] dX5_reachedFrom_3 rfl (by decide) rfl ?_
    refine z_lload_n 0 dX5_reachedFrom_4 rfl rfl ?_
    refine z_lstore [(4, .long ((1 : Int64) <<< (l1.toInt64 &&& 63))), (2, .long ((1 : Int64) <<< (l1.toInt64 &&& 63))), (0, .ref l0), (1, .int l1)] dX5_reachedFrom_5 (by decide) rfl ?_
    refine z_iconst 0 0 dX5_reachedFrom_7 (by decide) ?_
    refine z_istore [(6, .int (0 : Int32)), (4, .long ((1 : Int64) <<< (l1.toInt64 &&& 63))), (2, .long ((1 : Int64) <<< (l1.toInt64 &&& 63))), (0, .ref l0), (1, .int l1)] dX5_reachedFrom_8 (by decide) rfl ?_
    refine z_lv [(0, .ref l0), (2, .long ((1 : Int64) <<< (l1.toInt64 &&& 63))), (4, .long ((1 : Int64) <<< (l1.toInt64 &&& 63))), (6, .int (0 : Int32))] [3, 2, 1, 0] rfl ?_
    exact zb_X5_reachedFrom_10 hE N _ _ _ _ hf
  · cases hf
set_option maxRecDepth 20000 in
theorem zb_X5_addWay_73 {N : Nat} {sh : Sh} {r : Dt} {E : EV} (hE : TG E none (sh, r))   {d : Dt} (hf : f_X5_addWay_73 N sh  d = some r) : Z E yX5_addWay cX5_addWay 7 none 3 (sh, d) 73 [] [] := by
  unfold f_X5_addWay_73 at hf
  cases hf
  exact z_return hE rfl dX5_addWay_73
set_option maxRecDepth 20000 in
theorem zg_X5_addWay_18 {N : Nat} {sh : Sh} {r : Dt} {k18 : Nat → Int32 → Int32 → Int32 → Int32 → Int32 → Dt → Option Dt} {E : EV} (hE : TG E none (sh, r))  (hk18 : ∀ (l0 : Nat) (l2 : Int32) (l3 : Int32) (l4 : Int32) (l5 : Int32) (l6 : Int32) (d : Dt), k18 l0 l2 l3 l4 l5 l6 d = some r → Z E yX5_addWay cX5_addWay 7 none 3 (sh, d) 18 [(0, .ref l0), (2, .int l2), (3, .int l3), (4, .int l4), (5, .int l5), (6, .int l6)] []) {l0 : Nat} {l2 : Int32} {l3 : Int32} {l4 : Int32} {l5 : Int32} {l6 : Int32} {d : Dt} (hf : g_X5_addWay_18 N sh k18 l0 l2 l3 l4 l5 l6 d = some r) : Z E yX5_addWay cX5_addWay 7 none 3 (sh, d) 18 [(0, .ref l0), (2, .int l2), (3, .int l3), (4, .int l4), (5, .int l5), (6, .int l6)] [] := by
  unfold g_X5_addWay_18 at hf
  refine z_iload 5 dX5_addWay_18 rfl ?_
  refine z_bipush 60 60 dX5_addWay_20 (by decide) ?_
  refine z_icmp_ge 73 hf dX5_addWay_22 (by decide) (fun hf => ?_) (fun hf => ?_)
  · refine z_lv [] [] rfl ?_
    exact zb_X5_addWay_73 hE hf
  · refine z_iload 4 dX5_addWay_25 rfl ?_
    refine z_iconst (-1) (-1) dX5_addWay_27 (by decide) ?_
    refine z_icmp_eq 73 hf dX5_addWay_28 (by decide) (fun hf => ?_) (fun hf => ?_)
    · refine z_lv [] [] rfl ?_
      exact zb_X5_addWay_73 hE hf
    · refine z_aload_n 0 dX5_addWay_31 rfl rfl ?_
      refine z_gP (ci := 5) (k := 9) (C := RX5) (T := TX5) (N := 13) rfl inlX5 (by decide) mw_6_0 (fun _ _ _ _ h9 => h9) hf (by decide) rfl dX5_addWay_32  (fun v3 hf => ?_)
      refine z_iload 4 dX5_addWay_35 rfl ?_
      refine z_dup2_11 dX5_addWay_37 rfl rfl ?_
      refine z_aI hf dX5_addWay_38  (fun v4 hf => ?_)
      refine z_iload_n 2 dX5_addWay_39 rfl rfl ?_
      refine z_iadd dX5_addWay_40 ?_
      refine z_sI hf dX5_addWay_41  (fun d5 hf => ?_)
      refine z_aload_n 0 dX5_addWay_42 rfl rfl ?_
      refine z_gP (ci := 5) (k := 0) (C := RX5) (T := TX5) (N := 13) rfl inlX5 (by decide) mw_6_4 (fun _ _ _ _ h9 => h9) hf (by decide) rfl dX5_addWay_43  (fun v6 hf => ?_)
      refine z_iload 4 dX5_addWay_46 rfl ?_
      refine z_iload 3 dX5_addWay_48 rfl ?_
      obtain ⟨v7, ev7, hf⟩ := ob hf
      refine z_cVi (ci := 1) (T := TX1) (N := 8) (As := [.int l5, .int l4]) (rest := []) (zm_X1_otherEnd ev7).2 (zm_X1_otherEnd ev7).1 (by decide) rfl (Or.inl rfl) mw_45_19 mw_19_2 mw_19_3 mw_1_18 mw_19_4 yk_X1_otherEnd (by decide) (by decide) rfl (Nat.le_of_ble_eq_true rfl) rfl dX5_addWay_50 ?_
      refine z_istore [(4, .int v7), (0, .ref l0), (2, .int l2), (3, .int l3), (5, .int l5), (6, .int l6)] dX5_addWay_53 (by decide) rfl ?_
      refine z_aload_n 1 dX5_addWay_55 rfl rfl ?_
      refine z_gP (ci := 5) (k := 1) (C := RX5) (T := TX5) (N := 13) rfl inlX5 (by decide) mw_6_5 (fun _ _ _ _ h9 => h9) hf (by decide) rfl dX5_addWay_56  (fun v8 hf => ?_)
      refine z_iload 0 dX5_addWay_59 rfl ?_
      refine z_iload_n 2 dX5_addWay_61 rfl rfl ?_
      obtain ⟨v9, ev9, hf⟩ := ob hf
      refine z_cVi (ci := 10) (T := TX10) (N := 6) (As := [.int v7, .int l2]) (rest := []) (zm_X10_nextStreet ev9).2 (zm_X10_nextStreet ev9).1 (by decide) rfl (Or.inl rfl) mw_44_14 mw_18_21 mw_18_22 mw_1_23 mw_18_23 yk_X10_nextStreet (by decide) (by decide) rfl (Nat.le_of_ble_eq_true rfl) rfl dX5_addWay_62 ?_
      refine z_istore [(5, .int v9), (4, .int v7), (0, .ref l0), (2, .int l2), (3, .int l3), (6, .int l6)] dX5_addWay_65 (by decide) rfl ?_
      refine z_iinc [(6, .int (l6 + 1)), (5, .int v9), (4, .int v7), (0, .ref l0), (2, .int l2), (3, .int l3)] 5 (l6 + 1) dX5_addWay_67 rfl rfl (by decide) rfl ?_
      refine z_goto 18 dX5_addWay_70 (by decide) ?_
      refine z_lv [(0, .ref l0), (2, .int l2), (3, .int l3), (4, .int v7), (5, .int v9), (6, .int (l6 + 1))] [3, 4, 5, 2, 1, 0] rfl ?_
      exact hk18 _ _ _ _ _ _ _ hf
set_option maxRecDepth 20000 in
theorem zb_X5_addWay_18 {N : Nat} {sh : Sh} {r : Dt} {E : EV} (hE : TG E none (sh, r))  : ∀ (n : Nat) (l0 : Nat) (l2 : Int32) (l3 : Int32) (l4 : Int32) (l5 : Int32) (l6 : Int32) (d : Dt), f_X5_addWay_18 N sh n l0 l2 l3 l4 l5 l6 d = some r → Z E yX5_addWay cX5_addWay 7 none 3 (sh, d) 18 [(0, .ref l0), (2, .int l2), (3, .int l3), (4, .int l4), (5, .int l5), (6, .int l6)] [] := by
  intro n
  induction n with
  | zero => intro l0 l2 l3 l4 l5 l6 d hf; cases hf
  | succ n ih => intro l0 l2 l3 l4 l5 l6 d hf; exact zg_X5_addWay_18 hE ih hf
set_option maxRecDepth 20000 in
theorem zm_X5_addWay {N : Nat} {sh : Sh} {d : Dt} {l0 : Nat} {l1 : Int32} {l2 : Int32} {l3 : Int32} {r : Dt} (hf : f_X5_addWay N sh l0 l1 l2 l3 d = some r) : isO sh l0 5 ∧ ∀ (l : Launch) (G : GG), Mt l G yX5_addWay cX5_addWay 7 none 3 [.ref l0, .int l1, .int l2, .int l3] (sh, d) none (sh, r) := by
  have hf0 := hf
  unfold f_X5_addWay at hf
  refine ite_d hf (fun hO hf => ?_) (fun _ hf => ?_)
  · refine ⟨hO, fun l G => mt_of (Or.inl (by decide)) (Nat.le_of_ble_eq_true rfl) Le.rf (fun E hE => ?_)⟩
    show Z E yX5_addWay cX5_addWay 7 none 3 (sh, d) 0 [(0, .ref l0), (1, .int l1), (2, .int l2), (3, .int l3)] []
    refine z_iload_n 1 dX5_addWay_0 rfl rfl ?_
    refine z_istore [(4, .int l1), (0, .ref l0), (1, .int l1), (2, .int l2), (3, .int l3)] dX5_addWay_1 (by decide) rfl ?_
    refine z_aload_n 1 dX5_addWay_3 rfl rfl ?_
    refine z_gP (ci := 5) (k := 1) (C := RX5) (T := TX5) (N := 13) rfl inlX5 (by decide) mw_6_5 (fun _ _ _ _ h9 => h9) hf (by decide) rfl dX5_addWay_4  (fun v1 hf => ?_)
    refine z_iload 0 dX5_addWay_7 rfl ?_
    refine z_iload_n 3 dX5_addWay_9 rfl rfl ?_
    obtain ⟨v2, ev2, hf⟩ := ob hf
    refine z_cVi (ci := 10) (T := TX10) (N := 6) (As := [.int l1, .int l2]) (rest := []) (zm_X10_nextStreet ev2).2 (zm_X10_nextStreet ev2).1 (by decide) rfl (Or.inl rfl) mw_44_14 mw_18_21 mw_18_22 mw_1_23 mw_18_23 yk_X10_nextStreet (by decide) (by decide) rfl (Nat.le_of_ble_eq_true rfl) rfl dX5_addWay_10 ?_
    refine z_istore [(5, .int v2), (4, .int l1), (0, .ref l0), (1, .int l1), (2, .int l2), (3, .int l3)] dX5_addWay_13 (by decide) rfl ?_
    refine z_iconst 0 0 dX5_addWay_15 (by decide) ?_
    refine z_istore [(6, .int (0 : Int32)), (5, .int v2), (4, .int l1), (0, .ref l0), (1, .int l1), (2, .int l2), (3, .int l3)] dX5_addWay_16 (by decide) rfl ?_
    refine z_lv [(0, .ref l0), (2, .int l2), (3, .int l3), (4, .int l1), (5, .int v2), (6, .int (0 : Int32))] [3, 5, 6, 2, 1, 0] rfl ?_
    exact zb_X5_addWay_18 hE N _ _ _ _ _ _ _ hf
  · cases hf
set_option maxRecDepth 20000 in
theorem zb_X5_join_101 {N : Nat} {sh : Sh} {r : Int32 × Dt} {E : EV} (hE : TG E (some (.int r.1)) (sh, r.2))  {l0 : Nat} {l5 : Int32} {l6 : Int32} {l7 : Int32} {d : Dt} (hf : f_X5_join_101 N sh l0 l5 l6 l7 d = some r) : Z E yX5_join cX5_join 10 (some .boolean) 4 (sh, d) 101 [(0, .ref l0), (5, .int l5), (6, .int l6), (7, .int l7)] [] := by
  unfold f_X5_join_101 at hf
  refine z_iload 3 dX5_join_101 rfl ?_
  refine z_ldc mw_44_8 dX5_join_103 ?_
  refine z_icmp_lt 110 hf dX5_join_105 (by decide) (fun hf => ?_) (fun hf => ?_)
  · refine z_aload_n 0 dX5_join_110 rfl rfl ?_
    refine z_iload 1 dX5_join_111 rfl ?_
    refine z_iload 2 dX5_join_113 rfl ?_
    refine z_iconst 2 2 dX5_join_115 (by decide) ?_
    obtain ⟨v1, ev1, hf⟩ := ob hf
    refine z_cVv (ci := 5) (T := TX5) (N := 13) (As := [.int l5, .int l6, .int (2 : Int32)]) (rest := []) (zm_X5_addWay ev1).2 (zm_X5_addWay ev1).1 (by decide) rfl (Or.inl rfl) mw_45_15 mw_45_16 mw_45_17 mw_2_7 mw_45_18 yk_X5_addWay (by decide) (by decide) rfl (Nat.le_of_ble_eq_true rfl) rfl dX5_join_116 ?_
    refine z_iconst 1 1 dX5_join_119 (by decide) ?_
    cases hf
    exact z_zreturn hE rfl (by decide) dX5_join_120
  · refine z_iconst 0 0 dX5_join_108 (by decide) ?_
    cases hf
    exact z_zreturn hE rfl (by decide) dX5_join_109
set_option maxRecDepth 20000 in
theorem zb_X5_join_95 {N : Nat} {sh : Sh} {k13 : Nat → Int64 → Int64 → Int32 → Int32 → Int32 → Int32 → Dt → Option (Int32 × Dt)} {r : Int32 × Dt} {E : EV} (hE : TG E (some (.int r.1)) (sh, r.2)) (hk13 : ∀ (l0 : Nat) (l1 : Int64) (l3 : Int64) (l5 : Int32) (l6 : Int32) (l7 : Int32) (l8 : Int32) (d : Dt), k13 l0 l1 l3 l5 l6 l7 l8 d = some r → Z E yX5_join cX5_join 10 (some .boolean) 4 (sh, d) 13 [(0, .ref l0), (1, .long l1), (3, .long l3), (5, .int l5), (6, .int l6), (7, .int l7), (8, .int l8)] []) {l0 : Nat} {l1 : Int64} {l3 : Int64} {l5 : Int32} {l6 : Int32} {l7 : Int32} {l8 : Int32} {d : Dt} (hf : f_X5_join_95 N sh k13 l0 l1 l3 l5 l6 l7 l8 d = some r) : Z E yX5_join cX5_join 10 (some .boolean) 4 (sh, d) 95 [(0, .ref l0), (1, .long l1), (3, .long l3), (5, .int l5), (6, .int l6), (7, .int l7), (8, .int l8)] [] := by
  unfold f_X5_join_95 at hf
  refine z_iinc [(8, .int (l8 + 1)), (0, .ref l0), (1, .long l1), (3, .long l3), (5, .int l5), (6, .int l6), (7, .int l7)] 6 (l8 + 1) dX5_join_95 rfl rfl (by decide) rfl ?_
  refine z_goto 13 dX5_join_98 (by decide) ?_
  refine z_lv [(0, .ref l0), (1, .long l1), (3, .long l3), (5, .int l5), (6, .int l6), (7, .int l7), (8, .int (l8 + 1))] [1, 2, 3, 4, 5, 6, 0] rfl ?_
  exact hk13 _ _ _ _ _ _ _ _ hf
set_option maxRecDepth 20000 in
theorem zb_X5_join_89 {N : Nat} {sh : Sh} {k13 : Nat → Int64 → Int64 → Int32 → Int32 → Int32 → Int32 → Dt → Option (Int32 × Dt)} {k23 : Nat → Int64 → Int64 → Int32 → Int32 → Int32 → Int32 → Int32 → Dt → Option (Int32 × Dt)} {r : Int32 × Dt} {E : EV} (hE : TG E (some (.int r.1)) (sh, r.2)) (hk13 : ∀ (l0 : Nat) (l1 : Int64) (l3 : Int64) (l5 : Int32) (l6 : Int32) (l7 : Int32) (l8 : Int32) (d : Dt), k13 l0 l1 l3 l5 l6 l7 l8 d = some r → Z E yX5_join cX5_join 10 (some .boolean) 4 (sh, d) 13 [(0, .ref l0), (1, .long l1), (3, .long l3), (5, .int l5), (6, .int l6), (7, .int l7), (8, .int l8)] []) (hk23 : ∀ (l0 : Nat) (l1 : Int64) (l3 : Int64) (l5 : Int32) (l6 : Int32) (l7 : Int32) (l8 : Int32) (l9 : Int32) (d : Dt), k23 l0 l1 l3 l5 l6 l7 l8 l9 d = some r → Z E yX5_join cX5_join 10 (some .boolean) 4 (sh, d) 23 [(0, .ref l0), (1, .long l1), (3, .long l3), (5, .int l5), (6, .int l6), (7, .int l7), (8, .int l8), (9, .int l9)] []) {l0 : Nat} {l1 : Int64} {l3 : Int64} {l5 : Int32} {l6 : Int32} {l7 : Int32} {l8 : Int32} {l9 : Int32} {d : Dt} (hf : f_X5_join_89 N sh k13 k23 l0 l1 l3 l5 l6 l7 l8 l9 d = some r) : Z E yX5_join cX5_join 10 (some .boolean) 4 (sh, d) 89 [(0, .ref l0), (1, .long l1), (3, .long l3), (5, .int l5), (6, .int l6), (7, .int l7), (8, .int l8), (9, .int l9)] [] := by
  unfold f_X5_join_89 at hf
  refine z_iinc [(9, .int (l9 + 1)), (0, .ref l0), (1, .long l1), (3, .long l3), (5, .int l5), (6, .int l6), (7, .int l7), (8, .int l8)] 7 (l9 + 1) dX5_join_89 rfl rfl (by decide) rfl ?_
  refine z_goto 23 dX5_join_92 (by decide) ?_
  refine z_lv [(0, .ref l0), (1, .long l1), (3, .long l3), (5, .int l5), (6, .int l6), (7, .int l7), (8, .int l8), (9, .int (l9 + 1))] [1, 2, 3, 4, 5, 6, 7, 0] rfl ?_
  exact hk23 _ _ _ _ _ _ _ _ _ hf
set_option maxRecDepth 20000 in
theorem zg_X5_join_23 {N : Nat} {sh : Sh} {k13 : Nat → Int64 → Int64 → Int32 → Int32 → Int32 → Int32 → Dt → Option (Int32 × Dt)} {r : Int32 × Dt} {k23 : Nat → Int64 → Int64 → Int32 → Int32 → Int32 → Int32 → Int32 → Dt → Option (Int32 × Dt)} {E : EV} (hE : TG E (some (.int r.1)) (sh, r.2)) (hk13 : ∀ (l0 : Nat) (l1 : Int64) (l3 : Int64) (l5 : Int32) (l6 : Int32) (l7 : Int32) (l8 : Int32) (d : Dt), k13 l0 l1 l3 l5 l6 l7 l8 d = some r → Z E yX5_join cX5_join 10 (some .boolean) 4 (sh, d) 13 [(0, .ref l0), (1, .long l1), (3, .long l3), (5, .int l5), (6, .int l6), (7, .int l7), (8, .int l8)] []) (hk23 : ∀ (l0 : Nat) (l1 : Int64) (l3 : Int64) (l5 : Int32) (l6 : Int32) (l7 : Int32) (l8 : Int32) (l9 : Int32) (d : Dt), k23 l0 l1 l3 l5 l6 l7 l8 l9 d = some r → Z E yX5_join cX5_join 10 (some .boolean) 4 (sh, d) 23 [(0, .ref l0), (1, .long l1), (3, .long l3), (5, .int l5), (6, .int l6), (7, .int l7), (8, .int l8), (9, .int l9)] []) {l0 : Nat} {l1 : Int64} {l3 : Int64} {l5 : Int32} {l6 : Int32} {l7 : Int32} {l8 : Int32} {l9 : Int32} {d : Dt} (hf : g_X5_join_23 N sh k13 k23 l0 l1 l3 l5 l6 l7 l8 l9 d = some r) : Z E yX5_join cX5_join 10 (some .boolean) 4 (sh, d) 23 [(0, .ref l0), (1, .long l1), (3, .long l3), (5, .int l5), (6, .int l6), (7, .int l7), (8, .int l8), (9, .int l9)] [] := by
  unfold g_X5_join_23 at hf
  refine z_iload 7 dX5_join_23 rfl ?_
  refine z_bipush 60 60 dX5_join_25 (by decide) ?_
  refine z_icmp_ge 95 hf dX5_join_27 (by decide) (fun hf => ?_) (fun hf => ?_)
  · refine z_lv [(0, .ref l0), (1, .long l1), (3, .long l3), (5, .int l5), (6, .int l6), (7, .int l7), (8, .int l8)] [0, 1, 2, 3, 4, 5, 6] rfl ?_
    exact zb_X5_join_95 hE hk13 hf
  · refine z_lload_n 1 dX5_join_30 rfl rfl ?_
    refine z_iload 6 dX5_join_31 rfl ?_
    refine z_lshr dX5_join_33 ?_
    refine z_lconst 1 1 dX5_join_34 (by decide) ?_
    refine z_land dX5_join_35 ?_
    refine z_lconst 1 1 dX5_join_36 (by decide) ?_
    refine z_lcmp dX5_join_37 ?_
    refine z_if_ne 95 hf dX5_join_38 (by decide) (fun hf => ?_) (fun hf => ?_)
    · refine z_lv [(0, .ref l0), (1, .long l1), (3, .long l3), (5, .int l5), (6, .int l6), (7, .int l7), (8, .int l8)] [0, 1, 2, 3, 4, 5, 6] rfl ?_
      exact zb_X5_join_95 hE hk13 hf
    · refine z_lload_n 2 dX5_join_41 rfl rfl ?_
      refine z_iload 7 dX5_join_42 rfl ?_
      refine z_lshr dX5_join_44 ?_
      refine z_lconst 1 1 dX5_join_45 (by decide) ?_
      refine z_land dX5_join_46 ?_
      refine z_lconst 1 1 dX5_join_47 (by decide) ?_
      refine z_lcmp dX5_join_48 ?_
      refine z_if_ne 89 hf dX5_join_49 (by decide) (fun hf => ?_) (fun hf => ?_)
      · exact zb_X5_join_89 hE hk13 hk23 hf
      · refine z_aload_n 0 dX5_join_52 rfl rfl ?_
        refine z_gP (ci := 5) (k := 1) (C := RX5) (T := TX5) (N := 13) rfl inlX5 (by decide) mw_6_5 (fun _ _ _ _ h9 => h9) hf (by decide) rfl dX5_join_53  (fun v2 hf => ?_)
        refine z_iload 6 dX5_join_56 rfl ?_
        refine z_iload 7 dX5_join_58 rfl ?_
        obtain ⟨v3, ev3, hf⟩ := ob hf
        refine z_cVi (ci := 10) (T := TX10) (N := 6) (As := [.int l8, .int l9]) (rest := []) (zm_X10_between ev3).2 (zm_X10_between ev3).1 (by decide) rfl (Or.inl rfl) mw_44_9 mw_17_12 mw_17_13 mw_1_23 mw_17_14 yk_X10_between (by decide) (by decide) rfl (Nat.le_of_ble_eq_true rfl) rfl dX5_join_60 ?_
        refine z_iload 5 dX5_join_63 rfl ?_
        refine z_icmp_ge 89 hf dX5_join_65 (by decide) (fun hf => ?_) (fun hf => ?_)
        · exact zb_X5_join_89 hE hk13 hk23 hf
        · refine z_iload 6 dX5_join_68 rfl ?_
          refine z_istore [(5, .int l8), (0, .ref l0), (1, .long l1), (3, .long l3), (6, .int l6), (7, .int l7), (8, .int l8), (9, .int l9)] dX5_join_70 (by decide) rfl ?_
          refine z_iload 7 dX5_join_72 rfl ?_
          refine z_istore [(6, .int l9), (5, .int l8), (0, .ref l0), (1, .long l1), (3, .long l3), (7, .int l7), (8, .int l8), (9, .int l9)] dX5_join_74 (by decide) rfl ?_
          refine z_aload_n 2 dX5_join_76 rfl rfl ?_
          refine z_gP (ci := 5) (k := 1) (C := RX5) (T := TX5) (N := 13) rfl inlX5 (by decide) mw_6_5 (fun _ _ _ _ h9 => h9) hf (by decide) rfl dX5_join_77  (fun v4 hf => ?_)
          refine z_iload 6 dX5_join_80 rfl ?_
          refine z_iload 7 dX5_join_82 rfl ?_
          obtain ⟨v5, ev5, hf⟩ := ob hf
          refine z_cVi (ci := 10) (T := TX10) (N := 6) (As := [.int l8, .int l9]) (rest := []) (zm_X10_between ev5).2 (zm_X10_between ev5).1 (by decide) rfl (Or.inl rfl) mw_44_9 mw_17_12 mw_17_13 mw_1_23 mw_17_14 yk_X10_between (by decide) (by decide) rfl (Nat.le_of_ble_eq_true rfl) rfl dX5_join_84 ?_
          refine z_istore [(7, .int v5), (6, .int l9), (5, .int l8), (0, .ref l0), (1, .long l1), (3, .long l3), (8, .int l8), (9, .int l9)] dX5_join_87 (by decide) rfl ?_
          refine z_lv [(0, .ref l0), (1, .long l1), (3, .long l3), (5, .int l8), (6, .int l9), (7, .int v5), (8, .int l8), (9, .int l9)] [3, 4, 5, 2, 1, 0, 6, 7] rfl ?_
          exact zb_X5_join_89 hE hk13 hk23 hf
set_option maxRecDepth 20000 in
theorem zb_X5_join_23 {N : Nat} {sh : Sh} {k13 : Nat → Int64 → Int64 → Int32 → Int32 → Int32 → Int32 → Dt → Option (Int32 × Dt)} {r : Int32 × Dt} {E : EV} (hE : TG E (some (.int r.1)) (sh, r.2)) (hk13 : ∀ (l0 : Nat) (l1 : Int64) (l3 : Int64) (l5 : Int32) (l6 : Int32) (l7 : Int32) (l8 : Int32) (d : Dt), k13 l0 l1 l3 l5 l6 l7 l8 d = some r → Z E yX5_join cX5_join 10 (some .boolean) 4 (sh, d) 13 [(0, .ref l0), (1, .long l1), (3, .long l3), (5, .int l5), (6, .int l6), (7, .int l7), (8, .int l8)] []) : ∀ (n : Nat) (l0 : Nat) (l1 : Int64) (l3 : Int64) (l5 : Int32) (l6 : Int32) (l7 : Int32) (l8 : Int32) (l9 : Int32) (d : Dt), f_X5_join_23 N sh k13 n l0 l1 l3 l5 l6 l7 l8 l9 d = some r → Z E yX5_join cX5_join 10 (some .boolean) 4 (sh, d) 23 [(0, .ref l0), (1, .long l1), (3, .long l3), (5, .int l5), (6, .int l6), (7, .int l7), (8, .int l8), (9, .int l9)] [] := by
  intro n
  induction n with
  | zero => intro l0 l1 l3 l5 l6 l7 l8 l9 d hf; cases hf
  | succ n ih => intro l0 l1 l3 l5 l6 l7 l8 l9 d hf; exact zg_X5_join_23 hE hk13 ih hf
set_option maxRecDepth 20000 in
theorem zg_X5_join_13 {N : Nat} {sh : Sh} {r : Int32 × Dt} {k13 : Nat → Int64 → Int64 → Int32 → Int32 → Int32 → Int32 → Dt → Option (Int32 × Dt)} {E : EV} (hE : TG E (some (.int r.1)) (sh, r.2))  (hk13 : ∀ (l0 : Nat) (l1 : Int64) (l3 : Int64) (l5 : Int32) (l6 : Int32) (l7 : Int32) (l8 : Int32) (d : Dt), k13 l0 l1 l3 l5 l6 l7 l8 d = some r → Z E yX5_join cX5_join 10 (some .boolean) 4 (sh, d) 13 [(0, .ref l0), (1, .long l1), (3, .long l3), (5, .int l5), (6, .int l6), (7, .int l7), (8, .int l8)] []) {l0 : Nat} {l1 : Int64} {l3 : Int64} {l5 : Int32} {l6 : Int32} {l7 : Int32} {l8 : Int32} {d : Dt} (hf : g_X5_join_13 N sh k13 l0 l1 l3 l5 l6 l7 l8 d = some r) : Z E yX5_join cX5_join 10 (some .boolean) 4 (sh, d) 13 [(0, .ref l0), (1, .long l1), (3, .long l3), (5, .int l5), (6, .int l6), (7, .int l7), (8, .int l8)] [] := by
  unfold g_X5_join_13 at hf
  refine z_iload 6 dX5_join_13 rfl ?_
  refine z_bipush 60 60 dX5_join_15 (by decide) ?_
  refine z_icmp_ge 101 hf dX5_join_17 (by decide) (fun hf => ?_) (fun hf => ?_)
  · refine z_lv [(0, .ref l0), (5, .int l5), (6, .int l6), (7, .int l7)] [0, 3, 4, 5] rfl ?_
    exact zb_X5_join_101 hE hf
  · refine z_iconst 0 0 dX5_join_20 (by decide) ?_
    refine z_istore [(9, .int (0 : Int32)), (0, .ref l0), (1, .long l1), (3, .long l3), (5, .int l5), (6, .int l6), (7, .int l7), (8, .int l8)] dX5_join_21 (by decide) rfl ?_
    refine z_lv [(0, .ref l0), (1, .long l1), (3, .long l3), (5, .int l5), (6, .int l6), (7, .int l7), (8, .int l8), (9, .int (0 : Int32))] [1, 2, 3, 4, 5, 6, 7, 0] rfl ?_
    exact zb_X5_join_23 hE hk13 N _ _ _ _ _ _ _ _ _ hf
set_option maxRecDepth 20000 in
theorem zb_X5_join_13 {N : Nat} {sh : Sh} {r : Int32 × Dt} {E : EV} (hE : TG E (some (.int r.1)) (sh, r.2))  : ∀ (n : Nat) (l0 : Nat) (l1 : Int64) (l3 : Int64) (l5 : Int32) (l6 : Int32) (l7 : Int32) (l8 : Int32) (d : Dt), f_X5_join_13 N sh n l0 l1 l3 l5 l6 l7 l8 d = some r → Z E yX5_join cX5_join 10 (some .boolean) 4 (sh, d) 13 [(0, .ref l0), (1, .long l1), (3, .long l3), (5, .int l5), (6, .int l6), (7, .int l7), (8, .int l8)] [] := by
  intro n
  induction n with
  | zero => intro l0 l1 l3 l5 l6 l7 l8 d hf; cases hf
  | succ n ih => intro l0 l1 l3 l5 l6 l7 l8 d hf; exact zg_X5_join_13 hE ih hf
set_option maxRecDepth 20000 in
theorem zm_X5_join {N : Nat} {sh : Sh} {d : Dt} {l0 : Nat} {l1 : Int64} {l3 : Int64} {r : Int32 × Dt} (hf : f_X5_join N sh l0 l1 l3 d = some r) : isO sh l0 5 ∧ ∀ (l : Launch) (G : GG), Mt l G yX5_join cX5_join 10 (some .boolean) 4 [.ref l0, .long l1, .long l3] (sh, d) (some (.int r.1)) (sh, r.2) := by
  have hf0 := hf
  unfold f_X5_join at hf
  refine ite_d hf (fun hO hf => ?_) (fun _ hf => ?_)
  · refine ⟨hO, fun l G => mt_of (Or.inl (by decide)) (Nat.le_of_ble_eq_true rfl) Le.rf (fun E hE => ?_)⟩
    show Z E yX5_join cX5_join 10 (some .boolean) 4 (sh, d) 0 [(0, .ref l0), (1, .long l1), (3, .long l3)] []
    refine z_iconst (-1) (-1) dX5_join_0 (by decide) ?_
    refine z_istore [(5, .int (-1 : Int32)), (0, .ref l0), (1, .long l1), (3, .long l3)] dX5_join_1 (by decide) rfl ?_
    refine z_iconst (-1) (-1) dX5_join_3 (by decide) ?_
    refine z_istore [(6, .int (-1 : Int32)), (5, .int (-1 : Int32)), (0, .ref l0), (1, .long l1), (3, .long l3)] dX5_join_4 (by decide) rfl ?_
    refine z_ldc mw_44_8 dX5_join_6 ?_
    refine z_istore [(7, .int (1000000000 : Int32)), (6, .int (-1 : Int32)), (5, .int (-1 : Int32)), (0, .ref l0), (1, .long l1), (3, .long l3)] dX5_join_8 (by decide) rfl ?_
    refine z_iconst 0 0 dX5_join_10 (by decide) ?_
    refine z_istore [(8, .int (0 : Int32)), (7, .int (1000000000 : Int32)), (6, .int (-1 : Int32)), (5, .int (-1 : Int32)), (0, .ref l0), (1, .long l1), (3, .long l3)] dX5_join_11 (by decide) rfl ?_
    refine z_lv [(0, .ref l0), (1, .long l1), (3, .long l3), (5, .int (-1 : Int32)), (6, .int (-1 : Int32)), (7, .int (1000000000 : Int32)), (8, .int (0 : Int32))] [4, 5, 6, 3, 2, 1, 0] rfl ?_
    exact zb_X5_join_13 hE N _ _ _ _ _ _ _ _ hf
  · cases hf
set_option maxRecDepth 20000 in
theorem zb_X5_joinAll_70 {N : Nat} {sh : Sh} {r : Int32 × Dt} {E : EV} (hE : TG E (some (.int r.1)) (sh, r.2))   {d : Dt} (hf : f_X5_joinAll_70 N sh  d = some r) : Z E yX5_joinAll cX5_joinAll 6 (some .boolean) 5 (sh, d) 70 [] [] := by
  unfold f_X5_joinAll_70 at hf
  refine z_iconst 0 0 dX5_joinAll_70 (by decide) ?_
  cases hf
  exact z_zreturn hE rfl (by decide) dX5_joinAll_71
set_option maxRecDepth 20000 in
theorem zb_X5_joinAll_52 {N : Nat} {sh : Sh} {r : Int32 × Dt} {E : EV} (hE : TG E (some (.int r.1)) (sh, r.2))   {d : Dt} (hf : f_X5_joinAll_52 N sh  d = some r) : Z E yX5_joinAll cX5_joinAll 6 (some .boolean) 5 (sh, d) 52 [] [] := by
  unfold f_X5_joinAll_52 at hf
  refine z_iconst 0 0 dX5_joinAll_52 (by decide) ?_
  cases hf
  exact z_zreturn hE rfl (by decide) dX5_joinAll_53
set_option maxRecDepth 20000 in
theorem zb_X5_joinAll_33 {N : Nat} {sh : Sh} {r : Int32 × Dt} {E : EV} (hE : TG E (some (.int r.1)) (sh, r.2))   {d : Dt} (hf : f_X5_joinAll_33 N sh  d = some r) : Z E yX5_joinAll cX5_joinAll 6 (some .boolean) 5 (sh, d) 33 [] [] := by
  unfold f_X5_joinAll_33 at hf
  refine z_iconst 1 1 dX5_joinAll_33 (by decide) ?_
  cases hf
  exact z_zreturn hE rfl (by decide) dX5_joinAll_34
set_option maxRecDepth 20000 in
theorem zg_X5_joinAll_2 {N : Nat} {sh : Sh} {r : Int32 × Dt} {k2 : Nat → Int32 → Dt → Option (Int32 × Dt)} {E : EV} (hE : TG E (some (.int r.1)) (sh, r.2))  (hk2 : ∀ (l0 : Nat) (l1 : Int32) (d : Dt), k2 l0 l1 d = some r → Z E yX5_joinAll cX5_joinAll 6 (some .boolean) 5 (sh, d) 2 [(0, .ref l0), (1, .int l1)] []) {l0 : Nat} {l1 : Int32} {d : Dt} (hf : g_X5_joinAll_2 N sh k2 l0 l1 d = some r) : Z E yX5_joinAll cX5_joinAll 6 (some .boolean) 5 (sh, d) 2 [(0, .ref l0), (1, .int l1)] [] := by
  unfold g_X5_joinAll_2 at hf
  refine z_iload_n 1 dX5_joinAll_2 rfl rfl ?_
  refine z_bipush 60 60 dX5_joinAll_3 (by decide) ?_
  refine z_icmp_ge 70 hf dX5_joinAll_5 (by decide) (fun hf => ?_) (fun hf => ?_)
  · refine z_lv [] [] rfl ?_
    exact zb_X5_joinAll_70 hE hf
  · refine z_aload_n 0 dX5_joinAll_8 rfl rfl ?_
    obtain ⟨v1, ev1, hf⟩ := ob hf
    refine z_cVl (ci := 5) (T := TX5) (N := 13) (As := []) (rest := []) (zm_X5_lookAtLeft ev1).2 (zm_X5_lookAtLeft ev1).1 (by decide) rfl (Or.inl rfl) mw_43_22 mw_43_23 mw_44_0 mw_2_7 mw_44_1 yk_X5_lookAtLeft (by decide) (by decide) rfl (Nat.le_of_ble_eq_true rfl) rfl dX5_joinAll_9 ?_
    refine z_lstore_n [(2, .long v1.1), (0, .ref l0), (1, .int l1)] dX5_joinAll_12 rfl (by decide) rfl ?_
    refine z_aload_n 1 dX5_joinAll_13 rfl rfl ?_
    refine z_iconst 0 0 dX5_joinAll_14 (by decide) ?_
    obtain ⟨v2, ev2, hf⟩ := ob hf
    refine z_cVl (ci := 5) (T := TX5) (N := 13) (As := [.int (0 : Int32)]) (rest := []) (zm_X5_reachedFrom ev2).2 (zm_X5_reachedFrom ev2).1 (by decide) rfl (Or.inl rfl) mw_45_2 mw_45_3 mw_45_4 mw_2_7 mw_45_5 yk_X5_reachedFrom (by decide) (by decide) rfl (Nat.le_of_ble_eq_true rfl) rfl dX5_joinAll_15 ?_
    refine z_lstore [(4, .long v2), (2, .long v1.1), (0, .ref l0), (1, .int l1)] dX5_joinAll_18 (by decide) rfl ?_
    refine z_lload_n 1 dX5_joinAll_20 rfl rfl ?_
    refine z_lload 0 dX5_joinAll_21 rfl ?_
    refine z_ldc2 mw_45_1 dX5_joinAll_23 ?_
    refine z_lxor dX5_joinAll_26 ?_
    refine z_land dX5_joinAll_27 ?_
    refine z_lconst 0 0 dX5_joinAll_28 (by decide) ?_
    refine z_lcmp dX5_joinAll_29 ?_
    refine z_if_ne 35 hf dX5_joinAll_30 (by decide) (fun hf => ?_) (fun hf => ?_)
    · refine z_aload_n 2 dX5_joinAll_35 rfl rfl ?_
      refine z_lload 0 dX5_joinAll_36 rfl ?_
      refine z_lload_n 1 dX5_joinAll_38 rfl rfl ?_
      refine z_lload 0 dX5_joinAll_39 rfl ?_
      refine z_ldc2 mw_45_1 dX5_joinAll_41 ?_
      refine z_lxor dX5_joinAll_44 ?_
      refine z_land dX5_joinAll_45 ?_
      obtain ⟨v3, ev3, hf⟩ := ob hf
      refine z_cVi (ci := 5) (T := TX5) (N := 13) (As := [.long v2, .long (v1.1 &&& (v2 ^^^ (-1 : Int64)))]) (rest := []) (zm_X5_join ev3).2 (zm_X5_join ev3).1 (by decide) rfl (Or.inl rfl) mw_45_11 mw_45_12 mw_45_13 mw_2_7 mw_45_14 yk_X5_join (by decide) (by decide) rfl (Nat.le_of_ble_eq_true rfl) rfl dX5_joinAll_46 ?_
      refine z_if_ne 54 hf dX5_joinAll_49 (by decide) (fun hf => ?_) (fun hf => ?_)
      · refine z_aload_n 2 dX5_joinAll_54 rfl rfl ?_
        refine z_gP (ci := 5) (k := 4) (C := RX5) (T := TX5) (N := 13) rfl inlX5 (by decide) mw_5_19 (fun _ _ _ _ h9 => h9) hf (by decide) rfl dX5_joinAll_55  (fun v4 hf => ?_)
        refine z_iconst 3 3 dX5_joinAll_58 (by decide) ?_
        refine z_dup2_11 dX5_joinAll_59 rfl rfl ?_
        refine z_aI hf dX5_joinAll_60  (fun v5 hf => ?_)
        refine z_iconst 1 1 dX5_joinAll_61 (by decide) ?_
        refine z_iadd dX5_joinAll_62 ?_
        refine z_sI hf dX5_joinAll_63  (fun d6 hf => ?_)
        refine z_iinc [(1, .int (l1 + 1)), (4, .long v2), (2, .long v1.1), (0, .ref l0)] 3 (l1 + 1) dX5_joinAll_64 rfl rfl (by decide) rfl ?_
        refine z_goto 2 dX5_joinAll_67 (by decide) ?_
        refine z_lv [(0, .ref l0), (1, .int (l1 + 1))] [3, 0] rfl ?_
        exact hk2 _ _ _ hf
      · refine z_lv [] [] rfl ?_
        exact zb_X5_joinAll_52 hE hf
    · refine z_lv [] [] rfl ?_
      exact zb_X5_joinAll_33 hE hf
set_option maxRecDepth 20000 in
theorem zb_X5_joinAll_2 {N : Nat} {sh : Sh} {r : Int32 × Dt} {E : EV} (hE : TG E (some (.int r.1)) (sh, r.2))  : ∀ (n : Nat) (l0 : Nat) (l1 : Int32) (d : Dt), f_X5_joinAll_2 N sh n l0 l1 d = some r → Z E yX5_joinAll cX5_joinAll 6 (some .boolean) 5 (sh, d) 2 [(0, .ref l0), (1, .int l1)] [] := by
  intro n
  induction n with
  | zero => intro l0 l1 d hf; cases hf
  | succ n ih => intro l0 l1 d hf; exact zg_X5_joinAll_2 hE ih hf
set_option maxRecDepth 20000 in
theorem zm_X5_joinAll {N : Nat} {sh : Sh} {d : Dt} {l0 : Nat} {r : Int32 × Dt} (hf : f_X5_joinAll N sh l0 d = some r) : isO sh l0 5 ∧ ∀ (l : Launch) (G : GG), Mt l G yX5_joinAll cX5_joinAll 6 (some .boolean) 5 [.ref l0] (sh, d) (some (.int r.1)) (sh, r.2) := by
  have hf0 := hf
  unfold f_X5_joinAll at hf
  refine ite_d hf (fun hO hf => ?_) (fun _ hf => ?_)
  · refine ⟨hO, fun l G => mt_of (Or.inl (by decide)) (Nat.le_of_ble_eq_true rfl) Le.rf (fun E hE => ?_)⟩
    show Z E yX5_joinAll cX5_joinAll 6 (some .boolean) 5 (sh, d) 0 [(0, .ref l0)] []
    refine z_iconst 0 0 dX5_joinAll_0 (by decide) ?_
    refine z_istore_n [(1, .int (0 : Int32)), (0, .ref l0)] dX5_joinAll_1 rfl (by decide) rfl ?_
    refine z_lv [(0, .ref l0), (1, .int (0 : Int32))] [1, 0] rfl ?_
    exact zb_X5_joinAll_2 hE N _ _ _ hf
  · cases hf
set_option maxRecDepth 20000 in
theorem zb_X4_firstPartner_75 {N : Nat} {sh : Sh} {d : Dt} {r : Int32} {E : EV} (hE : TG E (some (.int r)) (sh, d))   (hf : f_X4_firstPartner_75 N sh  d = some r) : Z E yX4_firstPartner cX4_firstPartner 5 (some .int) 3 (sh, d) 75 [] [] := by
  unfold f_X4_firstPartner_75 at hf
  refine z_iconst (-1) (-1) dX4_firstPartner_75 (by decide) ?_
  cases hf
  exact z_ireturn hE rfl dX4_firstPartner_76
set_option maxRecDepth 20000 in
theorem zb_X4_firstPartner_69 {N : Nat} {sh : Sh} {d : Dt} {k17 : Nat → Int32 → Int32 → Int32 → Int32 → Option Int32} {r : Int32} {E : EV} (hE : TG E (some (.int r)) (sh, d)) (hk17 : ∀ (l0 : Nat) (l1 : Int32) (l2 : Int32) (l3 : Int32) (l4 : Int32), k17 l0 l1 l2 l3 l4 = some r → Z E yX4_firstPartner cX4_firstPartner 5 (some .int) 3 (sh, d) 17 [(0, .ref l0), (1, .int l1), (2, .int l2), (3, .int l3), (4, .int l4)] []) {l0 : Nat} {l1 : Int32} {l2 : Int32} {l3 : Int32} {l4 : Int32} (hf : f_X4_firstPartner_69 N sh k17 l0 l1 l2 l3 l4 d = some r) : Z E yX4_firstPartner cX4_firstPartner 5 (some .int) 3 (sh, d) 69 [(0, .ref l0), (1, .int l1), (2, .int l2), (3, .int l3), (4, .int l4)] [] := by
  unfold f_X4_firstPartner_69 at hf
  refine z_iinc [(4, .int (l4 + 1)), (0, .ref l0), (1, .int l1), (2, .int l2), (3, .int l3)] 4 (l4 + 1) dX4_firstPartner_69 rfl rfl (by decide) rfl ?_
  refine z_goto 17 dX4_firstPartner_72 (by decide) ?_
  refine z_lv [(0, .ref l0), (1, .int l1), (2, .int l2), (3, .int l3), (4, .int (l4 + 1))] [1, 2, 3, 4, 0] rfl ?_
  exact hk17 _ _ _ _ _ hf
set_option maxRecDepth 20000 in
theorem zb_X4_firstPartner_66 {N : Nat} {sh : Sh} {d : Dt} {r : Int32} {E : EV} (hE : TG E (some (.int r)) (sh, d))  {l4 : Int32} (hf : f_X4_firstPartner_66 N sh l4 d = some r) : Z E yX4_firstPartner cX4_firstPartner 5 (some .int) 3 (sh, d) 66 [(4, .int l4)] [] := by
  unfold f_X4_firstPartner_66 at hf
  refine z_iload 0 dX4_firstPartner_66 rfl ?_
  cases hf
  exact z_ireturn hE rfl dX4_firstPartner_68
set_option maxRecDepth 20000 in
theorem zg_X4_firstPartner_17 {N : Nat} {sh : Sh} {d : Dt} {r : Int32} {k17 : Nat → Int32 → Int32 → Int32 → Int32 → Option Int32} {E : EV} (hE : TG E (some (.int r)) (sh, d))  (hk17 : ∀ (l0 : Nat) (l1 : Int32) (l2 : Int32) (l3 : Int32) (l4 : Int32), k17 l0 l1 l2 l3 l4 = some r → Z E yX4_firstPartner cX4_firstPartner 5 (some .int) 3 (sh, d) 17 [(0, .ref l0), (1, .int l1), (2, .int l2), (3, .int l3), (4, .int l4)] []) {l0 : Nat} {l1 : Int32} {l2 : Int32} {l3 : Int32} {l4 : Int32} (hf : g_X4_firstPartner_17 N sh k17 l0 l1 l2 l3 l4 d = some r) : Z E yX4_firstPartner cX4_firstPartner 5 (some .int) 3 (sh, d) 17 [(0, .ref l0), (1, .int l1), (2, .int l2), (3, .int l3), (4, .int l4)] [] := by
  unfold g_X4_firstPartner_17 at hf
  refine z_iload 4 dX4_firstPartner_17 rfl ?_
  refine z_aload_n 0 dX4_firstPartner_19 rfl rfl ?_
  refine z_gI (ci := 4) (k := 3) (C := RX4) (T := TX4) (N := 12) rfl inlX4 (by decide) mw_5_1 (fun _ _ _ _ h9 => h9) hf (by decide) rfl dX4_firstPartner_20  (fun v2 hf => ?_)
  refine z_icmp_ge 75 hf dX4_firstPartner_23 (by decide) (fun hf => ?_) (fun hf => ?_)
  · refine z_lv [] [] rfl ?_
    exact zb_X4_firstPartner_75 hE hf
  · refine z_iload_n 3 dX4_firstPartner_26 rfl rfl ?_
    refine z_iload 4 dX4_firstPartner_27 rfl ?_
    refine z_ishr dX4_firstPartner_29 ?_
    refine z_iconst 1 1 dX4_firstPartner_30 (by decide) ?_
    refine z_iand dX4_firstPartner_31 ?_
    refine z_iconst 1 1 dX4_firstPartner_32 (by decide) ?_
    refine z_icmp_ne 69 hf dX4_firstPartner_33 (by decide) (fun hf => ?_) (fun hf => ?_)
    · exact zb_X4_firstPartner_69 hE hk17 hf
    · refine z_aload_n 0 dX4_firstPartner_36 rfl rfl ?_
      refine z_gP (ci := 4) (k := 5) (C := RX4) (T := TX4) (N := 12) rfl inlX4 (by decide) mw_5_4 (fun _ _ _ _ h9 => h9) hf (by decide) rfl dX4_firstPartner_37  (fun v3 hf => ?_)
      refine z_iload_n 2 dX4_firstPartner_40 rfl rfl ?_
      refine z_aR hf dX4_firstPartner_41  (fun v4 hf => ?_)
      refine z_iload 4 dX4_firstPartner_42 rfl ?_
      refine z_aI hf dX4_firstPartner_44  (fun v5 hf => ?_)
      refine z_aload_n 0 dX4_firstPartner_45 rfl rfl ?_
      refine z_gQ (ci := 4) (k := 6) (C := RX4) (T := TX4) (N := 12) rfl inlX4 (by decide) mw_5_5 (fun _ _ _ _ h9 => h9) hf (by decide) rfl dX4_firstPartner_46  (fun v6 hf => ?_)
      refine z_iload_n 3 dX4_firstPartner_49 rfl rfl ?_
      refine z_iconst 1 1 dX4_firstPartner_50 (by decide) ?_
      refine z_iload 4 dX4_firstPartner_51 rfl ?_
      refine z_ishl dX4_firstPartner_53 ?_
      refine z_ixor dX4_firstPartner_54 ?_
      refine z_aI hf dX4_firstPartner_55  (fun v7 hf => ?_)
      refine z_iadd dX4_firstPartner_56 ?_
      refine z_aload_n 0 dX4_firstPartner_57 rfl rfl ?_
      refine z_gQ (ci := 4) (k := 6) (C := RX4) (T := TX4) (N := 12) rfl inlX4 (by decide) mw_5_5 (fun _ _ _ _ h9 => h9) hf (by decide) rfl dX4_firstPartner_58  (fun v8 hf => ?_)
      refine z_iload_n 1 dX4_firstPartner_61 rfl rfl ?_
      refine z_aI hf dX4_firstPartner_62  (fun v9 hf => ?_)
      refine z_icmp_ne 69 hf dX4_firstPartner_63 (by decide) (fun hf => ?_) (fun hf => ?_)
      · exact zb_X4_firstPartner_69 hE hk17 hf
      · refine z_lv [(4, .int l4)] [4] rfl ?_
        exact zb_X4_firstPartner_66 hE hf
set_option maxRecDepth 20000 in
theorem zb_X4_firstPartner_17 {N : Nat} {sh : Sh} {d : Dt} {r : Int32} {E : EV} (hE : TG E (some (.int r)) (sh, d))  : ∀ (n : Nat) (l0 : Nat) (l1 : Int32) (l2 : Int32) (l3 : Int32) (l4 : Int32), f_X4_firstPartner_17 N sh d n l0 l1 l2 l3 l4 = some r → Z E yX4_firstPartner cX4_firstPartner 5 (some .int) 3 (sh, d) 17 [(0, .ref l0), (1, .int l1), (2, .int l2), (3, .int l3), (4, .int l4)] [] := by
  intro n
  induction n with
  | zero => intro l0 l1 l2 l3 l4 hf; cases hf
  | succ n ih => intro l0 l1 l2 l3 l4 hf; exact zg_X4_firstPartner_17 hE ih hf
set_option maxRecDepth 20000 in
theorem zm_X4_firstPartner {N : Nat} {sh : Sh} {d : Dt} {l0 : Nat} {l1 : Int32} {r : Int32} (hf : f_X4_firstPartner N sh l0 l1 d = some r) : isO sh l0 4 ∧ ∀ (l : Launch) (G : GG), Mt l G yX4_firstPartner cX4_firstPartner 5 (some .int) 3 [.ref l0, .int l1] (sh, d) (some (.int r)) (sh, d) := by
  have hf0 := hf
  unfold f_X4_firstPartner at hf
  refine ite_d hf (fun hO hf => ?_) (fun _ hf => ?_)
  · refine ⟨hO, fun l G => mt_of (Or.inl (by decide)) (Nat.le_of_ble_eq_true rfl) Le.rf (fun E hE => ?_)⟩
    show Z E yX4_firstPartner cX4_firstPartner 5 (some .int) 3 (sh, d) 0 [(0, .ref l0), (1, .int l1)] []
    refine z_iload_n 1 dX4_firstPartner_0 rfl rfl ?_
    refine z_i2l dX4_firstPartner_1 ?_
    obtain ⟨v1, ev1, hf⟩ := ob hf
    refine z_cNi (As := [.long l1.toInt64]) (rest := []) (zm_X11_lowest ev1) (Or.inl rfl) (fun _ _ hK => hK.2.2.2.2.2.1) mw_17_2 mw_1_2 mw_17_3 yk_X11_lowest (by decide) (by decide) rfl (Nat.le_of_ble_eq_true rfl) rfl dX4_firstPartner_2 ?_
    refine z_istore_n [(2, .int v1), (0, .ref l0), (1, .int l1)] dX4_firstPartner_5 rfl (by decide) rfl ?_
    refine z_iload_n 2 dX4_firstPartner_6 rfl rfl ?_
    refine z_iload_n 2 dX4_firstPartner_7 rfl rfl ?_
    refine z_iconst 1 1 dX4_firstPartner_8 (by decide) ?_
    refine z_isub dX4_firstPartner_9 ?_
    refine z_iand dX4_firstPartner_10 ?_
    refine z_istore_n [(3, .int (l1 &&& (l1 - (1 : Int32)))), (2, .int v1), (0, .ref l0), (1, .int l1)] dX4_firstPartner_11 rfl (by decide) rfl ?_
    refine z_iload_n 1 dX4_firstPartner_12 rfl rfl ?_
    refine z_iconst 1 1 dX4_firstPartner_13 (by decide) ?_
    refine z_iadd dX4_firstPartner_14 ?_
    refine z_istore [(4, .int (v1 + (1 : Int32))), (3, .int (l1 &&& (l1 - (1 : Int32)))), (2, .int v1), (0, .ref l0), (1, .int l1)] dX4_firstPartner_15 (by decide) rfl ?_
    refine z_lv [(0, .ref l0), (1, .int l1), (2, .int v1), (3, .int (l1 &&& (l1 - (1 : Int32)))), (4, .int (v1 + (1 : Int32)))] [3, 4, 2, 1, 0] rfl ?_
    exact zb_X4_firstPartner_17 hE N _ _ _ _ _ hf
  · cases hf
set_option maxRecDepth 20000 in
theorem zb_X4_addPair_39 {N : Nat} {sh : Sh} {r : Dt} {E : EV} (hE : TG E none (sh, r))   {d : Dt} (hf : f_X4_addPair_39 N sh  d = some r) : Z E yX4_addPair cX4_addPair 3 none 1 (sh, d) 39 [] [] := by
  unfold f_X4_addPair_39 at hf
  cases hf
  exact z_return hE rfl dX4_addPair_39
set_option maxRecDepth 20000 in
theorem zm_X4_addPair {N : Nat} {sh : Sh} {d : Dt} {l0 : Nat} {l1 : Int32} {l2 : Int32} {r : Dt} (hf : f_X4_addPair N sh l0 l1 l2 d = some r) : isO sh l0 4 ∧ ∀ (l : Launch) (G : GG), Mt l G yX4_addPair cX4_addPair 3 none 1 [.ref l0, .int l1, .int l2] (sh, d) none (sh, r) := by
  have hf0 := hf
  unfold f_X4_addPair at hf
  refine ite_d hf (fun hO hf => ?_) (fun _ hf => ?_)
  · refine ⟨hO, fun l G => mt_of (Or.inl (by decide)) (Nat.le_of_ble_eq_true rfl) Le.rf (fun E hE => ?_)⟩
    show Z E yX4_addPair cX4_addPair 3 none 1 (sh, d) 0 [(0, .ref l0), (1, .int l1), (2, .int l2)] []
    refine z_aload_n 0 dX4_addPair_0 rfl rfl ?_
    refine z_gI (ci := 4) (k := 10) (C := RX4) (T := TX4) (N := 12) rfl inlX4 (by decide) mw_5_9 (fun _ _ _ _ h9 => h9) hf (by decide) rfl dX4_addPair_1  (fun v1 hf => ?_)
    refine z_bipush 30 30 dX4_addPair_4 (by decide) ?_
    refine z_icmp_ge 39 hf dX4_addPair_6 (by decide) (fun hf => ?_) (fun hf => ?_)
    · refine z_lv [] [] rfl ?_
      exact zb_X4_addPair_39 hE hf
    · refine z_aload_n 0 dX4_addPair_9 rfl rfl ?_
      refine z_gP (ci := 4) (k := 8) (C := RX4) (T := TX4) (N := 12) rfl inlX4 (by decide) mw_5_7 (fun _ _ _ _ h9 => h9) hf (by decide) rfl dX4_addPair_10  (fun v2 hf => ?_)
      refine z_aload_n 0 dX4_addPair_13 rfl rfl ?_
      refine z_gI (ci := 4) (k := 10) (C := RX4) (T := TX4) (N := 12) rfl inlX4 (by decide) mw_5_9 (fun _ _ _ _ h9 => h9) hf (by decide) rfl dX4_addPair_14  (fun v3 hf => ?_)
      refine z_iload_n 1 dX4_addPair_17 rfl rfl ?_
      refine z_sI hf dX4_addPair_18  (fun d4 hf => ?_)
      refine z_aload_n 0 dX4_addPair_19 rfl rfl ?_
      refine z_gP (ci := 4) (k := 9) (C := RX4) (T := TX4) (N := 12) rfl inlX4 (by decide) mw_5_8 (fun _ _ _ _ h9 => h9) hf (by decide) rfl dX4_addPair_20  (fun v5 hf => ?_)
      refine z_aload_n 0 dX4_addPair_23 rfl rfl ?_
      refine z_gI (ci := 4) (k := 10) (C := RX4) (T := TX4) (N := 12) rfl inlX4 (by decide) mw_5_9 (fun _ _ _ _ h9 => h9) hf (by decide) rfl dX4_addPair_24  (fun v6 hf => ?_)
      refine z_iload_n 2 dX4_addPair_27 rfl rfl ?_
      refine z_sI hf dX4_addPair_28  (fun d7 hf => ?_)
      refine z_aload_n 0 dX4_addPair_29 rfl rfl ?_
      refine z_dup dX4_addPair_30 rfl ?_
      refine z_gI (ci := 4) (k := 10) (C := RX4) (T := TX4) (N := 12) rfl inlX4 (by decide) mw_5_9 (fun _ _ _ _ h9 => h9) hf (by decide) rfl dX4_addPair_31  (fun v8 hf => ?_)
      refine z_iconst 1 1 dX4_addPair_34 (by decide) ?_
      refine z_iadd dX4_addPair_35 ?_
      refine z_pI (ci := 4) (k := 10) (C := RX4) (T := TX4) (N := 12) rfl inlX4 (by decide) mw_5_9 (fun _ _ _ _ h9 => h9) tyX4 tyX4_ok nmX4 rfl hf (Or.inl (by decide)) rfl rfl rfl dX4_addPair_36  (fun d9 hf => ?_)
      refine z_lv [] [] rfl ?_
      exact zb_X4_addPair_39 hE hf
  · cases hf
set_option maxRecDepth 20000 in
theorem zb_X4_pairExactly_69 {N : Nat} {sh : Sh} {r : Dt} {E : EV} (hE : TG E none (sh, r))   {d : Dt} (hf : f_X4_pairExactly_69 N sh  d = some r) : Z E yX4_pairExactly cX4_pairExactly 4 none 4 (sh, d) 69 [] [] := by
  unfold f_X4_pairExactly_69 at hf
  cases hf
  exact z_return hE rfl dX4_pairExactly_69
set_option maxRecDepth 20000 in
theorem zb_X4_pairExactly_32 {N : Nat} {sh : Sh} {r : Dt} {E : EV} (hE : TG E none (sh, r))   {d : Dt} (hf : f_X4_pairExactly_32 N sh  d = some r) : Z E yX4_pairExactly cX4_pairExactly 4 none 4 (sh, d) 32 [] [] := by
  unfold f_X4_pairExactly_32 at hf
  cases hf
  exact z_return hE rfl dX4_pairExactly_32
set_option maxRecDepth 20000 in
theorem zg_X4_pairExactly_11 {N : Nat} {sh : Sh} {r : Dt} {k11 : Nat → Int32 → Int32 → Dt → Option Dt} {E : EV} (hE : TG E none (sh, r))  (hk11 : ∀ (l0 : Nat) (l1 : Int32) (l2 : Int32) (d : Dt), k11 l0 l1 l2 d = some r → Z E yX4_pairExactly cX4_pairExactly 4 none 4 (sh, d) 11 [(0, .ref l0), (1, .int l1), (2, .int l2)] []) {l0 : Nat} {l1 : Int32} {l2 : Int32} {d : Dt} (hf : g_X4_pairExactly_11 N sh k11 l0 l1 l2 d = some r) : Z E yX4_pairExactly cX4_pairExactly 4 none 4 (sh, d) 11 [(0, .ref l0), (1, .int l1), (2, .int l2)] [] := by
  unfold g_X4_pairExactly_11 at hf
  refine z_iload_n 2 dX4_pairExactly_11 rfl rfl ?_
  refine z_bipush 14 14 dX4_pairExactly_12 (by decide) ?_
  refine z_icmp_ge 69 hf dX4_pairExactly_14 (by decide) (fun hf => ?_) (fun hf => ?_)
  · refine z_lv [] [] rfl ?_
    exact zb_X4_pairExactly_69 hE hf
  · refine z_iload_n 1 dX4_pairExactly_17 rfl rfl ?_
    refine z_if_eq 69 hf dX4_pairExactly_18 (by decide) (fun hf => ?_) (fun hf => ?_)
    · refine z_lv [] [] rfl ?_
      exact zb_X4_pairExactly_69 hE hf
    · refine z_aload_n 0 dX4_pairExactly_21 rfl rfl ?_
      refine z_iload_n 1 dX4_pairExactly_22 rfl rfl ?_
      obtain ⟨v2, ev2, hf⟩ := ob hf
      refine z_cVi (ci := 4) (T := TX4) (N := 12) (As := [.int l1]) (rest := []) (zm_X4_firstPartner ev2).2 (zm_X4_firstPartner ev2).1 (by decide) rfl (Or.inl rfl) mw_46_6 mw_46_7 mw_46_8 mw_2_3 mw_46_9 yk_X4_firstPartner (by decide) (by decide) rfl (Nat.le_of_ble_eq_true rfl) rfl dX4_pairExactly_23 ?_
      refine z_istore_n [(3, .int v2), (0, .ref l0), (1, .int l1), (2, .int l2)] dX4_pairExactly_26 rfl (by decide) rfl ?_
      refine z_iload_n 0 dX4_pairExactly_27 rfl rfl ?_
      refine z_iconst (-1) (-1) dX4_pairExactly_28 (by decide) ?_
      refine z_icmp_ne 33 hf dX4_pairExactly_29 (by decide) (fun hf => ?_) (fun hf => ?_)
      · refine z_aload_n 1 dX4_pairExactly_33 rfl rfl ?_
        refine z_aload_n 1 dX4_pairExactly_34 rfl rfl ?_
        refine z_gP (ci := 4) (k := 2) (C := RX4) (T := TX4) (N := 12) rfl inlX4 (by decide) mw_5_0 (fun _ _ _ _ h9 => h9) hf (by decide) rfl dX4_pairExactly_35  (fun v3 hf => ?_)
        refine z_iload_n 2 dX4_pairExactly_38 rfl rfl ?_
        refine z_i2l dX4_pairExactly_39 ?_
        obtain ⟨v4, ev4, hf⟩ := ob hf
        refine z_cNi (As := [.long l1.toInt64]) (rest := [.ref v3, .ref l0]) (zm_X11_lowest ev4) (Or.inl rfl) (fun _ _ hK => hK.2.2.2.2.2.1) mw_17_2 mw_1_2 mw_17_3 yk_X11_lowest (by decide) (by decide) rfl (Nat.le_of_ble_eq_true rfl) rfl dX4_pairExactly_40 ?_
        refine z_aI hf dX4_pairExactly_43  (fun v5 hf => ?_)
        refine z_aload_n 1 dX4_pairExactly_44 rfl rfl ?_
        refine z_gP (ci := 4) (k := 2) (C := RX4) (T := TX4) (N := 12) rfl inlX4 (by decide) mw_5_0 (fun _ _ _ _ h9 => h9) hf (by decide) rfl dX4_pairExactly_45  (fun v6 hf => ?_)
        refine z_iload_n 0 dX4_pairExactly_48 rfl rfl ?_
        refine z_aI hf dX4_pairExactly_49  (fun v7 hf => ?_)
        obtain ⟨v8, ev8, hf⟩ := ob hf
        refine z_cVv (ci := 4) (T := TX4) (N := 12) (As := [.int v5, .int v7]) (rest := []) (zm_X4_addPair ev8).2 (zm_X4_addPair ev8).1 (by decide) rfl (Or.inl rfl) mw_46_10 mw_46_11 mw_46_12 mw_2_3 mw_46_13 yk_X4_addPair (by decide) (by decide) rfl (Nat.le_of_ble_eq_true rfl) rfl dX4_pairExactly_50 ?_
        refine z_iload_n 2 dX4_pairExactly_53 rfl rfl ?_
        refine z_iload_n 2 dX4_pairExactly_54 rfl rfl ?_
        refine z_iconst 1 1 dX4_pairExactly_55 (by decide) ?_
        refine z_isub dX4_pairExactly_56 ?_
        refine z_iand dX4_pairExactly_57 ?_
        refine z_iconst 1 1 dX4_pairExactly_58 (by decide) ?_
        refine z_iload_n 0 dX4_pairExactly_59 rfl rfl ?_
        refine z_ishl dX4_pairExactly_60 ?_
        refine z_ixor dX4_pairExactly_61 ?_
        refine z_istore_n [(1, .int ((l1 &&& (l1 - (1 : Int32))) ^^^ ((1 : Int32) <<< (v2 &&& 31)))), (3, .int v2), (0, .ref l0), (2, .int l2)] dX4_pairExactly_62 rfl (by decide) rfl ?_
        refine z_iinc [(2, .int (l2 + 1)), (1, .int ((l1 &&& (l1 - (1 : Int32))) ^^^ ((1 : Int32) <<< (v2 &&& 31)))), (3, .int v2), (0, .ref l0)] 3 (l2 + 1) dX4_pairExactly_63 rfl rfl (by decide) rfl ?_
        refine z_goto 11 dX4_pairExactly_66 (by decide) ?_
        refine z_lv [(0, .ref l0), (1, .int ((l1 &&& (l1 - (1 : Int32))) ^^^ ((1 : Int32) <<< (v2 &&& 31)))), (2, .int (l2 + 1))] [3, 1, 0] rfl ?_
        exact hk11 _ _ _ _ hf
      · refine z_lv [] [] rfl ?_
        exact zb_X4_pairExactly_32 hE hf
set_option maxRecDepth 20000 in
theorem zb_X4_pairExactly_11 {N : Nat} {sh : Sh} {r : Dt} {E : EV} (hE : TG E none (sh, r))  : ∀ (n : Nat) (l0 : Nat) (l1 : Int32) (l2 : Int32) (d : Dt), f_X4_pairExactly_11 N sh n l0 l1 l2 d = some r → Z E yX4_pairExactly cX4_pairExactly 4 none 4 (sh, d) 11 [(0, .ref l0), (1, .int l1), (2, .int l2)] [] := by
  intro n
  induction n with
  | zero => intro l0 l1 l2 d hf; cases hf
  | succ n ih => intro l0 l1 l2 d hf; exact zg_X4_pairExactly_11 hE ih hf
set_option maxRecDepth 20000 in
theorem zm_X4_pairExactly {N : Nat} {sh : Sh} {d : Dt} {l0 : Nat} {r : Dt} (hf : f_X4_pairExactly N sh l0 d = some r) : isO sh l0 4 ∧ ∀ (l : Launch) (G : GG), Mt l G yX4_pairExactly cX4_pairExactly 4 none 4 [.ref l0] (sh, d) none (sh, r) := by
  have hf0 := hf
  unfold f_X4_pairExactly at hf
  refine ite_d hf (fun hO hf => ?_) (fun _ hf => ?_)
  · refine ⟨hO, fun l G => mt_of (Or.inl (by decide)) (Nat.le_of_ble_eq_true rfl) Le.rf (fun E hE => ?_)⟩
    show Z E yX4_pairExactly cX4_pairExactly 4 none 4 (sh, d) 0 [(0, .ref l0)] []
    refine z_iconst 1 1 dX4_pairExactly_0 (by decide) ?_
    refine z_aload_n 0 dX4_pairExactly_1 rfl rfl ?_
    refine z_gI (ci := 4) (k := 3) (C := RX4) (T := TX4) (N := 12) rfl inlX4 (by decide) mw_5_1 (fun _ _ _ _ h9 => h9) hf (by decide) rfl dX4_pairExactly_2  (fun v1 hf => ?_)
    refine z_ishl dX4_pairExactly_5 ?_
    refine z_iconst 1 1 dX4_pairExactly_6 (by decide) ?_
    refine z_isub dX4_pairExactly_7 ?_
    refine z_istore_n [(1, .int (((1 : Int32) <<< (v1 &&& 31)) - (1 : Int32))), (0, .ref l0)] dX4_pairExactly_8 rfl (by decide) rfl ?_
    refine z_iconst 0 0 dX4_pairExactly_9 (by decide) ?_
    refine z_istore_n [(2, .int (0 : Int32)), (1, .int (((1 : Int32) <<< (v1 &&& 31)) - (1 : Int32))), (0, .ref l0)] dX4_pairExactly_10 rfl (by decide) rfl ?_
    refine z_lv [(0, .ref l0), (1, .int (((1 : Int32) <<< (v1 &&& 31)) - (1 : Int32))), (2, .int (0 : Int32))] [2, 1, 0] rfl ?_
    exact zb_X4_pairExactly_11 hE N _ _ _ _ hf
  · cases hf
set_option maxRecDepth 20000 in
theorem zb_X4_pairInOrder_36 {N : Nat} {sh : Sh} {r : Dt} {E : EV} (hE : TG E none (sh, r))   {d : Dt} (hf : f_X4_pairInOrder_36 N sh  d = some r) : Z E yX4_pairInOrder cX4_pairInOrder 2 none 2 (sh, d) 36 [] [] := by
  unfold f_X4_pairInOrder_36 at hf
  cases hf
  exact z_return hE rfl dX4_pairInOrder_36
set_option maxRecDepth 20000 in
theorem zg_X4_pairInOrder_2 {N : Nat} {sh : Sh} {r : Dt} {k2 : Nat → Int32 → Dt → Option Dt} {E : EV} (hE : TG E none (sh, r))  (hk2 : ∀ (l0 : Nat) (l1 : Int32) (d : Dt), k2 l0 l1 d = some r → Z E yX4_pairInOrder cX4_pairInOrder 2 none 2 (sh, d) 2 [(0, .ref l0), (1, .int l1)] []) {l0 : Nat} {l1 : Int32} {d : Dt} (hf : g_X4_pairInOrder_2 N sh k2 l0 l1 d = some r) : Z E yX4_pairInOrder cX4_pairInOrder 2 none 2 (sh, d) 2 [(0, .ref l0), (1, .int l1)] [] := by
  unfold g_X4_pairInOrder_2 at hf
  refine z_iload_n 1 dX4_pairInOrder_2 rfl rfl ?_
  refine z_iconst 1 1 dX4_pairInOrder_3 (by decide) ?_
  refine z_iadd dX4_pairInOrder_4 ?_
  refine z_aload_n 0 dX4_pairInOrder_5 rfl rfl ?_
  refine z_gI (ci := 4) (k := 3) (C := RX4) (T := TX4) (N := 12) rfl inlX4 (by decide) mw_5_1 (fun _ _ _ _ h9 => h9) hf (by decide) rfl dX4_pairInOrder_6  (fun v1 hf => ?_)
  refine z_icmp_ge 36 hf dX4_pairInOrder_9 (by decide) (fun hf => ?_) (fun hf => ?_)
  · refine z_lv [] [] rfl ?_
    exact zb_X4_pairInOrder_36 hE hf
  · refine z_aload_n 0 dX4_pairInOrder_12 rfl rfl ?_
    refine z_aload_n 0 dX4_pairInOrder_13 rfl rfl ?_
    refine z_gP (ci := 4) (k := 2) (C := RX4) (T := TX4) (N := 12) rfl inlX4 (by decide) mw_5_0 (fun _ _ _ _ h9 => h9) hf (by decide) rfl dX4_pairInOrder_14  (fun v2 hf => ?_)
    refine z_iload_n 1 dX4_pairInOrder_17 rfl rfl ?_
    refine z_aI hf dX4_pairInOrder_18  (fun v3 hf => ?_)
    refine z_aload_n 0 dX4_pairInOrder_19 rfl rfl ?_
    refine z_gP (ci := 4) (k := 2) (C := RX4) (T := TX4) (N := 12) rfl inlX4 (by decide) mw_5_0 (fun _ _ _ _ h9 => h9) hf (by decide) rfl dX4_pairInOrder_20  (fun v4 hf => ?_)
    refine z_iload_n 1 dX4_pairInOrder_23 rfl rfl ?_
    refine z_iconst 1 1 dX4_pairInOrder_24 (by decide) ?_
    refine z_iadd dX4_pairInOrder_25 ?_
    refine z_aI hf dX4_pairInOrder_26  (fun v5 hf => ?_)
    obtain ⟨v6, ev6, hf⟩ := ob hf
    refine z_cVv (ci := 4) (T := TX4) (N := 12) (As := [.int v3, .int v5]) (rest := []) (zm_X4_addPair ev6).2 (zm_X4_addPair ev6).1 (by decide) rfl (Or.inl rfl) mw_46_10 mw_46_11 mw_46_12 mw_2_3 mw_46_13 yk_X4_addPair (by decide) (by decide) rfl (Nat.le_of_ble_eq_true rfl) rfl dX4_pairInOrder_27 ?_
    refine z_iinc [(1, .int (l1 + 2)), (0, .ref l0)] 1 (l1 + 2) dX4_pairInOrder_30 rfl rfl (by decide) rfl ?_
    refine z_goto 2 dX4_pairInOrder_33 (by decide) ?_
    refine z_lv [(0, .ref l0), (1, .int (l1 + 2))] [1, 0] rfl ?_
    exact hk2 _ _ _ hf
set_option maxRecDepth 20000 in
theorem zb_X4_pairInOrder_2 {N : Nat} {sh : Sh} {r : Dt} {E : EV} (hE : TG E none (sh, r))  : ∀ (n : Nat) (l0 : Nat) (l1 : Int32) (d : Dt), f_X4_pairInOrder_2 N sh n l0 l1 d = some r → Z E yX4_pairInOrder cX4_pairInOrder 2 none 2 (sh, d) 2 [(0, .ref l0), (1, .int l1)] [] := by
  intro n
  induction n with
  | zero => intro l0 l1 d hf; cases hf
  | succ n ih => intro l0 l1 d hf; exact zg_X4_pairInOrder_2 hE ih hf
set_option maxRecDepth 20000 in
theorem zm_X4_pairInOrder {N : Nat} {sh : Sh} {d : Dt} {l0 : Nat} {r : Dt} (hf : f_X4_pairInOrder N sh l0 d = some r) : isO sh l0 4 ∧ ∀ (l : Launch) (G : GG), Mt l G yX4_pairInOrder cX4_pairInOrder 2 none 2 [.ref l0] (sh, d) none (sh, r) := by
  have hf0 := hf
  unfold f_X4_pairInOrder at hf
  refine ite_d hf (fun hO hf => ?_) (fun _ hf => ?_)
  · refine ⟨hO, fun l G => mt_of (Or.inl (by decide)) (Nat.le_of_ble_eq_true rfl) Le.rf (fun E hE => ?_)⟩
    show Z E yX4_pairInOrder cX4_pairInOrder 2 none 2 (sh, d) 0 [(0, .ref l0)] []
    refine z_iconst 0 0 dX4_pairInOrder_0 (by decide) ?_
    refine z_istore_n [(1, .int (0 : Int32)), (0, .ref l0)] dX4_pairInOrder_1 rfl (by decide) rfl ?_
    refine z_lv [(0, .ref l0), (1, .int (0 : Int32))] [1, 0] rfl ?_
    exact zb_X4_pairInOrder_2 hE N _ _ _ hf
  · cases hf
set_option maxRecDepth 20000 in
theorem zm_X4_stand {N : Nat} {sh : Sh} {d : Dt} {l0 : Nat} {l1 : Int32} {l2 : Int32} {l3 : Int32} {r : Dt} (hf : f_X4_stand N sh l0 l1 l2 l3 d = some r) : isO sh l0 4 ∧ ∀ (l : Launch) (G : GG), Mt l G yX4_stand cX4_stand 4 none 1 [.ref l0, .int l1, .int l2, .int l3] (sh, d) none (sh, r) := by
  have hf0 := hf
  unfold f_X4_stand at hf
  refine ite_d hf (fun hO hf => ?_) (fun _ hf => ?_)
  · refine ⟨hO, fun l G => mt_of (Or.inl (by decide)) (Nat.le_of_ble_eq_true rfl) Le.rf (fun E hE => ?_)⟩
    show Z E yX4_stand cX4_stand 4 none 1 (sh, d) 0 [(0, .ref l0), (1, .int l1), (2, .int l2), (3, .int l3)] []
    refine z_aload_n 0 dX4_stand_0 rfl rfl ?_
    refine z_gP (ci := 4) (k := 8) (C := RX4) (T := TX4) (N := 12) rfl inlX4 (by decide) mw_5_7 (fun _ _ _ _ h9 => h9) hf (by decide) rfl dX4_stand_1  (fun v1 hf => ?_)
    refine z_iload_n 1 dX4_stand_4 rfl rfl ?_
    refine z_iload_n 2 dX4_stand_5 rfl rfl ?_
    refine z_iload_n 3 dX4_stand_6 rfl rfl ?_
    refine z_min mw_41_23 mw_9_20 mw_8_22 mw_9_21 (by decide) (Nat.le_of_ble_eq_true rfl) dX4_stand_7 ?_
    refine z_sI hf dX4_stand_10  (fun d2 hf => ?_)
    refine z_aload_n 0 dX4_stand_11 rfl rfl ?_
    refine z_gP (ci := 4) (k := 9) (C := RX4) (T := TX4) (N := 12) rfl inlX4 (by decide) mw_5_8 (fun _ _ _ _ h9 => h9) hf (by decide) rfl dX4_stand_12  (fun v3 hf => ?_)
    refine z_iload_n 1 dX4_stand_15 rfl rfl ?_
    refine z_iload_n 2 dX4_stand_16 rfl rfl ?_
    refine z_iload_n 3 dX4_stand_17 rfl rfl ?_
    refine z_max mw_47_10 mw_8_21 mw_8_22 mw_8_23 (by decide) (Nat.le_of_ble_eq_true rfl) dX4_stand_18 ?_
    refine z_sI hf dX4_stand_21  (fun d4 hf => ?_)
    cases hf
    exact z_return hE rfl dX4_stand_22
  · cases hf
set_option maxRecDepth 20000 in
theorem zm_X4_exchange {N : Nat} {sh : Sh} {d : Dt} {l0 : Nat} {l1 : Int32} {l2 : Int32} {r : Int32 × Dt} (hf : f_X4_exchange N sh l0 l1 l2 d = some r) : isO sh l0 4 ∧ ∀ (l : Launch) (G : GG), Mt l G yX4_exchange cX4_exchange 8 (some .boolean) 2 [.ref l0, .int l1, .int l2] (sh, d) (some (.int r.1)) (sh, r.2) := by
  have hf0 := hf
  unfold f_X4_exchange at hf
  refine ite_d hf (fun hO hf => ?_) (fun _ hf => ?_)
  · refine ⟨hO, fun l G => mt_of (Or.inl (by decide)) (Nat.le_of_ble_eq_true rfl) Le.rf (fun E hE => ?_)⟩
    show Z E yX4_exchange cX4_exchange 8 (some .boolean) 2 (sh, d) 0 [(0, .ref l0), (1, .int l1), (2, .int l2)] []
    refine z_aload_n 0 dX4_exchange_0 rfl rfl ?_
    refine z_gP (ci := 4) (k := 8) (C := RX4) (T := TX4) (N := 12) rfl inlX4 (by decide) mw_5_7 (fun _ _ _ _ h9 => h9) hf (by decide) rfl dX4_exchange_1  (fun v1 hf => ?_)
    refine z_iload_n 1 dX4_exchange_4 rfl rfl ?_
    refine z_aI hf dX4_exchange_5  (fun v2 hf => ?_)
    refine z_istore_n [(3, .int v2), (0, .ref l0), (1, .int l1), (2, .int l2)] dX4_exchange_6 rfl (by decide) rfl ?_
    refine z_aload_n 1 dX4_exchange_7 rfl rfl ?_
    refine z_gP (ci := 4) (k := 9) (C := RX4) (T := TX4) (N := 12) rfl inlX4 (by decide) mw_5_8 (fun _ _ _ _ h9 => h9) hf (by decide) rfl dX4_exchange_8  (fun v3 hf => ?_)
    refine z_iload_n 2 dX4_exchange_11 rfl rfl ?_
    refine z_aI hf dX4_exchange_12  (fun v4 hf => ?_)
    refine z_istore [(4, .int v4), (3, .int v2), (0, .ref l0), (1, .int l1), (2, .int l2)] dX4_exchange_13 (by decide) rfl ?_
    refine z_aload_n 2 dX4_exchange_15 rfl rfl ?_
    refine z_gP (ci := 4) (k := 8) (C := RX4) (T := TX4) (N := 12) rfl inlX4 (by decide) mw_5_7 (fun _ _ _ _ h9 => h9) hf (by decide) rfl dX4_exchange_16  (fun v5 hf => ?_)
    refine z_iload_n 4 dX4_exchange_19 rfl rfl ?_
    refine z_aI hf dX4_exchange_20  (fun v6 hf => ?_)
    refine z_istore [(5, .int v6), (4, .int v4), (3, .int v2), (0, .ref l0), (1, .int l1), (2, .int l2)] dX4_exchange_21 (by decide) rfl ?_
    refine z_aload_n 3 dX4_exchange_23 rfl rfl ?_
    refine z_gP (ci := 4) (k := 9) (C := RX4) (T := TX4) (N := 12) rfl inlX4 (by decide) mw_5_8 (fun _ _ _ _ h9 => h9) hf (by decide) rfl dX4_exchange_24  (fun v7 hf => ?_)
    refine z_iload_n 5 dX4_exchange_27 rfl rfl ?_
    refine z_aI hf dX4_exchange_28  (fun v8 hf => ?_)
    refine z_istore [(6, .int v8), (5, .int v6), (4, .int v4), (3, .int v2), (0, .ref l0), (1, .int l1), (2, .int l2)] dX4_exchange_29 (by decide) rfl ?_
    refine z_aload_n 4 dX4_exchange_31 rfl rfl ?_
    refine z_gP (ci := 4) (k := 1) (C := RX4) (T := TX4) (N := 12) rfl inlX4 (by decide) mw_5_12 (fun _ _ _ _ h9 => h9) hf (by decide) rfl dX4_exchange_32  (fun v9 hf => ?_)
    refine z_iload_n 3 dX4_exchange_35 rfl rfl ?_
    refine z_iload 2 dX4_exchange_36 rfl ?_
    obtain ⟨v10, ev10, hf⟩ := ob hf
    refine z_cVi (ci := 10) (T := TX10) (N := 6) (As := [.int v2, .int v4]) (rest := []) (zm_X10_between ev10).2 (zm_X10_between ev10).1 (by decide) rfl (Or.inl rfl) mw_41_11 mw_17_12 mw_17_13 mw_1_23 mw_17_14 yk_X10_between (by decide) (by decide) rfl (Nat.le_of_ble_eq_true rfl) rfl dX4_exchange_38 ?_
    refine z_aload_n 4 dX4_exchange_41 rfl rfl ?_
    refine z_gP (ci := 4) (k := 1) (C := RX4) (T := TX4) (N := 12) rfl inlX4 (by decide) mw_5_12 (fun _ _ _ _ h9 => h9) hf (by decide) rfl dX4_exchange_42  (fun v11 hf => ?_)
    refine z_iload 1 dX4_exchange_45 rfl ?_
    refine z_iload 0 dX4_exchange_47 rfl ?_
    obtain ⟨v12, ev12, hf⟩ := ob hf
    refine z_cVi (ci := 10) (T := TX10) (N := 6) (As := [.int v6, .int v8]) (rest := [.int v10]) (zm_X10_between ev12).2 (zm_X10_between ev12).1 (by decide) rfl (Or.inl rfl) mw_41_11 mw_17_12 mw_17_13 mw_1_23 mw_17_14 yk_X10_between (by decide) (by decide) rfl (Nat.le_of_ble_eq_true rfl) rfl dX4_exchange_49 ?_
    refine z_iadd dX4_exchange_52 ?_
    refine z_istore [(7, .int (v10 + v12)), (6, .int v8), (5, .int v6), (4, .int v4), (3, .int v2), (0, .ref l0), (1, .int l1), (2, .int l2)] dX4_exchange_53 (by decide) rfl ?_
    refine z_aload_n 5 dX4_exchange_55 rfl rfl ?_
    refine z_gP (ci := 4) (k := 1) (C := RX4) (T := TX4) (N := 12) rfl inlX4 (by decide) mw_5_12 (fun _ _ _ _ h9 => h9) hf (by decide) rfl dX4_exchange_56  (fun v13 hf => ?_)
    refine z_iload_n 4 dX4_exchange_59 rfl rfl ?_
    refine z_iload 2 dX4_exchange_60 rfl ?_
    obtain ⟨v14, ev14, hf⟩ := ob hf
    refine z_cVi (ci := 10) (T := TX10) (N := 6) (As := [.int v2, .int v6]) (rest := []) (zm_X10_between ev14).2 (zm_X10_between ev14).1 (by decide) rfl (Or.inl rfl) mw_41_11 mw_17_12 mw_17_13 mw_1_23 mw_17_14 yk_X10_between (by decide) (by decide) rfl (Nat.le_of_ble_eq_true rfl) rfl dX4_exchange_62 ?_
    refine z_aload_n 5 dX4_exchange_65 rfl rfl ?_
    refine z_gP (ci := 4) (k := 1) (C := RX4) (T := TX4) (N := 12) rfl inlX4 (by decide) mw_5_12 (fun _ _ _ _ h9 => h9) hf (by decide) rfl dX4_exchange_66  (fun v15 hf => ?_)
    refine z_iload 3 dX4_exchange_69 rfl ?_
    refine z_iload 1 dX4_exchange_71 rfl ?_
    obtain ⟨v16, ev16, hf⟩ := ob hf
    refine z_cVi (ci := 10) (T := TX10) (N := 6) (As := [.int v4, .int v8]) (rest := [.int v14]) (zm_X10_between ev16).2 (zm_X10_between ev16).1 (by decide) rfl (Or.inl rfl) mw_41_11 mw_17_12 mw_17_13 mw_1_23 mw_17_14 yk_X10_between (by decide) (by decide) rfl (Nat.le_of_ble_eq_true rfl) rfl dX4_exchange_73 ?_
    refine z_iadd dX4_exchange_76 ?_
    refine z_iload 0 dX4_exchange_77 rfl ?_
    refine z_icmp_ge 101 hf dX4_exchange_79 (by decide) (fun hf => ?_) (fun hf => ?_)
    · refine z_aload_n 5 dX4_exchange_101 rfl rfl ?_
      refine z_gP (ci := 4) (k := 1) (C := RX4) (T := TX4) (N := 12) rfl inlX4 (by decide) mw_5_12 (fun _ _ _ _ h9 => h9) hf (by decide) rfl dX4_exchange_102  (fun v17 hf => ?_)
      refine z_iload_n 4 dX4_exchange_105 rfl rfl ?_
      refine z_iload 1 dX4_exchange_106 rfl ?_
      obtain ⟨v18, ev18, hf⟩ := ob hf
      refine z_cVi (ci := 10) (T := TX10) (N := 6) (As := [.int v2, .int v8]) (rest := []) (zm_X10_between ev18).2 (zm_X10_between ev18).1 (by decide) rfl (Or.inl rfl) mw_41_11 mw_17_12 mw_17_13 mw_1_23 mw_17_14 yk_X10_between (by decide) (by decide) rfl (Nat.le_of_ble_eq_true rfl) rfl dX4_exchange_108 ?_
      refine z_aload_n 5 dX4_exchange_111 rfl rfl ?_
      refine z_gP (ci := 4) (k := 1) (C := RX4) (T := TX4) (N := 12) rfl inlX4 (by decide) mw_5_12 (fun _ _ _ _ h9 => h9) hf (by decide) rfl dX4_exchange_112  (fun v19 hf => ?_)
      refine z_iload 3 dX4_exchange_115 rfl ?_
      refine z_iload 2 dX4_exchange_117 rfl ?_
      obtain ⟨v20, ev20, hf⟩ := ob hf
      refine z_cVi (ci := 10) (T := TX10) (N := 6) (As := [.int v4, .int v6]) (rest := [.int v18]) (zm_X10_between ev20).2 (zm_X10_between ev20).1 (by decide) rfl (Or.inl rfl) mw_41_11 mw_17_12 mw_17_13 mw_1_23 mw_17_14 yk_X10_between (by decide) (by decide) rfl (Nat.le_of_ble_eq_true rfl) rfl dX4_exchange_119 ?_
      refine z_iadd dX4_exchange_122 ?_
      refine z_iload 0 dX4_exchange_123 rfl ?_
      refine z_icmp_ge 147 hf dX4_exchange_125 (by decide) (fun hf => ?_) (fun hf => ?_)
      · refine z_iconst 0 0 dX4_exchange_147 (by decide) ?_
        cases hf
        exact z_zreturn hE rfl (by decide) dX4_exchange_148
      · refine z_aload_n 5 dX4_exchange_128 rfl rfl ?_
        refine z_iload_n 6 dX4_exchange_129 rfl rfl ?_
        refine z_iload_n 4 dX4_exchange_130 rfl rfl ?_
        refine z_iload 1 dX4_exchange_131 rfl ?_
        obtain ⟨v21, ev21, hf⟩ := ob hf
        refine z_cVv (ci := 4) (T := TX4) (N := 12) (As := [.int l1, .int v2, .int v8]) (rest := []) (zm_X4_stand ev21).2 (zm_X4_stand ev21).1 (by decide) rfl (Or.inl rfl) mw_47_6 mw_47_7 mw_47_8 mw_2_3 mw_47_9 yk_X4_stand (by decide) (by decide) rfl (Nat.le_of_ble_eq_true rfl) rfl dX4_exchange_133 ?_
        refine z_aload_n 5 dX4_exchange_136 rfl rfl ?_
        refine z_iload_n 7 dX4_exchange_137 rfl rfl ?_
        refine z_iload 3 dX4_exchange_138 rfl ?_
        refine z_iload 2 dX4_exchange_140 rfl ?_
        obtain ⟨v22, ev22, hf⟩ := ob hf
        refine z_cVv (ci := 4) (T := TX4) (N := 12) (As := [.int l2, .int v4, .int v6]) (rest := []) (zm_X4_stand ev22).2 (zm_X4_stand ev22).1 (by decide) rfl (Or.inl rfl) mw_47_6 mw_47_7 mw_47_8 mw_2_3 mw_47_9 yk_X4_stand (by decide) (by decide) rfl (Nat.le_of_ble_eq_true rfl) rfl dX4_exchange_142 ?_
        refine z_iconst 1 1 dX4_exchange_145 (by decide) ?_
        cases hf
        exact z_zreturn hE rfl (by decide) dX4_exchange_146
    · refine z_aload_n 5 dX4_exchange_82 rfl rfl ?_
      refine z_iload_n 6 dX4_exchange_83 rfl rfl ?_
      refine z_iload_n 4 dX4_exchange_84 rfl rfl ?_
      refine z_iload 2 dX4_exchange_85 rfl ?_
      obtain ⟨v23, ev23, hf⟩ := ob hf
      refine z_cVv (ci := 4) (T := TX4) (N := 12) (As := [.int l1, .int v2, .int v6]) (rest := []) (zm_X4_stand ev23).2 (zm_X4_stand ev23).1 (by decide) rfl (Or.inl rfl) mw_47_6 mw_47_7 mw_47_8 mw_2_3 mw_47_9 yk_X4_stand (by decide) (by decide) rfl (Nat.le_of_ble_eq_true rfl) rfl dX4_exchange_87 ?_
      refine z_aload_n 5 dX4_exchange_90 rfl rfl ?_
      refine z_iload_n 7 dX4_exchange_91 rfl rfl ?_
      refine z_iload 3 dX4_exchange_92 rfl ?_
      refine z_iload 1 dX4_exchange_94 rfl ?_
      obtain ⟨v24, ev24, hf⟩ := ob hf
      refine z_cVv (ci := 4) (T := TX4) (N := 12) (As := [.int l2, .int v4, .int v8]) (rest := []) (zm_X4_stand ev24).2 (zm_X4_stand ev24).1 (by decide) rfl (Or.inl rfl) mw_47_6 mw_47_7 mw_47_8 mw_2_3 mw_47_9 yk_X4_stand (by decide) (by decide) rfl (Nat.le_of_ble_eq_true rfl) rfl dX4_exchange_96 ?_
      refine z_iconst 1 1 dX4_exchange_99 (by decide) ?_
      cases hf
      exact z_zreturn hE rfl (by decide) dX4_exchange_100
  · cases hf
set_option maxRecDepth 20000 in
theorem zb_X4_exchangeFirst_45 {N : Nat} {sh : Sh} {r : Int32 × Dt} {E : EV} (hE : TG E (some (.int r.1)) (sh, r.2))   {d : Dt} (hf : f_X4_exchangeFirst_45 N sh  d = some r) : Z E yX4_exchangeFirst cX4_exchangeFirst 3 (some .boolean) 3 (sh, d) 45 [] [] := by
  unfold f_X4_exchangeFirst_45 at hf
  refine z_iconst 0 0 dX4_exchangeFirst_45 (by decide) ?_
  cases hf
  exact z_zreturn hE rfl (by decide) dX4_exchangeFirst_46
set_option maxRecDepth 20000 in
theorem zb_X4_exchangeFirst_39 {N : Nat} {sh : Sh} {k2 : Nat → Int32 → Dt → Option (Int32 × Dt)} {r : Int32 × Dt} {E : EV} (hE : TG E (some (.int r.1)) (sh, r.2)) (hk2 : ∀ (l0 : Nat) (l1 : Int32) (d : Dt), k2 l0 l1 d = some r → Z E yX4_exchangeFirst cX4_exchangeFirst 3 (some .boolean) 3 (sh, d) 2 [(0, .ref l0), (1, .int l1)] []) {l0 : Nat} {l1 : Int32} {d : Dt} (hf : f_X4_exchangeFirst_39 N sh k2 l0 l1 d = some r) : Z E yX4_exchangeFirst cX4_exchangeFirst 3 (some .boolean) 3 (sh, d) 39 [(0, .ref l0), (1, .int l1)] [] := by
  unfold f_X4_exchangeFirst_39 at hf
  refine z_iinc [(1, .int (l1 + 1)), (0, .ref l0)] 1 (l1 + 1) dX4_exchangeFirst_39 rfl rfl (by decide) rfl ?_
  refine z_goto 2 dX4_exchangeFirst_42 (by decide) ?_
  refine z_lv [(0, .ref l0), (1, .int (l1 + 1))] [1, 0] rfl ?_
  exact hk2 _ _ _ hf
set_option maxRecDepth 20000 in
theorem zb_X4_exchangeFirst_31 {N : Nat} {sh : Sh} {r : Int32 × Dt} {E : EV} (hE : TG E (some (.int r.1)) (sh, r.2))   {d : Dt} (hf : f_X4_exchangeFirst_31 N sh  d = some r) : Z E yX4_exchangeFirst cX4_exchangeFirst 3 (some .boolean) 3 (sh, d) 31 [] [] := by
  unfold f_X4_exchangeFirst_31 at hf
  refine z_iconst 1 1 dX4_exchangeFirst_31 (by decide) ?_
  cases hf
  exact z_zreturn hE rfl (by decide) dX4_exchangeFirst_32
set_option maxRecDepth 20000 in
theorem zg_X4_exchangeFirst_14 {N : Nat} {sh : Sh} {k2 : Nat → Int32 → Dt → Option (Int32 × Dt)} {r : Int32 × Dt} {k14 : Nat → Int32 → Int32 → Dt → Option (Int32 × Dt)} {E : EV} (hE : TG E (some (.int r.1)) (sh, r.2)) (hk2 : ∀ (l0 : Nat) (l1 : Int32) (d : Dt), k2 l0 l1 d = some r → Z E yX4_exchangeFirst cX4_exchangeFirst 3 (some .boolean) 3 (sh, d) 2 [(0, .ref l0), (1, .int l1)] []) (hk14 : ∀ (l0 : Nat) (l1 : Int32) (l2 : Int32) (d : Dt), k14 l0 l1 l2 d = some r → Z E yX4_exchangeFirst cX4_exchangeFirst 3 (some .boolean) 3 (sh, d) 14 [(0, .ref l0), (1, .int l1), (2, .int l2)] []) {l0 : Nat} {l1 : Int32} {l2 : Int32} {d : Dt} (hf : g_X4_exchangeFirst_14 N sh k2 k14 l0 l1 l2 d = some r) : Z E yX4_exchangeFirst cX4_exchangeFirst 3 (some .boolean) 3 (sh, d) 14 [(0, .ref l0), (1, .int l1), (2, .int l2)] [] := by
  unfold g_X4_exchangeFirst_14 at hf
  refine z_iload_n 2 dX4_exchangeFirst_14 rfl rfl ?_
  refine z_aload_n 0 dX4_exchangeFirst_15 rfl rfl ?_
  refine z_gI (ci := 4) (k := 10) (C := RX4) (T := TX4) (N := 12) rfl inlX4 (by decide) mw_5_9 (fun _ _ _ _ h9 => h9) hf (by decide) rfl dX4_exchangeFirst_16  (fun v2 hf => ?_)
  refine z_icmp_ge 39 hf dX4_exchangeFirst_19 (by decide) (fun hf => ?_) (fun hf => ?_)
  · refine z_lv [(0, .ref l0), (1, .int l1)] [0, 1] rfl ?_
    exact zb_X4_exchangeFirst_39 hE hk2 hf
  · refine z_aload_n 0 dX4_exchangeFirst_22 rfl rfl ?_
    refine z_iload_n 1 dX4_exchangeFirst_23 rfl rfl ?_
    refine z_iload_n 2 dX4_exchangeFirst_24 rfl rfl ?_
    obtain ⟨v3, ev3, hf⟩ := ob hf
    refine z_cVi (ci := 4) (T := TX4) (N := 12) (As := [.int l1, .int l2]) (rest := []) (zm_X4_exchange ev3).2 (zm_X4_exchange ev3).1 (by decide) rfl (Or.inl rfl) mw_47_2 mw_47_3 mw_47_4 mw_2_3 mw_47_5 yk_X4_exchange (by decide) (by decide) rfl (Nat.le_of_ble_eq_true rfl) rfl dX4_exchangeFirst_25 ?_
    refine z_if_eq 33 hf dX4_exchangeFirst_28 (by decide) (fun hf => ?_) (fun hf => ?_)
    · refine z_iinc [(2, .int (l2 + 1)), (0, .ref l0), (1, .int l1)] 2 (l2 + 1) dX4_exchangeFirst_33 rfl rfl (by decide) rfl ?_
      refine z_goto 14 dX4_exchangeFirst_36 (by decide) ?_
      refine z_lv [(0, .ref l0), (1, .int l1), (2, .int (l2 + 1))] [1, 2, 0] rfl ?_
      exact hk14 _ _ _ _ hf
    · refine z_lv [] [] rfl ?_
      exact zb_X4_exchangeFirst_31 hE hf
set_option maxRecDepth 20000 in
theorem zb_X4_exchangeFirst_14 {N : Nat} {sh : Sh} {k2 : Nat → Int32 → Dt → Option (Int32 × Dt)} {r : Int32 × Dt} {E : EV} (hE : TG E (some (.int r.1)) (sh, r.2)) (hk2 : ∀ (l0 : Nat) (l1 : Int32) (d : Dt), k2 l0 l1 d = some r → Z E yX4_exchangeFirst cX4_exchangeFirst 3 (some .boolean) 3 (sh, d) 2 [(0, .ref l0), (1, .int l1)] []) : ∀ (n : Nat) (l0 : Nat) (l1 : Int32) (l2 : Int32) (d : Dt), f_X4_exchangeFirst_14 N sh k2 n l0 l1 l2 d = some r → Z E yX4_exchangeFirst cX4_exchangeFirst 3 (some .boolean) 3 (sh, d) 14 [(0, .ref l0), (1, .int l1), (2, .int l2)] [] := by
  intro n
  induction n with
  | zero => intro l0 l1 l2 d hf; cases hf
  | succ n ih => intro l0 l1 l2 d hf; exact zg_X4_exchangeFirst_14 hE hk2 ih hf
set_option maxRecDepth 20000 in
theorem zg_X4_exchangeFirst_2 {N : Nat} {sh : Sh} {r : Int32 × Dt} {k2 : Nat → Int32 → Dt → Option (Int32 × Dt)} {E : EV} (hE : TG E (some (.int r.1)) (sh, r.2))  (hk2 : ∀ (l0 : Nat) (l1 : Int32) (d : Dt), k2 l0 l1 d = some r → Z E yX4_exchangeFirst cX4_exchangeFirst 3 (some .boolean) 3 (sh, d) 2 [(0, .ref l0), (1, .int l1)] []) {l0 : Nat} {l1 : Int32} {d : Dt} (hf : g_X4_exchangeFirst_2 N sh k2 l0 l1 d = some r) : Z E yX4_exchangeFirst cX4_exchangeFirst 3 (some .boolean) 3 (sh, d) 2 [(0, .ref l0), (1, .int l1)] [] := by
  unfold g_X4_exchangeFirst_2 at hf
  refine z_iload_n 1 dX4_exchangeFirst_2 rfl rfl ?_
  refine z_aload_n 0 dX4_exchangeFirst_3 rfl rfl ?_
  refine z_gI (ci := 4) (k := 10) (C := RX4) (T := TX4) (N := 12) rfl inlX4 (by decide) mw_5_9 (fun _ _ _ _ h9 => h9) hf (by decide) rfl dX4_exchangeFirst_4  (fun v1 hf => ?_)
  refine z_icmp_ge 45 hf dX4_exchangeFirst_7 (by decide) (fun hf => ?_) (fun hf => ?_)
  · refine z_lv [] [] rfl ?_
    exact zb_X4_exchangeFirst_45 hE hf
  · refine z_iload_n 1 dX4_exchangeFirst_10 rfl rfl ?_
    refine z_iconst 1 1 dX4_exchangeFirst_11 (by decide) ?_
    refine z_iadd dX4_exchangeFirst_12 ?_
    refine z_istore_n [(2, .int (l1 + (1 : Int32))), (0, .ref l0), (1, .int l1)] dX4_exchangeFirst_13 rfl (by decide) rfl ?_
    refine z_lv [(0, .ref l0), (1, .int l1), (2, .int (l1 + (1 : Int32)))] [1, 2, 0] rfl ?_
    exact zb_X4_exchangeFirst_14 hE hk2 N _ _ _ _ hf
set_option maxRecDepth 20000 in
theorem zb_X4_exchangeFirst_2 {N : Nat} {sh : Sh} {r : Int32 × Dt} {E : EV} (hE : TG E (some (.int r.1)) (sh, r.2))  : ∀ (n : Nat) (l0 : Nat) (l1 : Int32) (d : Dt), f_X4_exchangeFirst_2 N sh n l0 l1 d = some r → Z E yX4_exchangeFirst cX4_exchangeFirst 3 (some .boolean) 3 (sh, d) 2 [(0, .ref l0), (1, .int l1)] [] := by
  intro n
  induction n with
  | zero => intro l0 l1 d hf; cases hf
  | succ n ih => intro l0 l1 d hf; exact zg_X4_exchangeFirst_2 hE ih hf
set_option maxRecDepth 20000 in
theorem zm_X4_exchangeFirst {N : Nat} {sh : Sh} {d : Dt} {l0 : Nat} {r : Int32 × Dt} (hf : f_X4_exchangeFirst N sh l0 d = some r) : isO sh l0 4 ∧ ∀ (l : Launch) (G : GG), Mt l G yX4_exchangeFirst cX4_exchangeFirst 3 (some .boolean) 3 [.ref l0] (sh, d) (some (.int r.1)) (sh, r.2) := by
  have hf0 := hf
  unfold f_X4_exchangeFirst at hf
  refine ite_d hf (fun hO hf => ?_) (fun _ hf => ?_)
  · refine ⟨hO, fun l G => mt_of (Or.inl (by decide)) (Nat.le_of_ble_eq_true rfl) Le.rf (fun E hE => ?_)⟩
    show Z E yX4_exchangeFirst cX4_exchangeFirst 3 (some .boolean) 3 (sh, d) 0 [(0, .ref l0)] []
    refine z_iconst 0 0 dX4_exchangeFirst_0 (by decide) ?_
    refine z_istore_n [(1, .int (0 : Int32)), (0, .ref l0)] dX4_exchangeFirst_1 rfl (by decide) rfl ?_
    refine z_lv [(0, .ref l0), (1, .int (0 : Int32))] [1, 0] rfl ?_
    exact zb_X4_exchangeFirst_2 hE N _ _ _ hf
  · cases hf
set_option maxRecDepth 20000 in
theorem zb_X4_exchangeAll_30 {N : Nat} {sh : Sh} {r : Dt} {E : EV} (hE : TG E none (sh, r))   {d : Dt} (hf : f_X4_exchangeAll_30 N sh  d = some r) : Z E yX4_exchangeAll cX4_exchangeAll 1 none 4 (sh, d) 30 [] [] := by
  unfold f_X4_exchangeAll_30 at hf
  cases hf
  exact z_return hE rfl dX4_exchangeAll_30
set_option maxRecDepth 20000 in
theorem zg_X4_exchangeAll_0 {N : Nat} {sh : Sh} {r : Dt} {k0 : Nat → Dt → Option Dt} {E : EV} (hE : TG E none (sh, r))  (hk0 : ∀ (l0 : Nat) (d : Dt), k0 l0 d = some r → Z E yX4_exchangeAll cX4_exchangeAll 1 none 4 (sh, d) 0 [(0, .ref l0)] []) {l0 : Nat} {d : Dt} (hf : g_X4_exchangeAll_0 N sh k0 l0 d = some r) : Z E yX4_exchangeAll cX4_exchangeAll 1 none 4 (sh, d) 0 [(0, .ref l0)] [] := by
  unfold g_X4_exchangeAll_0 at hf
  refine z_aload_n 0 dX4_exchangeAll_0 rfl rfl ?_
  refine z_gI (ci := 4) (k := 11) (C := RX4) (T := TX4) (N := 12) rfl inlX4 (by decide) mw_5_10 (fun _ _ _ _ h9 => h9) hf (by decide) rfl dX4_exchangeAll_1  (fun v1 hf => ?_)
  refine z_sipush 1000 1000 dX4_exchangeAll_4 (by decide) ?_
  refine z_icmp_ge 30 hf dX4_exchangeAll_7 (by decide) (fun hf => ?_) (fun hf => ?_)
  · refine z_lv [] [] rfl ?_
    exact zb_X4_exchangeAll_30 hE hf
  · refine z_aload_n 0 dX4_exchangeAll_10 rfl rfl ?_
    obtain ⟨v2, ev2, hf⟩ := ob hf
    refine z_cVi (ci := 4) (T := TX4) (N := 12) (As := []) (rest := []) (zm_X4_exchangeFirst ev2).2 (zm_X4_exchangeFirst ev2).1 (by decide) rfl (Or.inl rfl) mw_46_22 mw_46_23 mw_47_0 mw_2_3 mw_47_1 yk_X4_exchangeFirst (by decide) (by decide) rfl (Nat.le_of_ble_eq_true rfl) rfl dX4_exchangeAll_11 ?_
    refine z_if_eq 30 hf dX4_exchangeAll_14 (by decide) (fun hf => ?_) (fun hf => ?_)
    · refine z_lv [] [] rfl ?_
      exact zb_X4_exchangeAll_30 hE hf
    · refine z_aload_n 0 dX4_exchangeAll_17 rfl rfl ?_
      refine z_dup dX4_exchangeAll_18 rfl ?_
      refine z_gI (ci := 4) (k := 11) (C := RX4) (T := TX4) (N := 12) rfl inlX4 (by decide) mw_5_10 (fun _ _ _ _ h9 => h9) hf (by decide) rfl dX4_exchangeAll_19  (fun v3 hf => ?_)
      refine z_iconst 1 1 dX4_exchangeAll_22 (by decide) ?_
      refine z_iadd dX4_exchangeAll_23 ?_
      refine z_pI (ci := 4) (k := 11) (C := RX4) (T := TX4) (N := 12) rfl inlX4 (by decide) mw_5_10 (fun _ _ _ _ h9 => h9) tyX4 tyX4_ok nmX4 rfl hf (Or.inl (by decide)) rfl rfl rfl dX4_exchangeAll_24  (fun d4 hf => ?_)
      refine z_goto 0 dX4_exchangeAll_27 (by decide) ?_
      exact hk0 _ _ hf
set_option maxRecDepth 20000 in
theorem zb_X4_exchangeAll_0 {N : Nat} {sh : Sh} {r : Dt} {E : EV} (hE : TG E none (sh, r))  : ∀ (n : Nat) (l0 : Nat) (d : Dt), f_X4_exchangeAll_0 N sh n l0 d = some r → Z E yX4_exchangeAll cX4_exchangeAll 1 none 4 (sh, d) 0 [(0, .ref l0)] [] := by
  intro n
  induction n with
  | zero => intro l0 d hf; cases hf
  | succ n ih => intro l0 d hf; exact zg_X4_exchangeAll_0 hE ih hf
set_option maxRecDepth 20000 in
theorem zm_X4_exchangeAll {N : Nat} {sh : Sh} {d : Dt} {l0 : Nat} {r : Dt} (hf : f_X4_exchangeAll N sh l0 d = some r) : isO sh l0 4 ∧ ∀ (l : Launch) (G : GG), Mt l G yX4_exchangeAll cX4_exchangeAll 1 none 4 [.ref l0] (sh, d) none (sh, r) := by
  have hf0 := hf
  unfold f_X4_exchangeAll at hf
  refine ite_d hf (fun hO hf => ?_) (fun _ hf => ?_)
  · refine ⟨hO, fun l G => mt_of (Or.inl (by decide)) (Nat.le_of_ble_eq_true rfl) Le.rf (fun E hE => ?_)⟩
    show Z E yX4_exchangeAll cX4_exchangeAll 1 none 4 (sh, d) 0 [(0, .ref l0)] []
    exact zb_X4_exchangeAll_0 hE N _ _ hf
  · cases hf
